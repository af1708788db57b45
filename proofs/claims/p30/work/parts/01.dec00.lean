set_option maxRecDepth 20000 in
theorem ggX0_init_X3_init : GoodIn wsX0_init wsX3_init := goodIn_r _ [11, 12, 2, 3, 13, 14, 15, 16, 17, 18, 19, 20, 21, 22, 23, 24, 25, 26, 27, 28, 29, 30, 31, 32, 33, 34, 35, 36, 37, 38, 39, 40, 41, 42, 43, 44, 45, 46, 47, 48, 49, 50, 51, 52, 53, 54, 55, 56, 57, 58, 59, 60, 61, 62, 63, 64, 65, 66, 67, 68, 69, 70, 71, 72, 73, 74, 75, 76, 77, 80, 81, 82, 83, 84, 85, 86, 87, 88, 89, 90, 91, 92, 93, 94, 95, 96, 97, 98, 99, 100, 101, 102, 103, 104, 105, 106, 107, 108, 109, 110, 111, 112, 113, 114, 115, 116, 117] (by decide +kernel) (by decide +kernel)
set_option maxRecDepth 20000 in
theorem gX0_init_X3_init : GoodIn wsX0_init (wsX3_init) := ggX0_init_X3_init
theorem dX0_init_0 : decode cX0_init 0 = .ok (.aload_n 0, 1) := by decide +kernel
theorem dX0_init_1 : decode cX0_init 1 = .ok (.invokespecial 3, 3) := by decide +kernel
theorem dX0_init_4 : decode cX0_init 4 = .ok (.aload_n 0, 1) := by decide +kernel
theorem dX0_init_5 : decode cX0_init 5 = .ok (.iconst 4, 1) := by decide +kernel
theorem dX0_init_6 : decode cX0_init 6 = .ok (.anewarray 9, 3) := by decide +kernel
theorem dX0_init_9 : decode cX0_init 9 = .ok (.putfield 11, 3) := by decide +kernel
theorem dX0_init_12 : decode cX0_init 12 = .ok (.aload_n 0, 1) := by decide +kernel
theorem dX0_init_13 : decode cX0_init 13 = .ok (.iconst 0, 1) := by decide +kernel
theorem dX0_init_14 : decode cX0_init 14 = .ok (.putfield 17, 3) := by decide +kernel
theorem dX0_init_17 : decode cX0_init 17 = .ok (.iconst 0, 1) := by decide +kernel
theorem dX0_init_18 : decode cX0_init 18 = .ok (.istore_n 1, 1) := by decide +kernel
theorem dX0_init_19 : decode cX0_init 19 = .ok (.iload_n 1, 1) := by decide +kernel
theorem dX0_init_20 : decode cX0_init 20 = .ok (.aload_n 0, 1) := by decide +kernel
theorem dX0_init_21 : decode cX0_init 21 = .ok (.getfield 11, 3) := by decide +kernel
theorem dX0_init_24 : decode cX0_init 24 = .ok (.arraylength, 1) := by decide +kernel
theorem dX0_init_25 : decode cX0_init 25 = .ok (.if_icmp .ge 22, 3) := by decide +kernel
theorem dX0_init_28 : decode cX0_init 28 = .ok (.aload_n 0, 1) := by decide +kernel
theorem dX0_init_29 : decode cX0_init 29 = .ok (.getfield 11, 3) := by decide +kernel
theorem dX0_init_32 : decode cX0_init 32 = .ok (.iload_n 1, 1) := by decide +kernel
theorem dX0_init_33 : decode cX0_init 33 = .ok (.new 9, 3) := by decide +kernel
theorem dX0_init_36 : decode cX0_init 36 = .ok (.dup, 1) := by decide +kernel
theorem dX0_init_37 : decode cX0_init 37 = .ok (.invokespecial 21, 3) := by decide +kernel
theorem dX0_init_40 : decode cX0_init 40 = .ok (.aastore, 1) := by decide +kernel
theorem dX0_init_41 : decode cX0_init 41 = .ok (.iinc 1 1, 3) := by decide +kernel
theorem dX0_init_44 : decode cX0_init 44 = .ok (.goto (-25), 3) := by decide +kernel
theorem dX0_init_47 : decode cX0_init 47 = .ok (.return_, 1) := by decide +kernel
theorem dX0_isEmpty_0 : decode cX0_isEmpty 0 = .ok (.aload_n 0, 1) := by decide +kernel
theorem dX0_isEmpty_1 : decode cX0_isEmpty 1 = .ok (.getfield 17, 3) := by decide +kernel
theorem dX0_isEmpty_4 : decode cX0_isEmpty 4 = .ok (.ifCond .ne 7, 3) := by decide +kernel
theorem dX0_isEmpty_7 : decode cX0_isEmpty 7 = .ok (.iconst 1, 1) := by decide +kernel
theorem dX0_isEmpty_8 : decode cX0_isEmpty 8 = .ok (.goto 4, 3) := by decide +kernel
theorem dX0_isEmpty_11 : decode cX0_isEmpty 11 = .ok (.iconst 0, 1) := by decide +kernel
theorem dX0_isEmpty_12 : decode cX0_isEmpty 12 = .ok (.ireturn, 1) := by decide +kernel
set_option maxRecDepth 20000 in
theorem ggX0_keep_X0_dropOldest : GoodIn wsX0_keep wsX0_dropOldest := goodIn_r _ [7, 2, 1, 78, 79] (by decide +kernel) (by decide +kernel)
set_option maxRecDepth 20000 in
theorem gX0_keep_X0_dropOldest : GoodIn wsX0_keep (wsV RX0 22 RX0 yX0_dropOldest wsX0_dropOldest) := goodIn_app (goodIn_of _ (by decide +kernel)) ggX0_keep_X0_dropOldest
set_option maxRecDepth 20000 in
theorem ggX0_keep_X3_copyFrom : GoodIn wsX0_keep wsX3_copyFrom := goodIn_r _ [12, 13, 14, 15, 16, 17, 18, 19, 20, 21, 22, 23, 24, 25, 26, 27, 28, 29, 30, 31, 32, 33, 34, 35, 36, 37, 38, 39, 40, 41, 42, 43, 44, 45, 46, 47, 48, 49, 50, 51, 52, 53, 54, 55, 56, 57, 58, 59, 60, 61, 62, 63, 64, 65, 66, 67, 68, 69, 70, 71, 72, 73, 74, 75, 76, 77, 80, 81, 82, 83, 84, 85, 86, 87, 88, 89, 90, 91, 92, 93, 94, 95, 96, 97, 98, 99, 100, 101, 102, 103, 104, 105, 106, 107, 108, 109, 110, 111, 112, 113, 114, 115, 116, 117] (by decide +kernel) (by decide +kernel)
set_option maxRecDepth 20000 in
theorem gX0_keep_X3_copyFrom : GoodIn wsX0_keep (wsV RX0 25 RX3 yX3_copyFrom wsX3_copyFrom) := goodIn_app (goodIn_of _ (by decide +kernel)) ggX0_keep_X3_copyFrom
theorem dX0_keep_0 : decode cX0_keep 0 = .ok (.aload_n 0, 1) := by decide +kernel
theorem dX0_keep_1 : decode cX0_keep 1 = .ok (.getfield 17, 3) := by decide +kernel
theorem dX0_keep_4 : decode cX0_keep 4 = .ok (.aload_n 0, 1) := by decide +kernel
theorem dX0_keep_5 : decode cX0_keep 5 = .ok (.getfield 11, 3) := by decide +kernel
theorem dX0_keep_8 : decode cX0_keep 8 = .ok (.arraylength, 1) := by decide +kernel
theorem dX0_keep_9 : decode cX0_keep 9 = .ok (.if_icmp .lt 7, 3) := by decide +kernel
theorem dX0_keep_12 : decode cX0_keep 12 = .ok (.aload_n 0, 1) := by decide +kernel
theorem dX0_keep_13 : decode cX0_keep 13 = .ok (.invokevirtual 22, 3) := by decide +kernel
theorem dX0_keep_16 : decode cX0_keep 16 = .ok (.aload_n 0, 1) := by decide +kernel
theorem dX0_keep_17 : decode cX0_keep 17 = .ok (.getfield 17, 3) := by decide +kernel
theorem dX0_keep_20 : decode cX0_keep 20 = .ok (.ifCond .lt 38, 3) := by decide +kernel
theorem dX0_keep_23 : decode cX0_keep 23 = .ok (.aload_n 0, 1) := by decide +kernel
theorem dX0_keep_24 : decode cX0_keep 24 = .ok (.getfield 17, 3) := by decide +kernel
theorem dX0_keep_27 : decode cX0_keep 27 = .ok (.aload_n 0, 1) := by decide +kernel
theorem dX0_keep_28 : decode cX0_keep 28 = .ok (.getfield 11, 3) := by decide +kernel
theorem dX0_keep_31 : decode cX0_keep 31 = .ok (.arraylength, 1) := by decide +kernel
theorem dX0_keep_32 : decode cX0_keep 32 = .ok (.if_icmp .ge 26, 3) := by decide +kernel
theorem dX0_keep_35 : decode cX0_keep 35 = .ok (.aload_n 0, 1) := by decide +kernel
theorem dX0_keep_36 : decode cX0_keep 36 = .ok (.getfield 11, 3) := by decide +kernel
theorem dX0_keep_39 : decode cX0_keep 39 = .ok (.aload_n 0, 1) := by decide +kernel
theorem dX0_keep_40 : decode cX0_keep 40 = .ok (.getfield 17, 3) := by decide +kernel
theorem dX0_keep_43 : decode cX0_keep 43 = .ok (.aaload, 1) := by decide +kernel
theorem dX0_keep_44 : decode cX0_keep 44 = .ok (.aload_n 1, 1) := by decide +kernel
theorem dX0_keep_45 : decode cX0_keep 45 = .ok (.invokevirtual 25, 3) := by decide +kernel
theorem dX0_keep_48 : decode cX0_keep 48 = .ok (.aload_n 0, 1) := by decide +kernel
theorem dX0_keep_49 : decode cX0_keep 49 = .ok (.dup, 1) := by decide +kernel
theorem dX0_keep_50 : decode cX0_keep 50 = .ok (.getfield 17, 3) := by decide +kernel
theorem dX0_keep_53 : decode cX0_keep 53 = .ok (.iconst 1, 1) := by decide +kernel
theorem dX0_keep_54 : decode cX0_keep 54 = .ok (.iadd, 1) := by decide +kernel
theorem dX0_keep_55 : decode cX0_keep 55 = .ok (.putfield 17, 3) := by decide +kernel
theorem dX0_keep_58 : decode cX0_keep 58 = .ok (.return_, 1) := by decide +kernel
theorem dX0_dropOldest_0 : decode cX0_dropOldest 0 = .ok (.aload_n 0, 1) := by decide +kernel
theorem dX0_dropOldest_1 : decode cX0_dropOldest 1 = .ok (.getfield 11, 3) := by decide +kernel
theorem dX0_dropOldest_4 : decode cX0_dropOldest 4 = .ok (.iconst 0, 1) := by decide +kernel
theorem dX0_dropOldest_5 : decode cX0_dropOldest 5 = .ok (.aaload, 1) := by decide +kernel
theorem dX0_dropOldest_6 : decode cX0_dropOldest 6 = .ok (.astore_n 1, 1) := by decide +kernel
theorem dX0_dropOldest_7 : decode cX0_dropOldest 7 = .ok (.iconst 1, 1) := by decide +kernel
theorem dX0_dropOldest_8 : decode cX0_dropOldest 8 = .ok (.istore_n 2, 1) := by decide +kernel
theorem dX0_dropOldest_9 : decode cX0_dropOldest 9 = .ok (.iload_n 2, 1) := by decide +kernel
theorem dX0_dropOldest_10 : decode cX0_dropOldest 10 = .ok (.aload_n 0, 1) := by decide +kernel
theorem dX0_dropOldest_11 : decode cX0_dropOldest 11 = .ok (.getfield 11, 3) := by decide +kernel
theorem dX0_dropOldest_14 : decode cX0_dropOldest 14 = .ok (.arraylength, 1) := by decide +kernel
theorem dX0_dropOldest_15 : decode cX0_dropOldest 15 = .ok (.if_icmp .ge 23, 3) := by decide +kernel
theorem dX0_dropOldest_18 : decode cX0_dropOldest 18 = .ok (.aload_n 0, 1) := by decide +kernel
theorem dX0_dropOldest_19 : decode cX0_dropOldest 19 = .ok (.getfield 11, 3) := by decide +kernel
theorem dX0_dropOldest_22 : decode cX0_dropOldest 22 = .ok (.iload_n 2, 1) := by decide +kernel
theorem dX0_dropOldest_23 : decode cX0_dropOldest 23 = .ok (.iconst 1, 1) := by decide +kernel
theorem dX0_dropOldest_24 : decode cX0_dropOldest 24 = .ok (.isub, 1) := by decide +kernel
theorem dX0_dropOldest_25 : decode cX0_dropOldest 25 = .ok (.aload_n 0, 1) := by decide +kernel
theorem dX0_dropOldest_26 : decode cX0_dropOldest 26 = .ok (.getfield 11, 3) := by decide +kernel
theorem dX0_dropOldest_29 : decode cX0_dropOldest 29 = .ok (.iload_n 2, 1) := by decide +kernel
theorem dX0_dropOldest_30 : decode cX0_dropOldest 30 = .ok (.aaload, 1) := by decide +kernel
theorem dX0_dropOldest_31 : decode cX0_dropOldest 31 = .ok (.aastore, 1) := by decide +kernel
theorem dX0_dropOldest_32 : decode cX0_dropOldest 32 = .ok (.iinc 2 1, 3) := by decide +kernel
theorem dX0_dropOldest_35 : decode cX0_dropOldest 35 = .ok (.goto (-26), 3) := by decide +kernel
theorem dX0_dropOldest_38 : decode cX0_dropOldest 38 = .ok (.aload_n 0, 1) := by decide +kernel
theorem dX0_dropOldest_39 : decode cX0_dropOldest 39 = .ok (.getfield 11, 3) := by decide +kernel
theorem dX0_dropOldest_42 : decode cX0_dropOldest 42 = .ok (.aload_n 0, 1) := by decide +kernel
theorem dX0_dropOldest_43 : decode cX0_dropOldest 43 = .ok (.getfield 11, 3) := by decide +kernel
theorem dX0_dropOldest_46 : decode cX0_dropOldest 46 = .ok (.arraylength, 1) := by decide +kernel
theorem dX0_dropOldest_47 : decode cX0_dropOldest 47 = .ok (.iconst 1, 1) := by decide +kernel
theorem dX0_dropOldest_48 : decode cX0_dropOldest 48 = .ok (.isub, 1) := by decide +kernel
theorem dX0_dropOldest_49 : decode cX0_dropOldest 49 = .ok (.aload_n 1, 1) := by decide +kernel
theorem dX0_dropOldest_50 : decode cX0_dropOldest 50 = .ok (.aastore, 1) := by decide +kernel
theorem dX0_dropOldest_51 : decode cX0_dropOldest 51 = .ok (.aload_n 0, 1) := by decide +kernel
theorem dX0_dropOldest_52 : decode cX0_dropOldest 52 = .ok (.dup, 1) := by decide +kernel
theorem dX0_dropOldest_53 : decode cX0_dropOldest 53 = .ok (.getfield 17, 3) := by decide +kernel
theorem dX0_dropOldest_56 : decode cX0_dropOldest 56 = .ok (.iconst 1, 1) := by decide +kernel
theorem dX0_dropOldest_57 : decode cX0_dropOldest 57 = .ok (.isub, 1) := by decide +kernel
theorem dX0_dropOldest_58 : decode cX0_dropOldest 58 = .ok (.putfield 17, 3) := by decide +kernel
theorem dX0_dropOldest_61 : decode cX0_dropOldest 61 = .ok (.return_, 1) := by decide +kernel
set_option maxRecDepth 20000 in
theorem ggX0_takeBack_X3_copyFrom : GoodIn wsX0_takeBack wsX3_copyFrom := goodIn_r _ [7, 8, 9, 10, 11, 12, 13, 14, 15, 16, 17, 18, 19, 20, 21, 22, 23, 24, 25, 26, 27, 28, 29, 30, 31, 32, 33, 34, 35, 36, 37, 38, 39, 40, 41, 42, 43, 44, 45, 46, 47, 48, 49, 50, 51, 52, 53, 54, 55, 56, 57, 58, 59, 60, 61, 62, 63, 64, 65, 66, 67, 68, 69, 70, 71, 72, 75, 76, 77, 78, 79, 80, 81, 82, 83, 84, 85, 86, 87, 88, 89, 90, 91, 92, 93, 94, 95, 96, 97, 98, 99, 100, 101, 102, 103, 104, 105, 106, 107, 108, 109, 110, 111, 112] (by decide +kernel) (by decide +kernel)
set_option maxRecDepth 20000 in
theorem gX0_takeBack_X3_copyFrom : GoodIn wsX0_takeBack (wsV RX0 25 RX3 yX3_copyFrom wsX3_copyFrom) := goodIn_app (goodIn_of _ (by decide +kernel)) ggX0_takeBack_X3_copyFrom
theorem dX0_takeBack_0 : decode cX0_takeBack 0 = .ok (.aload_n 0, 1) := by decide +kernel
theorem dX0_takeBack_1 : decode cX0_takeBack 1 = .ok (.getfield 17, 3) := by decide +kernel
theorem dX0_takeBack_4 : decode cX0_takeBack 4 = .ok (.ifCond .le 38, 3) := by decide +kernel
theorem dX0_takeBack_7 : decode cX0_takeBack 7 = .ok (.aload_n 0, 1) := by decide +kernel
theorem dX0_takeBack_8 : decode cX0_takeBack 8 = .ok (.getfield 17, 3) := by decide +kernel
theorem dX0_takeBack_11 : decode cX0_takeBack 11 = .ok (.aload_n 0, 1) := by decide +kernel
theorem dX0_takeBack_12 : decode cX0_takeBack 12 = .ok (.getfield 11, 3) := by decide +kernel
theorem dX0_takeBack_15 : decode cX0_takeBack 15 = .ok (.arraylength, 1) := by decide +kernel
theorem dX0_takeBack_16 : decode cX0_takeBack 16 = .ok (.if_icmp .gt 26, 3) := by decide +kernel
theorem dX0_takeBack_19 : decode cX0_takeBack 19 = .ok (.aload_n 0, 1) := by decide +kernel
theorem dX0_takeBack_20 : decode cX0_takeBack 20 = .ok (.dup, 1) := by decide +kernel
theorem dX0_takeBack_21 : decode cX0_takeBack 21 = .ok (.getfield 17, 3) := by decide +kernel
theorem dX0_takeBack_24 : decode cX0_takeBack 24 = .ok (.iconst 1, 1) := by decide +kernel
theorem dX0_takeBack_25 : decode cX0_takeBack 25 = .ok (.isub, 1) := by decide +kernel
theorem dX0_takeBack_26 : decode cX0_takeBack 26 = .ok (.putfield 17, 3) := by decide +kernel
theorem dX0_takeBack_29 : decode cX0_takeBack 29 = .ok (.aload_n 1, 1) := by decide +kernel
theorem dX0_takeBack_30 : decode cX0_takeBack 30 = .ok (.aload_n 0, 1) := by decide +kernel
theorem dX0_takeBack_31 : decode cX0_takeBack 31 = .ok (.getfield 11, 3) := by decide +kernel
theorem dX0_takeBack_34 : decode cX0_takeBack 34 = .ok (.aload_n 0, 1) := by decide +kernel
theorem dX0_takeBack_35 : decode cX0_takeBack 35 = .ok (.getfield 17, 3) := by decide +kernel
theorem dX0_takeBack_38 : decode cX0_takeBack 38 = .ok (.aaload, 1) := by decide +kernel
theorem dX0_takeBack_39 : decode cX0_takeBack 39 = .ok (.invokevirtual 25, 3) := by decide +kernel
theorem dX0_takeBack_42 : decode cX0_takeBack 42 = .ok (.return_, 1) := by decide +kernel
set_option maxRecDepth 20000 in
theorem ggX1_init_X7_init : GoodIn wsX1_init wsX7_init := goodIn_r _ [8, 9, 10, 11, 12, 13, 14, 15, 16, 17, 18, 19, 20, 21, 22, 23, 24, 25, 26, 27, 28, 29, 30, 31, 32, 33, 34, 35, 36, 37] (by decide +kernel) (by decide +kernel)
set_option maxRecDepth 20000 in
theorem gX1_init_X7_init : GoodIn wsX1_init (wsX7_init) := ggX1_init_X7_init
theorem dX1_init_0 : decode cX1_init 0 = .ok (.aload_n 0, 1) := by decide +kernel
theorem dX1_init_1 : decode cX1_init 1 = .ok (.iload_n 1, 1) := by decide +kernel
theorem dX1_init_2 : decode cX1_init 2 = .ok (.invokespecial 3, 3) := by decide +kernel
theorem dX1_init_5 : decode cX1_init 5 = .ok (.aload_n 0, 1) := by decide +kernel
theorem dX1_init_6 : decode cX1_init 6 = .ok (.iconst 0, 1) := by decide +kernel
theorem dX1_init_7 : decode cX1_init 7 = .ok (.putfield 9, 3) := by decide +kernel
theorem dX1_init_10 : decode cX1_init 10 = .ok (.aload_n 0, 1) := by decide +kernel
theorem dX1_init_11 : decode cX1_init 11 = .ok (.iconst 0, 1) := by decide +kernel
theorem dX1_init_12 : decode cX1_init 12 = .ok (.putfield 15, 3) := by decide +kernel
theorem dX1_init_15 : decode cX1_init 15 = .ok (.aload_n 0, 1) := by decide +kernel
theorem dX1_init_16 : decode cX1_init 16 = .ok (.iconst 0, 1) := by decide +kernel
theorem dX1_init_17 : decode cX1_init 17 = .ok (.putfield 18, 3) := by decide +kernel
theorem dX1_init_20 : decode cX1_init 20 = .ok (.aload_n 0, 1) := by decide +kernel
theorem dX1_init_21 : decode cX1_init 21 = .ok (.iconst 0, 1) := by decide +kernel
theorem dX1_init_22 : decode cX1_init 22 = .ok (.putfield 21, 3) := by decide +kernel
theorem dX1_init_25 : decode cX1_init 25 = .ok (.return_, 1) := by decide +kernel
theorem dX1_put_0 : decode cX1_put 0 = .ok (.aload_n 0, 1) := by decide +kernel
theorem dX1_put_1 : decode cX1_put 1 = .ok (.iconst 1, 1) := by decide +kernel
theorem dX1_put_2 : decode cX1_put 2 = .ok (.putfield 25, 3) := by decide +kernel
theorem dX1_put_5 : decode cX1_put 5 = .ok (.aload_n 0, 1) := by decide +kernel
theorem dX1_put_6 : decode cX1_put 6 = .ok (.iload_n 1, 1) := by decide +kernel
theorem dX1_put_7 : decode cX1_put 7 = .ok (.putfield 28, 3) := by decide +kernel
theorem dX1_put_10 : decode cX1_put 10 = .ok (.aload_n 0, 1) := by decide +kernel
theorem dX1_put_11 : decode cX1_put 11 = .ok (.iload_n 2, 1) := by decide +kernel
theorem dX1_put_12 : decode cX1_put 12 = .ok (.putfield 9, 3) := by decide +kernel
theorem dX1_put_15 : decode cX1_put 15 = .ok (.aload_n 0, 1) := by decide +kernel
theorem dX1_put_16 : decode cX1_put 16 = .ok (.iload_n 3, 1) := by decide +kernel
theorem dX1_put_17 : decode cX1_put 17 = .ok (.putfield 15, 3) := by decide +kernel
theorem dX1_put_20 : decode cX1_put 20 = .ok (.aload_n 0, 1) := by decide +kernel
theorem dX1_put_21 : decode cX1_put 21 = .ok (.iconst 0, 1) := by decide +kernel
theorem dX1_put_22 : decode cX1_put 22 = .ok (.putfield 18, 3) := by decide +kernel
theorem dX1_put_25 : decode cX1_put 25 = .ok (.aload_n 0, 1) := by decide +kernel
theorem dX1_put_26 : decode cX1_put 26 = .ok (.iconst 0, 1) := by decide +kernel
theorem dX1_put_27 : decode cX1_put 27 = .ok (.putfield 21, 3) := by decide +kernel
theorem dX1_put_30 : decode cX1_put 30 = .ok (.return_, 1) := by decide +kernel
set_option maxRecDepth 20000 in
theorem ggX1_copyFrom_X7_copyThing : GoodIn wsX1_copyFrom wsX7_copyThing := goodIn_r _ [10, 11, 12, 13, 14, 15, 16, 17, 18, 19, 20, 21, 22, 23, 24, 25, 26, 27, 28, 29, 30, 31, 32, 33, 34, 35] (by decide +kernel) (by decide +kernel)
set_option maxRecDepth 20000 in
theorem gX1_copyFrom_X7_copyThing_u31X1 : GoodIn wsX1_copyFrom (va_wsU RX1 31 RX1 "MainsWords$Thing" ⟨"MainsWords$Lamp", "copyThing", "(LMainsWords$Thing;)V"⟩ yX7_copyThing wsX7_copyThing) := goodIn_app (goodIn_of _ (by decide +kernel)) ggX1_copyFrom_X7_copyThing
theorem dX1_copyFrom_0 : decode cX1_copyFrom 0 = .ok (.aload_n 0, 1) := by decide +kernel
theorem dX1_copyFrom_1 : decode cX1_copyFrom 1 = .ok (.aload_n 1, 1) := by decide +kernel
theorem dX1_copyFrom_2 : decode cX1_copyFrom 2 = .ok (.invokevirtual 31, 3) := by decide +kernel
theorem dX1_copyFrom_5 : decode cX1_copyFrom 5 = .ok (.aload_n 0, 1) := by decide +kernel
theorem dX1_copyFrom_6 : decode cX1_copyFrom 6 = .ok (.aload_n 1, 1) := by decide +kernel
theorem dX1_copyFrom_7 : decode cX1_copyFrom 7 = .ok (.getfield 9, 3) := by decide +kernel
theorem dX1_copyFrom_10 : decode cX1_copyFrom 10 = .ok (.putfield 9, 3) := by decide +kernel
theorem dX1_copyFrom_13 : decode cX1_copyFrom 13 = .ok (.aload_n 0, 1) := by decide +kernel
theorem dX1_copyFrom_14 : decode cX1_copyFrom 14 = .ok (.aload_n 1, 1) := by decide +kernel
theorem dX1_copyFrom_15 : decode cX1_copyFrom 15 = .ok (.getfield 15, 3) := by decide +kernel
theorem dX1_copyFrom_18 : decode cX1_copyFrom 18 = .ok (.putfield 15, 3) := by decide +kernel
theorem dX1_copyFrom_21 : decode cX1_copyFrom 21 = .ok (.aload_n 0, 1) := by decide +kernel
theorem dX1_copyFrom_22 : decode cX1_copyFrom 22 = .ok (.aload_n 1, 1) := by decide +kernel
theorem dX1_copyFrom_23 : decode cX1_copyFrom 23 = .ok (.getfield 18, 3) := by decide +kernel
theorem dX1_copyFrom_26 : decode cX1_copyFrom 26 = .ok (.putfield 18, 3) := by decide +kernel
theorem dX1_copyFrom_29 : decode cX1_copyFrom 29 = .ok (.aload_n 0, 1) := by decide +kernel
theorem dX1_copyFrom_30 : decode cX1_copyFrom 30 = .ok (.aload_n 1, 1) := by decide +kernel
theorem dX1_copyFrom_31 : decode cX1_copyFrom 31 = .ok (.getfield 21, 3) := by decide +kernel
theorem dX1_copyFrom_34 : decode cX1_copyFrom 34 = .ok (.putfield 21, 3) := by decide +kernel
theorem dX1_copyFrom_37 : decode cX1_copyFrom 37 = .ok (.return_, 1) := by decide +kernel
theorem dX1_isCalledBy_0 : decode cX1_isCalledBy 0 = .ok (.aload_n 0, 1) := by decide +kernel
theorem dX1_isCalledBy_1 : decode cX1_isCalledBy 1 = .ok (.getfield 25, 3) := by decide +kernel
theorem dX1_isCalledBy_4 : decode cX1_isCalledBy 4 = .ok (.ifCond .eq 23, 3) := by decide +kernel
theorem dX1_isCalledBy_7 : decode cX1_isCalledBy 7 = .ok (.aload_n 0, 1) := by decide +kernel
theorem dX1_isCalledBy_8 : decode cX1_isCalledBy 8 = .ok (.getfield 28, 3) := by decide +kernel
theorem dX1_isCalledBy_11 : decode cX1_isCalledBy 11 = .ok (.iload_n 1, 1) := by decide +kernel
theorem dX1_isCalledBy_12 : decode cX1_isCalledBy 12 = .ok (.if_icmp .ne 15, 3) := by decide +kernel
theorem dX1_isCalledBy_15 : decode cX1_isCalledBy 15 = .ok (.aload_n 0, 1) := by decide +kernel
theorem dX1_isCalledBy_16 : decode cX1_isCalledBy 16 = .ok (.getfield 9, 3) := by decide +kernel
theorem dX1_isCalledBy_19 : decode cX1_isCalledBy 19 = .ok (.iload_n 2, 1) := by decide +kernel
theorem dX1_isCalledBy_20 : decode cX1_isCalledBy 20 = .ok (.if_icmp .ne 7, 3) := by decide +kernel
theorem dX1_isCalledBy_23 : decode cX1_isCalledBy 23 = .ok (.iconst 1, 1) := by decide +kernel
theorem dX1_isCalledBy_24 : decode cX1_isCalledBy 24 = .ok (.goto 4, 3) := by decide +kernel
theorem dX1_isCalledBy_27 : decode cX1_isCalledBy 27 = .ok (.iconst 0, 1) := by decide +kernel
theorem dX1_isCalledBy_28 : decode cX1_isCalledBy 28 = .ok (.ireturn, 1) := by decide +kernel
set_option maxRecDepth 20000 in
theorem ggX1_obey_X1_levelBy : GoodIn wsX1_obey wsX1_levelBy := goodIn_r _ [8, 3, 9, 10, 11, 12, 13, 14, 15] (by decide +kernel) (by decide +kernel)
set_option maxRecDepth 20000 in
theorem gX1_obey_X1_levelBy : GoodIn wsX1_obey (wsV RX1 35 RX1 yX1_levelBy wsX1_levelBy) := goodIn_app (goodIn_of _ (by decide +kernel)) ggX1_obey_X1_levelBy
theorem dX1_obey_0 : decode cX1_obey 0 = .ok (.iload_n 1, 1) := by decide +kernel
theorem dX1_obey_1 : decode cX1_obey 1 = .ok (.iconst 4, 1) := by decide +kernel
theorem dX1_obey_2 : decode cX1_obey 2 = .ok (.if_icmp .ge 34, 3) := by decide +kernel
theorem dX1_obey_5 : decode cX1_obey 5 = .ok (.aload_n 0, 1) := by decide +kernel
theorem dX1_obey_6 : decode cX1_obey 6 = .ok (.aload_n 0, 1) := by decide +kernel
theorem dX1_obey_7 : decode cX1_obey 7 = .ok (.getfield 15, 3) := by decide +kernel
theorem dX1_obey_10 : decode cX1_obey 10 = .ok (.iload_n 1, 1) := by decide +kernel
theorem dX1_obey_11 : decode cX1_obey 11 = .ok (.if_icmp .eq 14, 3) := by decide +kernel
theorem dX1_obey_14 : decode cX1_obey 14 = .ok (.aload_n 0, 1) := by decide +kernel
theorem dX1_obey_15 : decode cX1_obey 15 = .ok (.getfield 21, 3) := by decide +kernel
theorem dX1_obey_18 : decode cX1_obey 18 = .ok (.ifCond .eq 11, 3) := by decide +kernel
theorem dX1_obey_21 : decode cX1_obey 21 = .ok (.iload_n 2, 1) := by decide +kernel
theorem dX1_obey_22 : decode cX1_obey 22 = .ok (.ifCond .eq 7, 3) := by decide +kernel
theorem dX1_obey_25 : decode cX1_obey 25 = .ok (.iconst 1, 1) := by decide +kernel
theorem dX1_obey_26 : decode cX1_obey 26 = .ok (.goto 4, 3) := by decide +kernel
theorem dX1_obey_29 : decode cX1_obey 29 = .ok (.iconst 0, 1) := by decide +kernel
theorem dX1_obey_30 : decode cX1_obey 30 = .ok (.putfield 21, 3) := by decide +kernel
theorem dX1_obey_33 : decode cX1_obey 33 = .ok (.goto 33, 3) := by decide +kernel
theorem dX1_obey_36 : decode cX1_obey 36 = .ok (.iload_n 1, 1) := by decide +kernel
theorem dX1_obey_37 : decode cX1_obey 37 = .ok (.bipush 7, 2) := by decide +kernel
theorem dX1_obey_39 : decode cX1_obey 39 = .ok (.if_icmp .ne 11, 3) := by decide +kernel
theorem dX1_obey_42 : decode cX1_obey 42 = .ok (.aload_n 0, 1) := by decide +kernel
theorem dX1_obey_43 : decode cX1_obey 43 = .ok (.iconst 0, 1) := by decide +kernel
theorem dX1_obey_44 : decode cX1_obey 44 = .ok (.putfield 18, 3) := by decide +kernel
theorem dX1_obey_47 : decode cX1_obey 47 = .ok (.goto 19, 3) := by decide +kernel
theorem dX1_obey_50 : decode cX1_obey 50 = .ok (.aload_n 0, 1) := by decide +kernel
theorem dX1_obey_51 : decode cX1_obey 51 = .ok (.getfield 21, 3) := by decide +kernel
theorem dX1_obey_54 : decode cX1_obey 54 = .ok (.ifCond .eq 12, 3) := by decide +kernel
theorem dX1_obey_57 : decode cX1_obey 57 = .ok (.aload_n 0, 1) := by decide +kernel
theorem dX1_obey_58 : decode cX1_obey 58 = .ok (.aload_n 0, 1) := by decide +kernel
theorem dX1_obey_59 : decode cX1_obey 59 = .ok (.iload_n 1, 1) := by decide +kernel
theorem dX1_obey_60 : decode cX1_obey 60 = .ok (.invokevirtual 35, 3) := by decide +kernel
theorem dX1_obey_63 : decode cX1_obey 63 = .ok (.putfield 18, 3) := by decide +kernel
theorem dX1_obey_66 : decode cX1_obey 66 = .ok (.return_, 1) := by decide +kernel
theorem dX1_levelBy_0 : decode cX1_levelBy 0 = .ok (.iload_n 1, 1) := by decide +kernel
theorem dX1_levelBy_1 : decode cX1_levelBy 1 = .ok (.tableswitch 53 4 6 #[27, 30, 32], 27) := by decide +kernel
theorem dX1_levelBy_28 : decode cX1_levelBy 28 = .ok (.bipush 9, 2) := by decide +kernel
theorem dX1_levelBy_30 : decode cX1_levelBy 30 = .ok (.ireturn, 1) := by decide +kernel
theorem dX1_levelBy_31 : decode cX1_levelBy 31 = .ok (.iconst 0, 1) := by decide +kernel
theorem dX1_levelBy_32 : decode cX1_levelBy 32 = .ok (.ireturn, 1) := by decide +kernel
theorem dX1_levelBy_33 : decode cX1_levelBy 33 = .ok (.aload_n 0, 1) := by decide +kernel
theorem dX1_levelBy_34 : decode cX1_levelBy 34 = .ok (.getfield 18, 3) := by decide +kernel
theorem dX1_levelBy_37 : decode cX1_levelBy 37 = .ok (.bipush 9, 2) := by decide +kernel
theorem dX1_levelBy_39 : decode cX1_levelBy 39 = .ok (.if_icmp .ge 12, 3) := by decide +kernel
theorem dX1_levelBy_42 : decode cX1_levelBy 42 = .ok (.aload_n 0, 1) := by decide +kernel
theorem dX1_levelBy_43 : decode cX1_levelBy 43 = .ok (.getfield 18, 3) := by decide +kernel
theorem dX1_levelBy_46 : decode cX1_levelBy 46 = .ok (.iconst 1, 1) := by decide +kernel
theorem dX1_levelBy_47 : decode cX1_levelBy 47 = .ok (.iadd, 1) := by decide +kernel
theorem dX1_levelBy_48 : decode cX1_levelBy 48 = .ok (.goto 5, 3) := by decide +kernel
theorem dX1_levelBy_51 : decode cX1_levelBy 51 = .ok (.bipush 9, 2) := by decide +kernel
theorem dX1_levelBy_53 : decode cX1_levelBy 53 = .ok (.ireturn, 1) := by decide +kernel
theorem dX1_levelBy_54 : decode cX1_levelBy 54 = .ok (.aload_n 0, 1) := by decide +kernel
theorem dX1_levelBy_55 : decode cX1_levelBy 55 = .ok (.getfield 18, 3) := by decide +kernel
theorem dX1_levelBy_58 : decode cX1_levelBy 58 = .ok (.ireturn, 1) := by decide +kernel
set_option maxRecDepth 20000 in
theorem ggX2_init_X7_init : GoodIn wsX2_init wsX7_init := goodIn_r _ [7, 8, 9, 10, 11, 12, 13, 20, 21, 22, 23, 24, 25, 26, 14, 15, 16, 17, 18, 19, 27, 28, 29, 30, 31, 32, 33, 34, 35, 36] (by decide +kernel) (by decide +kernel)
set_option maxRecDepth 20000 in
theorem gX2_init_X7_init : GoodIn wsX2_init (wsX7_init) := ggX2_init_X7_init
theorem dX2_init_0 : decode cX2_init 0 = .ok (.aload_n 0, 1) := by decide +kernel
theorem dX2_init_1 : decode cX2_init 1 = .ok (.iload_n 1, 1) := by decide +kernel
theorem dX2_init_2 : decode cX2_init 2 = .ok (.invokespecial 3, 3) := by decide +kernel
theorem dX2_init_5 : decode cX2_init 5 = .ok (.aload_n 0, 1) := by decide +kernel
theorem dX2_init_6 : decode cX2_init 6 = .ok (.iconst 0, 1) := by decide +kernel
theorem dX2_init_7 : decode cX2_init 7 = .ok (.putfield 9, 3) := by decide +kernel
theorem dX2_init_10 : decode cX2_init 10 = .ok (.aload_n 0, 1) := by decide +kernel
theorem dX2_init_11 : decode cX2_init 11 = .ok (.iconst 2, 1) := by decide +kernel
theorem dX2_init_12 : decode cX2_init 12 = .ok (.putfield 15, 3) := by decide +kernel
theorem dX2_init_15 : decode cX2_init 15 = .ok (.aload_n 0, 1) := by decide +kernel
theorem dX2_init_16 : decode cX2_init 16 = .ok (.iconst 0, 1) := by decide +kernel
theorem dX2_init_17 : decode cX2_init 17 = .ok (.putfield 18, 3) := by decide +kernel
theorem dX2_init_20 : decode cX2_init 20 = .ok (.return_, 1) := by decide +kernel
theorem dX2_put_0 : decode cX2_put 0 = .ok (.aload_n 0, 1) := by decide +kernel
theorem dX2_put_1 : decode cX2_put 1 = .ok (.iconst 1, 1) := by decide +kernel
theorem dX2_put_2 : decode cX2_put 2 = .ok (.putfield 22, 3) := by decide +kernel
theorem dX2_put_5 : decode cX2_put 5 = .ok (.aload_n 0, 1) := by decide +kernel
theorem dX2_put_6 : decode cX2_put 6 = .ok (.iload_n 1, 1) := by decide +kernel
theorem dX2_put_7 : decode cX2_put 7 = .ok (.putfield 25, 3) := by decide +kernel
theorem dX2_put_10 : decode cX2_put 10 = .ok (.aload_n 0, 1) := by decide +kernel
theorem dX2_put_11 : decode cX2_put 11 = .ok (.iload_n 2, 1) := by decide +kernel
theorem dX2_put_12 : decode cX2_put 12 = .ok (.putfield 9, 3) := by decide +kernel
theorem dX2_put_15 : decode cX2_put 15 = .ok (.aload_n 0, 1) := by decide +kernel
theorem dX2_put_16 : decode cX2_put 16 = .ok (.iload_n 3, 1) := by decide +kernel
theorem dX2_put_17 : decode cX2_put 17 = .ok (.putfield 15, 3) := by decide +kernel
theorem dX2_put_20 : decode cX2_put 20 = .ok (.aload_n 0, 1) := by decide +kernel
theorem dX2_put_21 : decode cX2_put 21 = .ok (.iconst 1, 1) := by decide +kernel
theorem dX2_put_22 : decode cX2_put 22 = .ok (.putfield 18, 3) := by decide +kernel
theorem dX2_put_25 : decode cX2_put 25 = .ok (.return_, 1) := by decide +kernel
set_option maxRecDepth 20000 in
theorem ggX2_copyFrom_X7_copyThing : GoodIn wsX2_copyFrom wsX7_copyThing := goodIn_r _ [9, 10, 11, 18, 19, 20, 21, 22, 23, 24, 12, 13, 14, 15, 16, 17, 25, 26, 27, 28, 29, 30, 31, 32, 33, 34] (by decide +kernel) (by decide +kernel)
set_option maxRecDepth 20000 in
theorem gX2_copyFrom_X7_copyThing_u28X2 : GoodIn wsX2_copyFrom (va_wsU RX2 28 RX2 "MainsWords$Thing" ⟨"MainsWords$Machine", "copyThing", "(LMainsWords$Thing;)V"⟩ yX7_copyThing wsX7_copyThing) := goodIn_app (goodIn_of _ (by decide +kernel)) ggX2_copyFrom_X7_copyThing
theorem dX2_copyFrom_0 : decode cX2_copyFrom 0 = .ok (.aload_n 0, 1) := by decide +kernel
theorem dX2_copyFrom_1 : decode cX2_copyFrom 1 = .ok (.aload_n 1, 1) := by decide +kernel
theorem dX2_copyFrom_2 : decode cX2_copyFrom 2 = .ok (.invokevirtual 28, 3) := by decide +kernel
theorem dX2_copyFrom_5 : decode cX2_copyFrom 5 = .ok (.aload_n 0, 1) := by decide +kernel
theorem dX2_copyFrom_6 : decode cX2_copyFrom 6 = .ok (.aload_n 1, 1) := by decide +kernel
theorem dX2_copyFrom_7 : decode cX2_copyFrom 7 = .ok (.getfield 9, 3) := by decide +kernel
theorem dX2_copyFrom_10 : decode cX2_copyFrom 10 = .ok (.putfield 9, 3) := by decide +kernel
theorem dX2_copyFrom_13 : decode cX2_copyFrom 13 = .ok (.aload_n 0, 1) := by decide +kernel
theorem dX2_copyFrom_14 : decode cX2_copyFrom 14 = .ok (.aload_n 1, 1) := by decide +kernel
theorem dX2_copyFrom_15 : decode cX2_copyFrom 15 = .ok (.getfield 15, 3) := by decide +kernel
theorem dX2_copyFrom_18 : decode cX2_copyFrom 18 = .ok (.putfield 15, 3) := by decide +kernel
theorem dX2_copyFrom_21 : decode cX2_copyFrom 21 = .ok (.aload_n 0, 1) := by decide +kernel
theorem dX2_copyFrom_22 : decode cX2_copyFrom 22 = .ok (.aload_n 1, 1) := by decide +kernel
theorem dX2_copyFrom_23 : decode cX2_copyFrom 23 = .ok (.getfield 18, 3) := by decide +kernel
theorem dX2_copyFrom_26 : decode cX2_copyFrom 26 = .ok (.putfield 18, 3) := by decide +kernel
theorem dX2_copyFrom_29 : decode cX2_copyFrom 29 = .ok (.return_, 1) := by decide +kernel
theorem dX2_makesNoiseAt_0 : decode cX2_makesNoiseAt 0 = .ok (.aload_n 0, 1) := by decide +kernel
theorem dX2_makesNoiseAt_1 : decode cX2_makesNoiseAt 1 = .ok (.getfield 22, 3) := by decide +kernel
theorem dX2_makesNoiseAt_4 : decode cX2_makesNoiseAt 4 = .ok (.ifCond .eq 30, 3) := by decide +kernel
theorem dX2_makesNoiseAt_7 : decode cX2_makesNoiseAt 7 = .ok (.aload_n 0, 1) := by decide +kernel
theorem dX2_makesNoiseAt_8 : decode cX2_makesNoiseAt 8 = .ok (.getfield 18, 3) := by decide +kernel
theorem dX2_makesNoiseAt_11 : decode cX2_makesNoiseAt 11 = .ok (.ifCond .eq 23, 3) := by decide +kernel
theorem dX2_makesNoiseAt_14 : decode cX2_makesNoiseAt 14 = .ok (.aload_n 0, 1) := by decide +kernel
theorem dX2_makesNoiseAt_15 : decode cX2_makesNoiseAt 15 = .ok (.getfield 15, 3) := by decide +kernel
theorem dX2_makesNoiseAt_18 : decode cX2_makesNoiseAt 18 = .ok (.ifCond .le 16, 3) := by decide +kernel
theorem dX2_makesNoiseAt_21 : decode cX2_makesNoiseAt 21 = .ok (.iload_n 1, 1) := by decide +kernel
theorem dX2_makesNoiseAt_22 : decode cX2_makesNoiseAt 22 = .ok (.aload_n 0, 1) := by decide +kernel
theorem dX2_makesNoiseAt_23 : decode cX2_makesNoiseAt 23 = .ok (.getfield 15, 3) := by decide +kernel
theorem dX2_makesNoiseAt_26 : decode cX2_makesNoiseAt 26 = .ok (.irem, 1) := by decide +kernel
theorem dX2_makesNoiseAt_27 : decode cX2_makesNoiseAt 27 = .ok (.ifCond .ne 7, 3) := by decide +kernel
theorem dX2_makesNoiseAt_30 : decode cX2_makesNoiseAt 30 = .ok (.iconst 1, 1) := by decide +kernel
theorem dX2_makesNoiseAt_31 : decode cX2_makesNoiseAt 31 = .ok (.goto 4, 3) := by decide +kernel
theorem dX2_makesNoiseAt_34 : decode cX2_makesNoiseAt 34 = .ok (.iconst 0, 1) := by decide +kernel
theorem dX2_makesNoiseAt_35 : decode cX2_makesNoiseAt 35 = .ok (.ireturn, 1) := by decide +kernel
set_option maxRecDepth 20000 in
theorem ggX3_init_X6_init : GoodIn wsX3_init wsX6_init := goodIn_r _ [28, 12, 29, 30, 31, 32, 33, 34, 35, 36, 37, 38, 39, 40, 2, 3, 41, 42, 43, 77, 78, 79, 80, 81, 82, 83, 84, 85, 86, 93, 94, 95, 96, 97, 98, 99, 87, 88, 89, 90, 91, 92] (by decide +kernel) (by decide +kernel)
set_option maxRecDepth 20000 in
theorem gX3_init_X6_init : GoodIn wsX3_init (wsX6_init) := ggX3_init_X6_init
set_option maxRecDepth 20000 in
theorem ggX3_init_X2_init : GoodIn wsX3_init wsX2_init := goodIn_r _ [46, 47, 48, 49, 50, 37, 38, 39, 40, 2, 3, 41, 42, 43, 87, 88, 89, 90, 91, 92, 93, 94, 95, 96, 97, 98, 99, 77, 78, 79, 80, 81, 82, 83, 84, 85, 86] (by decide +kernel) (by decide +kernel)
set_option maxRecDepth 20000 in
theorem gX3_init_X2_init : GoodIn wsX3_init (wsX2_init) := ggX3_init_X2_init
set_option maxRecDepth 20000 in
theorem ggX3_init_X1_init : GoodIn wsX3_init wsX1_init := goodIn_r _ [53, 54, 55, 56, 57, 58, 37, 38, 39, 40, 2, 3, 41, 42, 43, 93, 94, 95, 96, 97, 98, 99, 87, 88, 89, 90, 91, 92, 77, 78, 79, 80, 81, 82, 83, 84, 85, 86] (by decide +kernel) (by decide +kernel)
set_option maxRecDepth 20000 in
theorem gX3_init_X1_init : GoodIn wsX3_init (wsX1_init) := ggX3_init_X1_init
set_option maxRecDepth 20000 in
theorem ggX3_init_X4_init : GoodIn wsX3_init wsX4_init := goodIn_r _ [60, 61, 2, 3, 62, 63, 64, 65, 66, 67, 68, 100, 101, 102, 103, 104, 105, 106] (by decide +kernel) (by decide +kernel)
set_option maxRecDepth 20000 in
theorem gX3_init_X4_init_n55 : GoodIn wsX3_init (wsX4_init) := ggX3_init_X4_init
theorem dX3_init_0 : decode cX3_init 0 = .ok (.aload_n 0, 1) := by decide +kernel
theorem dX3_init_1 : decode cX3_init 1 = .ok (.invokespecial 3, 3) := by decide +kernel
theorem dX3_init_4 : decode cX3_init 4 = .ok (.aload_n 0, 1) := by decide +kernel
theorem dX3_init_5 : decode cX3_init 5 = .ok (.iconst 5, 1) := by decide +kernel
theorem dX3_init_6 : decode cX3_init 6 = .ok (.anewarray 9, 3) := by decide +kernel
theorem dX3_init_9 : decode cX3_init 9 = .ok (.putfield 11, 3) := by decide +kernel
theorem dX3_init_12 : decode cX3_init 12 = .ok (.aload_n 0, 1) := by decide +kernel
theorem dX3_init_13 : decode cX3_init 13 = .ok (.iconst 4, 1) := by decide +kernel
theorem dX3_init_14 : decode cX3_init 14 = .ok (.anewarray 17, 3) := by decide +kernel
theorem dX3_init_17 : decode cX3_init 17 = .ok (.putfield 19, 3) := by decide +kernel
theorem dX3_init_20 : decode cX3_init 20 = .ok (.aload_n 0, 1) := by decide +kernel
theorem dX3_init_21 : decode cX3_init 21 = .ok (.bipush 8, 2) := by decide +kernel
theorem dX3_init_23 : decode cX3_init 23 = .ok (.anewarray 23, 3) := by decide +kernel
theorem dX3_init_26 : decode cX3_init 26 = .ok (.putfield 25, 3) := by decide +kernel
theorem dX3_init_29 : decode cX3_init 29 = .ok (.aload_n 0, 1) := by decide +kernel
theorem dX3_init_30 : decode cX3_init 30 = .ok (.bipush 6, 2) := by decide +kernel
theorem dX3_init_32 : decode cX3_init 32 = .ok (.anewarray 29, 3) := by decide +kernel
theorem dX3_init_35 : decode cX3_init 35 = .ok (.putfield 31, 3) := by decide +kernel
theorem dX3_init_38 : decode cX3_init 38 = .ok (.aload_n 0, 1) := by decide +kernel
theorem dX3_init_39 : decode cX3_init 39 = .ok (.iconst 4, 1) := by decide +kernel
theorem dX3_init_40 : decode cX3_init 40 = .ok (.newarray .int, 2) := by decide +kernel
theorem dX3_init_42 : decode cX3_init 42 = .ok (.dup, 1) := by decide +kernel
theorem dX3_init_43 : decode cX3_init 43 = .ok (.iconst 0, 1) := by decide +kernel
theorem dX3_init_44 : decode cX3_init 44 = .ok (.bipush 6, 2) := by decide +kernel
theorem dX3_init_46 : decode cX3_init 46 = .ok (.iastore, 1) := by decide +kernel
theorem dX3_init_47 : decode cX3_init 47 = .ok (.dup, 1) := by decide +kernel
theorem dX3_init_48 : decode cX3_init 48 = .ok (.iconst 1, 1) := by decide +kernel
theorem dX3_init_49 : decode cX3_init 49 = .ok (.iconst 5, 1) := by decide +kernel
theorem dX3_init_50 : decode cX3_init 50 = .ok (.iastore, 1) := by decide +kernel
theorem dX3_init_51 : decode cX3_init 51 = .ok (.dup, 1) := by decide +kernel
theorem dX3_init_52 : decode cX3_init 52 = .ok (.iconst 2, 1) := by decide +kernel
theorem dX3_init_53 : decode cX3_init 53 = .ok (.iconst 4, 1) := by decide +kernel
theorem dX3_init_54 : decode cX3_init 54 = .ok (.iastore, 1) := by decide +kernel
theorem dX3_init_55 : decode cX3_init 55 = .ok (.dup, 1) := by decide +kernel
theorem dX3_init_56 : decode cX3_init 56 = .ok (.iconst 3, 1) := by decide +kernel
theorem dX3_init_57 : decode cX3_init 57 = .ok (.iconst 2, 1) := by decide +kernel
theorem dX3_init_58 : decode cX3_init 58 = .ok (.iastore, 1) := by decide +kernel
theorem dX3_init_59 : decode cX3_init 59 = .ok (.putfield 35, 3) := by decide +kernel
theorem dX3_init_62 : decode cX3_init 62 = .ok (.aload_n 0, 1) := by decide +kernel
theorem dX3_init_63 : decode cX3_init 63 = .ok (.iconst 5, 1) := by decide +kernel
theorem dX3_init_64 : decode cX3_init 64 = .ok (.newarray .int, 2) := by decide +kernel
theorem dX3_init_66 : decode cX3_init 66 = .ok (.putfield 39, 3) := by decide +kernel
theorem dX3_init_69 : decode cX3_init 69 = .ok (.aload_n 0, 1) := by decide +kernel
theorem dX3_init_70 : decode cX3_init 70 = .ok (.iconst 0, 1) := by decide +kernel
theorem dX3_init_71 : decode cX3_init 71 = .ok (.putfield 42, 3) := by decide +kernel
theorem dX3_init_74 : decode cX3_init 74 = .ok (.aload_n 0, 1) := by decide +kernel
theorem dX3_init_75 : decode cX3_init 75 = .ok (.bipush 6, 2) := by decide +kernel
theorem dX3_init_77 : decode cX3_init 77 = .ok (.newarray .boolean, 2) := by decide +kernel
theorem dX3_init_79 : decode cX3_init 79 = .ok (.putfield 46, 3) := by decide +kernel
theorem dX3_init_82 : decode cX3_init 82 = .ok (.iconst 0, 1) := by decide +kernel
theorem dX3_init_83 : decode cX3_init 83 = .ok (.istore_n 1, 1) := by decide +kernel
theorem dX3_init_84 : decode cX3_init 84 = .ok (.iload_n 1, 1) := by decide +kernel
theorem dX3_init_85 : decode cX3_init 85 = .ok (.aload_n 0, 1) := by decide +kernel
theorem dX3_init_86 : decode cX3_init 86 = .ok (.getfield 11, 3) := by decide +kernel
theorem dX3_init_89 : decode cX3_init 89 = .ok (.arraylength, 1) := by decide +kernel
theorem dX3_init_90 : decode cX3_init 90 = .ok (.if_icmp .ge 23, 3) := by decide +kernel
theorem dX3_init_93 : decode cX3_init 93 = .ok (.aload_n 0, 1) := by decide +kernel
theorem dX3_init_94 : decode cX3_init 94 = .ok (.getfield 11, 3) := by decide +kernel
theorem dX3_init_97 : decode cX3_init 97 = .ok (.iload_n 1, 1) := by decide +kernel
theorem dX3_init_98 : decode cX3_init 98 = .ok (.new 9, 3) := by decide +kernel
theorem dX3_init_101 : decode cX3_init 101 = .ok (.dup, 1) := by decide +kernel
theorem dX3_init_102 : decode cX3_init 102 = .ok (.iload_n 1, 1) := by decide +kernel
theorem dX3_init_103 : decode cX3_init 103 = .ok (.invokespecial 50, 3) := by decide +kernel
theorem dX3_init_106 : decode cX3_init 106 = .ok (.aastore, 1) := by decide +kernel
theorem dX3_init_107 : decode cX3_init 107 = .ok (.iinc 1 1, 3) := by decide +kernel
theorem dX3_init_110 : decode cX3_init 110 = .ok (.goto (-26), 3) := by decide +kernel
theorem dX3_init_113 : decode cX3_init 113 = .ok (.iconst 0, 1) := by decide +kernel
theorem dX3_init_114 : decode cX3_init 114 = .ok (.istore_n 1, 1) := by decide +kernel
theorem dX3_init_115 : decode cX3_init 115 = .ok (.iload_n 1, 1) := by decide +kernel
theorem dX3_init_116 : decode cX3_init 116 = .ok (.aload_n 0, 1) := by decide +kernel
theorem dX3_init_117 : decode cX3_init 117 = .ok (.getfield 19, 3) := by decide +kernel
theorem dX3_init_120 : decode cX3_init 120 = .ok (.arraylength, 1) := by decide +kernel
theorem dX3_init_121 : decode cX3_init 121 = .ok (.if_icmp .ge 23, 3) := by decide +kernel
theorem dX3_init_124 : decode cX3_init 124 = .ok (.aload_n 0, 1) := by decide +kernel
theorem dX3_init_125 : decode cX3_init 125 = .ok (.getfield 19, 3) := by decide +kernel
theorem dX3_init_128 : decode cX3_init 128 = .ok (.iload_n 1, 1) := by decide +kernel
theorem dX3_init_129 : decode cX3_init 129 = .ok (.new 17, 3) := by decide +kernel
theorem dX3_init_132 : decode cX3_init 132 = .ok (.dup, 1) := by decide +kernel
theorem dX3_init_133 : decode cX3_init 133 = .ok (.iload_n 1, 1) := by decide +kernel
theorem dX3_init_134 : decode cX3_init 134 = .ok (.invokespecial 53, 3) := by decide +kernel
theorem dX3_init_137 : decode cX3_init 137 = .ok (.aastore, 1) := by decide +kernel
theorem dX3_init_138 : decode cX3_init 138 = .ok (.iinc 1 1, 3) := by decide +kernel
theorem dX3_init_141 : decode cX3_init 141 = .ok (.goto (-26), 3) := by decide +kernel
theorem dX3_init_144 : decode cX3_init 144 = .ok (.iconst 0, 1) := by decide +kernel
theorem dX3_init_145 : decode cX3_init 145 = .ok (.istore_n 1, 1) := by decide +kernel
theorem dX3_init_146 : decode cX3_init 146 = .ok (.iload_n 1, 1) := by decide +kernel
theorem dX3_init_147 : decode cX3_init 147 = .ok (.aload_n 0, 1) := by decide +kernel
theorem dX3_init_148 : decode cX3_init 148 = .ok (.getfield 25, 3) := by decide +kernel
theorem dX3_init_151 : decode cX3_init 151 = .ok (.arraylength, 1) := by decide +kernel
theorem dX3_init_152 : decode cX3_init 152 = .ok (.if_icmp .ge 23, 3) := by decide +kernel
theorem dX3_init_155 : decode cX3_init 155 = .ok (.aload_n 0, 1) := by decide +kernel
theorem dX3_init_156 : decode cX3_init 156 = .ok (.getfield 25, 3) := by decide +kernel
theorem dX3_init_159 : decode cX3_init 159 = .ok (.iload_n 1, 1) := by decide +kernel
theorem dX3_init_160 : decode cX3_init 160 = .ok (.new 23, 3) := by decide +kernel
theorem dX3_init_163 : decode cX3_init 163 = .ok (.dup, 1) := by decide +kernel
theorem dX3_init_164 : decode cX3_init 164 = .ok (.iload_n 1, 1) := by decide +kernel
theorem dX3_init_165 : decode cX3_init 165 = .ok (.invokespecial 54, 3) := by decide +kernel
theorem dX3_init_168 : decode cX3_init 168 = .ok (.aastore, 1) := by decide +kernel
theorem dX3_init_169 : decode cX3_init 169 = .ok (.iinc 1 1, 3) := by decide +kernel
theorem dX3_init_172 : decode cX3_init 172 = .ok (.goto (-26), 3) := by decide +kernel
theorem dX3_init_175 : decode cX3_init 175 = .ok (.iconst 0, 1) := by decide +kernel
theorem dX3_init_176 : decode cX3_init 176 = .ok (.istore_n 1, 1) := by decide +kernel
theorem dX3_init_177 : decode cX3_init 177 = .ok (.iload_n 1, 1) := by decide +kernel
theorem dX3_init_178 : decode cX3_init 178 = .ok (.aload_n 0, 1) := by decide +kernel
theorem dX3_init_179 : decode cX3_init 179 = .ok (.getfield 31, 3) := by decide +kernel
theorem dX3_init_182 : decode cX3_init 182 = .ok (.arraylength, 1) := by decide +kernel
theorem dX3_init_183 : decode cX3_init 183 = .ok (.if_icmp .ge 22, 3) := by decide +kernel
theorem dX3_init_186 : decode cX3_init 186 = .ok (.aload_n 0, 1) := by decide +kernel
theorem dX3_init_187 : decode cX3_init 187 = .ok (.getfield 31, 3) := by decide +kernel
theorem dX3_init_190 : decode cX3_init 190 = .ok (.iload_n 1, 1) := by decide +kernel
theorem dX3_init_191 : decode cX3_init 191 = .ok (.new 29, 3) := by decide +kernel
theorem dX3_init_194 : decode cX3_init 194 = .ok (.dup, 1) := by decide +kernel
theorem dX3_init_195 : decode cX3_init 195 = .ok (.invokespecial 55, 3) := by decide +kernel
theorem dX3_init_198 : decode cX3_init 198 = .ok (.aastore, 1) := by decide +kernel
theorem dX3_init_199 : decode cX3_init 199 = .ok (.iinc 1 1, 3) := by decide +kernel
theorem dX3_init_202 : decode cX3_init 202 = .ok (.goto (-25), 3) := by decide +kernel
theorem dX3_init_205 : decode cX3_init 205 = .ok (.return_, 1) := by decide +kernel
set_option maxRecDepth 20000 in
theorem ggX3_copyFrom_X6_copyFrom : GoodIn wsX3_copyFrom wsX6_copyFrom := goodIn_r _ [12, 13, 14, 15, 16, 17, 18, 19, 20, 21, 22, 23, 24, 25, 26, 27, 28, 29, 30, 74, 75, 76, 77, 78, 79, 80, 81, 82, 83, 84, 85, 86, 87, 88, 89, 90, 91, 92, 93, 94, 95, 96] (by decide +kernel) (by decide +kernel)
set_option maxRecDepth 20000 in
theorem gX3_copyFrom_X6_copyFrom : GoodIn wsX3_copyFrom (wsV RX3 56 RX6 yX6_copyFrom wsX6_copyFrom) := goodIn_app (goodIn_of _ (by decide +kernel)) ggX3_copyFrom_X6_copyFrom
set_option maxRecDepth 20000 in
theorem ggX3_copyFrom_X2_copyFrom : GoodIn wsX3_copyFrom wsX2_copyFrom := goodIn_r _ [35, 36, 37, 38, 39, 40, 41, 23, 24, 25, 26, 27, 91, 92, 93, 94, 95, 96, 84, 85, 86, 87, 88, 89, 90, 74, 75, 76, 77, 78, 79, 80, 81, 82, 83] (by decide +kernel) (by decide +kernel)
set_option maxRecDepth 20000 in
theorem gX3_copyFrom_X2_copyFrom : GoodIn wsX3_copyFrom (wsV RX3 60 RX2 yX2_copyFrom wsX2_copyFrom) := goodIn_app (goodIn_of _ (by decide +kernel)) ggX3_copyFrom_X2_copyFrom
set_option maxRecDepth 20000 in
theorem ggX3_copyFrom_X1_copyFrom : GoodIn wsX3_copyFrom wsX1_copyFrom := goodIn_r _ [46, 47, 48, 49, 50, 51, 52, 53, 23, 24, 25, 26, 27, 84, 85, 86, 87, 88, 89, 90, 91, 92, 93, 94, 95, 96, 74, 75, 76, 77, 78, 79, 80, 81, 82, 83] (by decide +kernel) (by decide +kernel)
set_option maxRecDepth 20000 in
theorem gX3_copyFrom_X1_copyFrom : GoodIn wsX3_copyFrom (wsV RX3 63 RX1 yX1_copyFrom wsX1_copyFrom) := goodIn_app (goodIn_of _ (by decide +kernel)) ggX3_copyFrom_X1_copyFrom
set_option maxRecDepth 20000 in
theorem ggX3_copyFrom_X4_copyFrom : GoodIn wsX3_copyFrom wsX4_copyFrom := goodIn_r _ [58, 59, 60, 61, 62, 63, 64, 65, 97, 98, 99, 100, 101, 102, 103] (by decide +kernel) (by decide +kernel)
set_option maxRecDepth 20000 in
theorem gX3_copyFrom_X4_copyFrom : GoodIn wsX3_copyFrom (wsV RX3 66 RX4 yX4_copyFrom wsX4_copyFrom) := goodIn_app (goodIn_of _ (by decide +kernel)) ggX3_copyFrom_X4_copyFrom
set_option maxRecDepth 20000 in
theorem ggX3_copyFrom_X8_copyRow : GoodIn wsX3_copyFrom wsX8_copyRow := goodIn_r _ [30] (by decide +kernel) (by decide +kernel)
set_option maxRecDepth 20000 in
theorem gX3_copyFrom_X8_copyRow_n69 : GoodIn wsX3_copyFrom (wsX8_copyRow) := ggX3_copyFrom_X8_copyRow
theorem dX3_copyFrom_0 : decode cX3_copyFrom 0 = .ok (.iconst 0, 1) := by decide +kernel
theorem dX3_copyFrom_1 : decode cX3_copyFrom 1 = .ok (.istore_n 2, 1) := by decide +kernel
theorem dX3_copyFrom_2 : decode cX3_copyFrom 2 = .ok (.iload_n 2, 1) := by decide +kernel
theorem dX3_copyFrom_3 : decode cX3_copyFrom 3 = .ok (.aload_n 0, 1) := by decide +kernel
theorem dX3_copyFrom_4 : decode cX3_copyFrom 4 = .ok (.getfield 11, 3) := by decide +kernel
theorem dX3_copyFrom_7 : decode cX3_copyFrom 7 = .ok (.arraylength, 1) := by decide +kernel
theorem dX3_copyFrom_8 : decode cX3_copyFrom 8 = .ok (.if_icmp .ge 33, 3) := by decide +kernel
theorem dX3_copyFrom_11 : decode cX3_copyFrom 11 = .ok (.iload_n 2, 1) := by decide +kernel
theorem dX3_copyFrom_12 : decode cX3_copyFrom 12 = .ok (.aload_n 1, 1) := by decide +kernel
theorem dX3_copyFrom_13 : decode cX3_copyFrom 13 = .ok (.getfield 11, 3) := by decide +kernel
theorem dX3_copyFrom_16 : decode cX3_copyFrom 16 = .ok (.arraylength, 1) := by decide +kernel
theorem dX3_copyFrom_17 : decode cX3_copyFrom 17 = .ok (.if_icmp .ge 24, 3) := by decide +kernel
theorem dX3_copyFrom_20 : decode cX3_copyFrom 20 = .ok (.aload_n 0, 1) := by decide +kernel
theorem dX3_copyFrom_21 : decode cX3_copyFrom 21 = .ok (.getfield 11, 3) := by decide +kernel
theorem dX3_copyFrom_24 : decode cX3_copyFrom 24 = .ok (.iload_n 2, 1) := by decide +kernel
theorem dX3_copyFrom_25 : decode cX3_copyFrom 25 = .ok (.aaload, 1) := by decide +kernel
theorem dX3_copyFrom_26 : decode cX3_copyFrom 26 = .ok (.aload_n 1, 1) := by decide +kernel
theorem dX3_copyFrom_27 : decode cX3_copyFrom 27 = .ok (.getfield 11, 3) := by decide +kernel
theorem dX3_copyFrom_30 : decode cX3_copyFrom 30 = .ok (.iload_n 2, 1) := by decide +kernel
theorem dX3_copyFrom_31 : decode cX3_copyFrom 31 = .ok (.aaload, 1) := by decide +kernel
theorem dX3_copyFrom_32 : decode cX3_copyFrom 32 = .ok (.invokevirtual 56, 3) := by decide +kernel
theorem dX3_copyFrom_35 : decode cX3_copyFrom 35 = .ok (.iinc 2 1, 3) := by decide +kernel
theorem dX3_copyFrom_38 : decode cX3_copyFrom 38 = .ok (.goto (-36), 3) := by decide +kernel
theorem dX3_copyFrom_41 : decode cX3_copyFrom 41 = .ok (.iconst 0, 1) := by decide +kernel
theorem dX3_copyFrom_42 : decode cX3_copyFrom 42 = .ok (.istore_n 2, 1) := by decide +kernel
theorem dX3_copyFrom_43 : decode cX3_copyFrom 43 = .ok (.iload_n 2, 1) := by decide +kernel
theorem dX3_copyFrom_44 : decode cX3_copyFrom 44 = .ok (.aload_n 0, 1) := by decide +kernel
theorem dX3_copyFrom_45 : decode cX3_copyFrom 45 = .ok (.getfield 19, 3) := by decide +kernel
theorem dX3_copyFrom_48 : decode cX3_copyFrom 48 = .ok (.arraylength, 1) := by decide +kernel
theorem dX3_copyFrom_49 : decode cX3_copyFrom 49 = .ok (.if_icmp .ge 33, 3) := by decide +kernel
theorem dX3_copyFrom_52 : decode cX3_copyFrom 52 = .ok (.iload_n 2, 1) := by decide +kernel
theorem dX3_copyFrom_53 : decode cX3_copyFrom 53 = .ok (.aload_n 1, 1) := by decide +kernel
theorem dX3_copyFrom_54 : decode cX3_copyFrom 54 = .ok (.getfield 19, 3) := by decide +kernel
theorem dX3_copyFrom_57 : decode cX3_copyFrom 57 = .ok (.arraylength, 1) := by decide +kernel
theorem dX3_copyFrom_58 : decode cX3_copyFrom 58 = .ok (.if_icmp .ge 24, 3) := by decide +kernel
theorem dX3_copyFrom_61 : decode cX3_copyFrom 61 = .ok (.aload_n 0, 1) := by decide +kernel
theorem dX3_copyFrom_62 : decode cX3_copyFrom 62 = .ok (.getfield 19, 3) := by decide +kernel
theorem dX3_copyFrom_65 : decode cX3_copyFrom 65 = .ok (.iload_n 2, 1) := by decide +kernel
theorem dX3_copyFrom_66 : decode cX3_copyFrom 66 = .ok (.aaload, 1) := by decide +kernel
theorem dX3_copyFrom_67 : decode cX3_copyFrom 67 = .ok (.aload_n 1, 1) := by decide +kernel
theorem dX3_copyFrom_68 : decode cX3_copyFrom 68 = .ok (.getfield 19, 3) := by decide +kernel
theorem dX3_copyFrom_71 : decode cX3_copyFrom 71 = .ok (.iload_n 2, 1) := by decide +kernel
theorem dX3_copyFrom_72 : decode cX3_copyFrom 72 = .ok (.aaload, 1) := by decide +kernel
theorem dX3_copyFrom_73 : decode cX3_copyFrom 73 = .ok (.invokevirtual 60, 3) := by decide +kernel
theorem dX3_copyFrom_76 : decode cX3_copyFrom 76 = .ok (.iinc 2 1, 3) := by decide +kernel
theorem dX3_copyFrom_79 : decode cX3_copyFrom 79 = .ok (.goto (-36), 3) := by decide +kernel
theorem dX3_copyFrom_82 : decode cX3_copyFrom 82 = .ok (.iconst 0, 1) := by decide +kernel
theorem dX3_copyFrom_83 : decode cX3_copyFrom 83 = .ok (.istore_n 2, 1) := by decide +kernel
theorem dX3_copyFrom_84 : decode cX3_copyFrom 84 = .ok (.iload_n 2, 1) := by decide +kernel
theorem dX3_copyFrom_85 : decode cX3_copyFrom 85 = .ok (.aload_n 0, 1) := by decide +kernel
theorem dX3_copyFrom_86 : decode cX3_copyFrom 86 = .ok (.getfield 25, 3) := by decide +kernel
theorem dX3_copyFrom_89 : decode cX3_copyFrom 89 = .ok (.arraylength, 1) := by decide +kernel
theorem dX3_copyFrom_90 : decode cX3_copyFrom 90 = .ok (.if_icmp .ge 33, 3) := by decide +kernel
theorem dX3_copyFrom_93 : decode cX3_copyFrom 93 = .ok (.iload_n 2, 1) := by decide +kernel
theorem dX3_copyFrom_94 : decode cX3_copyFrom 94 = .ok (.aload_n 1, 1) := by decide +kernel
theorem dX3_copyFrom_95 : decode cX3_copyFrom 95 = .ok (.getfield 25, 3) := by decide +kernel
theorem dX3_copyFrom_98 : decode cX3_copyFrom 98 = .ok (.arraylength, 1) := by decide +kernel
theorem dX3_copyFrom_99 : decode cX3_copyFrom 99 = .ok (.if_icmp .ge 24, 3) := by decide +kernel
theorem dX3_copyFrom_102 : decode cX3_copyFrom 102 = .ok (.aload_n 0, 1) := by decide +kernel
theorem dX3_copyFrom_103 : decode cX3_copyFrom 103 = .ok (.getfield 25, 3) := by decide +kernel
theorem dX3_copyFrom_106 : decode cX3_copyFrom 106 = .ok (.iload_n 2, 1) := by decide +kernel
theorem dX3_copyFrom_107 : decode cX3_copyFrom 107 = .ok (.aaload, 1) := by decide +kernel
theorem dX3_copyFrom_108 : decode cX3_copyFrom 108 = .ok (.aload_n 1, 1) := by decide +kernel
theorem dX3_copyFrom_109 : decode cX3_copyFrom 109 = .ok (.getfield 25, 3) := by decide +kernel
theorem dX3_copyFrom_112 : decode cX3_copyFrom 112 = .ok (.iload_n 2, 1) := by decide +kernel
theorem dX3_copyFrom_113 : decode cX3_copyFrom 113 = .ok (.aaload, 1) := by decide +kernel
theorem dX3_copyFrom_114 : decode cX3_copyFrom 114 = .ok (.invokevirtual 63, 3) := by decide +kernel
theorem dX3_copyFrom_117 : decode cX3_copyFrom 117 = .ok (.iinc 2 1, 3) := by decide +kernel
theorem dX3_copyFrom_120 : decode cX3_copyFrom 120 = .ok (.goto (-36), 3) := by decide +kernel
theorem dX3_copyFrom_123 : decode cX3_copyFrom 123 = .ok (.iconst 0, 1) := by decide +kernel
theorem dX3_copyFrom_124 : decode cX3_copyFrom 124 = .ok (.istore_n 2, 1) := by decide +kernel
theorem dX3_copyFrom_125 : decode cX3_copyFrom 125 = .ok (.iload_n 2, 1) := by decide +kernel
theorem dX3_copyFrom_126 : decode cX3_copyFrom 126 = .ok (.aload_n 0, 1) := by decide +kernel
theorem dX3_copyFrom_127 : decode cX3_copyFrom 127 = .ok (.getfield 31, 3) := by decide +kernel
theorem dX3_copyFrom_130 : decode cX3_copyFrom 130 = .ok (.arraylength, 1) := by decide +kernel
theorem dX3_copyFrom_131 : decode cX3_copyFrom 131 = .ok (.if_icmp .ge 33, 3) := by decide +kernel
theorem dX3_copyFrom_134 : decode cX3_copyFrom 134 = .ok (.iload_n 2, 1) := by decide +kernel
theorem dX3_copyFrom_135 : decode cX3_copyFrom 135 = .ok (.aload_n 1, 1) := by decide +kernel
theorem dX3_copyFrom_136 : decode cX3_copyFrom 136 = .ok (.getfield 31, 3) := by decide +kernel
theorem dX3_copyFrom_139 : decode cX3_copyFrom 139 = .ok (.arraylength, 1) := by decide +kernel
theorem dX3_copyFrom_140 : decode cX3_copyFrom 140 = .ok (.if_icmp .ge 24, 3) := by decide +kernel
theorem dX3_copyFrom_143 : decode cX3_copyFrom 143 = .ok (.aload_n 0, 1) := by decide +kernel
theorem dX3_copyFrom_144 : decode cX3_copyFrom 144 = .ok (.getfield 31, 3) := by decide +kernel
theorem dX3_copyFrom_147 : decode cX3_copyFrom 147 = .ok (.iload_n 2, 1) := by decide +kernel
theorem dX3_copyFrom_148 : decode cX3_copyFrom 148 = .ok (.aaload, 1) := by decide +kernel
theorem dX3_copyFrom_149 : decode cX3_copyFrom 149 = .ok (.aload_n 1, 1) := by decide +kernel
theorem dX3_copyFrom_150 : decode cX3_copyFrom 150 = .ok (.getfield 31, 3) := by decide +kernel
theorem dX3_copyFrom_153 : decode cX3_copyFrom 153 = .ok (.iload_n 2, 1) := by decide +kernel
theorem dX3_copyFrom_154 : decode cX3_copyFrom 154 = .ok (.aaload, 1) := by decide +kernel
theorem dX3_copyFrom_155 : decode cX3_copyFrom 155 = .ok (.invokevirtual 66, 3) := by decide +kernel
theorem dX3_copyFrom_158 : decode cX3_copyFrom 158 = .ok (.iinc 2 1, 3) := by decide +kernel
theorem dX3_copyFrom_161 : decode cX3_copyFrom 161 = .ok (.goto (-36), 3) := by decide +kernel
theorem dX3_copyFrom_164 : decode cX3_copyFrom 164 = .ok (.aload_n 1, 1) := by decide +kernel
theorem dX3_copyFrom_165 : decode cX3_copyFrom 165 = .ok (.getfield 35, 3) := by decide +kernel
theorem dX3_copyFrom_168 : decode cX3_copyFrom 168 = .ok (.aload_n 0, 1) := by decide +kernel
theorem dX3_copyFrom_169 : decode cX3_copyFrom 169 = .ok (.getfield 35, 3) := by decide +kernel
theorem dX3_copyFrom_172 : decode cX3_copyFrom 172 = .ok (.invokestatic 69, 3) := by decide +kernel
theorem dX3_copyFrom_175 : decode cX3_copyFrom 175 = .ok (.aload_n 1, 1) := by decide +kernel
theorem dX3_copyFrom_176 : decode cX3_copyFrom 176 = .ok (.getfield 39, 3) := by decide +kernel
theorem dX3_copyFrom_179 : decode cX3_copyFrom 179 = .ok (.aload_n 0, 1) := by decide +kernel
theorem dX3_copyFrom_180 : decode cX3_copyFrom 180 = .ok (.getfield 39, 3) := by decide +kernel
theorem dX3_copyFrom_183 : decode cX3_copyFrom 183 = .ok (.invokestatic 69, 3) := by decide +kernel
theorem dX3_copyFrom_186 : decode cX3_copyFrom 186 = .ok (.aload_n 0, 1) := by decide +kernel
theorem dX3_copyFrom_187 : decode cX3_copyFrom 187 = .ok (.aload_n 1, 1) := by decide +kernel
theorem dX3_copyFrom_188 : decode cX3_copyFrom 188 = .ok (.getfield 42, 3) := by decide +kernel
theorem dX3_copyFrom_191 : decode cX3_copyFrom 191 = .ok (.putfield 42, 3) := by decide +kernel
theorem dX3_copyFrom_194 : decode cX3_copyFrom 194 = .ok (.return_, 1) := by decide +kernel
theorem dX3_thingsOf_0 : decode cX3_thingsOf 0 = .ok (.iload_n 1, 1) := by decide +kernel
theorem dX3_thingsOf_1 : decode cX3_thingsOf 1 = .ok (.tableswitch 42 0 2 #[27, 32, 37], 27) := by decide +kernel
theorem dX3_thingsOf_28 : decode cX3_thingsOf 28 = .ok (.aload_n 0, 1) := by decide +kernel
theorem dX3_thingsOf_29 : decode cX3_thingsOf 29 = .ok (.getfield 11, 3) := by decide +kernel
theorem dX3_thingsOf_32 : decode cX3_thingsOf 32 = .ok (.areturn, 1) := by decide +kernel
theorem dX3_thingsOf_33 : decode cX3_thingsOf 33 = .ok (.aload_n 0, 1) := by decide +kernel
theorem dX3_thingsOf_34 : decode cX3_thingsOf 34 = .ok (.getfield 19, 3) := by decide +kernel
theorem dX3_thingsOf_37 : decode cX3_thingsOf 37 = .ok (.areturn, 1) := by decide +kernel
theorem dX3_thingsOf_38 : decode cX3_thingsOf 38 = .ok (.aload_n 0, 1) := by decide +kernel
theorem dX3_thingsOf_39 : decode cX3_thingsOf 39 = .ok (.getfield 25, 3) := by decide +kernel
theorem dX3_thingsOf_42 : decode cX3_thingsOf 42 = .ok (.areturn, 1) := by decide +kernel
theorem dX3_thingsOf_43 : decode cX3_thingsOf 43 = .ok (.aconst_null, 1) := by decide +kernel
theorem dX3_thingsOf_44 : decode cX3_thingsOf 44 = .ok (.areturn, 1) := by decide +kernel
set_option maxRecDepth 20000 in
theorem ggX3_freeSender_X8_firstFree : GoodIn wsX3_freeSender wsX8_firstFree := goodIn_r _ [5, 6, 15, 16, 17, 18, 19, 20, 21, 22, 23, 24, 25, 26, 27, 28, 29, 30, 31, 32, 33, 34, 35, 36, 37] (by decide +kernel) (by decide +kernel)
set_option maxRecDepth 20000 in
theorem gX3_freeSender_X8_firstFree_n73 : GoodIn wsX3_freeSender (wsX8_firstFree) := ggX3_freeSender_X8_firstFree
theorem dX3_freeSender_0 : decode cX3_freeSender 0 = .ok (.aload_n 0, 1) := by decide +kernel
theorem dX3_freeSender_1 : decode cX3_freeSender 1 = .ok (.getfield 11, 3) := by decide +kernel
theorem dX3_freeSender_4 : decode cX3_freeSender 4 = .ok (.invokestatic 73, 3) := by decide +kernel
theorem dX3_freeSender_7 : decode cX3_freeSender 7 = .ok (.astore_n 2, 1) := by decide +kernel
theorem dX3_freeSender_8 : decode cX3_freeSender 8 = .ok (.aload_n 2, 1) := by decide +kernel
theorem dX3_freeSender_9 : decode cX3_freeSender 9 = .ok (.instanceof 9, 3) := by decide +kernel
theorem dX3_freeSender_12 : decode cX3_freeSender 12 = .ok (.ifCond .eq 12, 3) := by decide +kernel
theorem dX3_freeSender_15 : decode cX3_freeSender 15 = .ok (.aload_n 2, 1) := by decide +kernel
theorem dX3_freeSender_16 : decode cX3_freeSender 16 = .ok (.checkcast 9, 3) := by decide +kernel
theorem dX3_freeSender_19 : decode cX3_freeSender 19 = .ok (.astore_n 1, 1) := by decide +kernel
theorem dX3_freeSender_20 : decode cX3_freeSender 20 = .ok (.aload_n 1, 1) := by decide +kernel
theorem dX3_freeSender_21 : decode cX3_freeSender 21 = .ok (.goto 4, 3) := by decide +kernel
theorem dX3_freeSender_24 : decode cX3_freeSender 24 = .ok (.aconst_null, 1) := by decide +kernel
theorem dX3_freeSender_25 : decode cX3_freeSender 25 = .ok (.areturn, 1) := by decide +kernel
set_option maxRecDepth 20000 in
theorem ggX3_senderAt_X8_presentAt : GoodIn wsX3_senderAt wsX8_presentAt := goodIn_r _ [5, 6, 15, 16, 17, 18, 19, 20, 21, 22, 23, 24, 25, 26, 27, 28, 29, 30, 31, 32, 33, 34, 35, 36, 37] (by decide +kernel) (by decide +kernel)
set_option maxRecDepth 20000 in
theorem gX3_senderAt_X8_presentAt_n77 : GoodIn wsX3_senderAt (wsX8_presentAt) := ggX3_senderAt_X8_presentAt
theorem dX3_senderAt_0 : decode cX3_senderAt 0 = .ok (.aload_n 0, 1) := by decide +kernel
theorem dX3_senderAt_1 : decode cX3_senderAt 1 = .ok (.getfield 11, 3) := by decide +kernel
theorem dX3_senderAt_4 : decode cX3_senderAt 4 = .ok (.iload_n 1, 1) := by decide +kernel
theorem dX3_senderAt_5 : decode cX3_senderAt 5 = .ok (.invokestatic 77, 3) := by decide +kernel
theorem dX3_senderAt_8 : decode cX3_senderAt 8 = .ok (.astore_n 3, 1) := by decide +kernel
theorem dX3_senderAt_9 : decode cX3_senderAt 9 = .ok (.aload_n 3, 1) := by decide +kernel
theorem dX3_senderAt_10 : decode cX3_senderAt 10 = .ok (.instanceof 9, 3) := by decide +kernel
theorem dX3_senderAt_13 : decode cX3_senderAt 13 = .ok (.ifCond .eq 12, 3) := by decide +kernel
theorem dX3_senderAt_16 : decode cX3_senderAt 16 = .ok (.aload_n 3, 1) := by decide +kernel
theorem dX3_senderAt_17 : decode cX3_senderAt 17 = .ok (.checkcast 9, 3) := by decide +kernel
theorem dX3_senderAt_20 : decode cX3_senderAt 20 = .ok (.astore_n 2, 1) := by decide +kernel
theorem dX3_senderAt_21 : decode cX3_senderAt 21 = .ok (.aload_n 2, 1) := by decide +kernel
theorem dX3_senderAt_22 : decode cX3_senderAt 22 = .ok (.goto 4, 3) := by decide +kernel
theorem dX3_senderAt_25 : decode cX3_senderAt 25 = .ok (.aconst_null, 1) := by decide +kernel
theorem dX3_senderAt_26 : decode cX3_senderAt 26 = .ok (.areturn, 1) := by decide +kernel
set_option maxRecDepth 20000 in
theorem ggX3_freeMachine_X8_firstFree : GoodIn wsX3_freeMachine wsX8_firstFree := goodIn_r _ [5, 6, 15, 16, 17, 18, 19, 20, 21, 22, 23, 24, 25, 26, 27, 28, 29, 30, 31, 32, 33, 34, 35, 36, 37] (by decide +kernel) (by decide +kernel)
set_option maxRecDepth 20000 in
theorem gX3_freeMachine_X8_firstFree_n73 : GoodIn wsX3_freeMachine (wsX8_firstFree) := ggX3_freeMachine_X8_firstFree
theorem dX3_freeMachine_0 : decode cX3_freeMachine 0 = .ok (.aload_n 0, 1) := by decide +kernel
theorem dX3_freeMachine_1 : decode cX3_freeMachine 1 = .ok (.getfield 19, 3) := by decide +kernel
theorem dX3_freeMachine_4 : decode cX3_freeMachine 4 = .ok (.invokestatic 73, 3) := by decide +kernel
theorem dX3_freeMachine_7 : decode cX3_freeMachine 7 = .ok (.astore_n 2, 1) := by decide +kernel
theorem dX3_freeMachine_8 : decode cX3_freeMachine 8 = .ok (.aload_n 2, 1) := by decide +kernel
theorem dX3_freeMachine_9 : decode cX3_freeMachine 9 = .ok (.instanceof 17, 3) := by decide +kernel
theorem dX3_freeMachine_12 : decode cX3_freeMachine 12 = .ok (.ifCond .eq 12, 3) := by decide +kernel
theorem dX3_freeMachine_15 : decode cX3_freeMachine 15 = .ok (.aload_n 2, 1) := by decide +kernel
theorem dX3_freeMachine_16 : decode cX3_freeMachine 16 = .ok (.checkcast 17, 3) := by decide +kernel
theorem dX3_freeMachine_19 : decode cX3_freeMachine 19 = .ok (.astore_n 1, 1) := by decide +kernel
theorem dX3_freeMachine_20 : decode cX3_freeMachine 20 = .ok (.aload_n 1, 1) := by decide +kernel
theorem dX3_freeMachine_21 : decode cX3_freeMachine 21 = .ok (.goto 4, 3) := by decide +kernel
theorem dX3_freeMachine_24 : decode cX3_freeMachine 24 = .ok (.aconst_null, 1) := by decide +kernel
theorem dX3_freeMachine_25 : decode cX3_freeMachine 25 = .ok (.areturn, 1) := by decide +kernel
set_option maxRecDepth 20000 in
theorem ggX3_machineAt_X8_presentAt : GoodIn wsX3_machineAt wsX8_presentAt := goodIn_r _ [5, 6, 15, 16, 17, 18, 19, 20, 21, 22, 23, 24, 25, 26, 27, 28, 29, 30, 31, 32, 33, 34, 35, 36, 37] (by decide +kernel) (by decide +kernel)
set_option maxRecDepth 20000 in
theorem gX3_machineAt_X8_presentAt_n77 : GoodIn wsX3_machineAt (wsX8_presentAt) := ggX3_machineAt_X8_presentAt
theorem dX3_machineAt_0 : decode cX3_machineAt 0 = .ok (.aload_n 0, 1) := by decide +kernel
theorem dX3_machineAt_1 : decode cX3_machineAt 1 = .ok (.getfield 19, 3) := by decide +kernel
theorem dX3_machineAt_4 : decode cX3_machineAt 4 = .ok (.iload_n 1, 1) := by decide +kernel
theorem dX3_machineAt_5 : decode cX3_machineAt 5 = .ok (.invokestatic 77, 3) := by decide +kernel
theorem dX3_machineAt_8 : decode cX3_machineAt 8 = .ok (.astore_n 3, 1) := by decide +kernel
theorem dX3_machineAt_9 : decode cX3_machineAt 9 = .ok (.aload_n 3, 1) := by decide +kernel
theorem dX3_machineAt_10 : decode cX3_machineAt 10 = .ok (.instanceof 17, 3) := by decide +kernel
theorem dX3_machineAt_13 : decode cX3_machineAt 13 = .ok (.ifCond .eq 12, 3) := by decide +kernel
theorem dX3_machineAt_16 : decode cX3_machineAt 16 = .ok (.aload_n 3, 1) := by decide +kernel
theorem dX3_machineAt_17 : decode cX3_machineAt 17 = .ok (.checkcast 17, 3) := by decide +kernel
theorem dX3_machineAt_20 : decode cX3_machineAt 20 = .ok (.astore_n 2, 1) := by decide +kernel
theorem dX3_machineAt_21 : decode cX3_machineAt 21 = .ok (.aload_n 2, 1) := by decide +kernel
theorem dX3_machineAt_22 : decode cX3_machineAt 22 = .ok (.goto 4, 3) := by decide +kernel
theorem dX3_machineAt_25 : decode cX3_machineAt 25 = .ok (.aconst_null, 1) := by decide +kernel
theorem dX3_machineAt_26 : decode cX3_machineAt 26 = .ok (.areturn, 1) := by decide +kernel
set_option maxRecDepth 20000 in
theorem ggX3_freeLamp_X8_firstFree : GoodIn wsX3_freeLamp wsX8_firstFree := goodIn_r _ [5, 6, 15, 16, 17, 18, 19, 20, 21, 22, 23, 24, 25, 26, 27, 28, 29, 30, 31, 32, 33, 34, 35, 36, 37] (by decide +kernel) (by decide +kernel)
set_option maxRecDepth 20000 in
theorem gX3_freeLamp_X8_firstFree_n73 : GoodIn wsX3_freeLamp (wsX8_firstFree) := ggX3_freeLamp_X8_firstFree
theorem dX3_freeLamp_0 : decode cX3_freeLamp 0 = .ok (.aload_n 0, 1) := by decide +kernel
theorem dX3_freeLamp_1 : decode cX3_freeLamp 1 = .ok (.getfield 25, 3) := by decide +kernel
theorem dX3_freeLamp_4 : decode cX3_freeLamp 4 = .ok (.invokestatic 73, 3) := by decide +kernel
theorem dX3_freeLamp_7 : decode cX3_freeLamp 7 = .ok (.astore_n 2, 1) := by decide +kernel
theorem dX3_freeLamp_8 : decode cX3_freeLamp 8 = .ok (.aload_n 2, 1) := by decide +kernel
theorem dX3_freeLamp_9 : decode cX3_freeLamp 9 = .ok (.instanceof 23, 3) := by decide +kernel
theorem dX3_freeLamp_12 : decode cX3_freeLamp 12 = .ok (.ifCond .eq 12, 3) := by decide +kernel
theorem dX3_freeLamp_15 : decode cX3_freeLamp 15 = .ok (.aload_n 2, 1) := by decide +kernel
theorem dX3_freeLamp_16 : decode cX3_freeLamp 16 = .ok (.checkcast 23, 3) := by decide +kernel
theorem dX3_freeLamp_19 : decode cX3_freeLamp 19 = .ok (.astore_n 1, 1) := by decide +kernel
theorem dX3_freeLamp_20 : decode cX3_freeLamp 20 = .ok (.aload_n 1, 1) := by decide +kernel
theorem dX3_freeLamp_21 : decode cX3_freeLamp 21 = .ok (.goto 4, 3) := by decide +kernel
theorem dX3_freeLamp_24 : decode cX3_freeLamp 24 = .ok (.aconst_null, 1) := by decide +kernel
theorem dX3_freeLamp_25 : decode cX3_freeLamp 25 = .ok (.areturn, 1) := by decide +kernel
set_option maxRecDepth 20000 in
theorem ggX3_lampAt_X8_presentAt : GoodIn wsX3_lampAt wsX8_presentAt := goodIn_r _ [5, 6, 15, 16, 17, 18, 19, 20, 21, 22, 23, 24, 25, 26, 27, 28, 29, 30, 31, 32, 33, 34, 35, 36, 37] (by decide +kernel) (by decide +kernel)
set_option maxRecDepth 20000 in
theorem gX3_lampAt_X8_presentAt_n77 : GoodIn wsX3_lampAt (wsX8_presentAt) := ggX3_lampAt_X8_presentAt
theorem dX3_lampAt_0 : decode cX3_lampAt 0 = .ok (.aload_n 0, 1) := by decide +kernel
theorem dX3_lampAt_1 : decode cX3_lampAt 1 = .ok (.getfield 25, 3) := by decide +kernel
theorem dX3_lampAt_4 : decode cX3_lampAt 4 = .ok (.iload_n 1, 1) := by decide +kernel
theorem dX3_lampAt_5 : decode cX3_lampAt 5 = .ok (.invokestatic 77, 3) := by decide +kernel
theorem dX3_lampAt_8 : decode cX3_lampAt 8 = .ok (.astore_n 3, 1) := by decide +kernel
theorem dX3_lampAt_9 : decode cX3_lampAt 9 = .ok (.aload_n 3, 1) := by decide +kernel
theorem dX3_lampAt_10 : decode cX3_lampAt 10 = .ok (.instanceof 23, 3) := by decide +kernel
theorem dX3_lampAt_13 : decode cX3_lampAt 13 = .ok (.ifCond .eq 12, 3) := by decide +kernel
theorem dX3_lampAt_16 : decode cX3_lampAt 16 = .ok (.aload_n 3, 1) := by decide +kernel
theorem dX3_lampAt_17 : decode cX3_lampAt 17 = .ok (.checkcast 23, 3) := by decide +kernel
theorem dX3_lampAt_20 : decode cX3_lampAt 20 = .ok (.astore_n 2, 1) := by decide +kernel
theorem dX3_lampAt_21 : decode cX3_lampAt 21 = .ok (.aload_n 2, 1) := by decide +kernel
theorem dX3_lampAt_22 : decode cX3_lampAt 22 = .ok (.goto 4, 3) := by decide +kernel
theorem dX3_lampAt_25 : decode cX3_lampAt 25 = .ok (.aconst_null, 1) := by decide +kernel
theorem dX3_lampAt_26 : decode cX3_lampAt 26 = .ok (.areturn, 1) := by decide +kernel
set_option maxRecDepth 20000 in
theorem ggX3_speakingSenders_X6_isSpeaking : GoodIn wsX3_speakingSenders wsX6_isSpeaking := goodIn_r _ [6, 7, 8, 9, 21, 22, 23, 24, 25, 26, 27, 28, 29, 30, 31, 32, 33, 34, 35, 36, 37, 38, 39, 40, 41, 42, 43] (by decide +kernel) (by decide +kernel)
set_option maxRecDepth 20000 in
theorem gX3_speakingSenders_X6_isSpeaking : GoodIn wsX3_speakingSenders (wsV RX3 81 RX6 yX6_isSpeaking wsX6_isSpeaking) := goodIn_app (goodIn_of _ (by decide +kernel)) ggX3_speakingSenders_X6_isSpeaking
set_option maxRecDepth 20000 in
theorem ggX3_speakingSenders_X8_asNumber : GoodIn wsX3_speakingSenders wsX8_asNumber := goodIn_r _ [12] (by decide +kernel) (by decide +kernel)
set_option maxRecDepth 20000 in
theorem gX3_speakingSenders_X8_asNumber_n85 : GoodIn wsX3_speakingSenders (wsX8_asNumber) := ggX3_speakingSenders_X8_asNumber
theorem dX3_speakingSenders_0 : decode cX3_speakingSenders 0 = .ok (.iconst 0, 1) := by decide +kernel
theorem dX3_speakingSenders_1 : decode cX3_speakingSenders 1 = .ok (.istore_n 1, 1) := by decide +kernel
theorem dX3_speakingSenders_2 : decode cX3_speakingSenders 2 = .ok (.aload_n 0, 1) := by decide +kernel
theorem dX3_speakingSenders_3 : decode cX3_speakingSenders 3 = .ok (.getfield 11, 3) := by decide +kernel
theorem dX3_speakingSenders_6 : decode cX3_speakingSenders 6 = .ok (.astore_n 2, 1) := by decide +kernel
theorem dX3_speakingSenders_7 : decode cX3_speakingSenders 7 = .ok (.aload_n 2, 1) := by decide +kernel
theorem dX3_speakingSenders_8 : decode cX3_speakingSenders 8 = .ok (.arraylength, 1) := by decide +kernel
theorem dX3_speakingSenders_9 : decode cX3_speakingSenders 9 = .ok (.istore_n 3, 1) := by decide +kernel
theorem dX3_speakingSenders_10 : decode cX3_speakingSenders 10 = .ok (.iconst 0, 1) := by decide +kernel
theorem dX3_speakingSenders_11 : decode cX3_speakingSenders 11 = .ok (.istore 4, 2) := by decide +kernel
theorem dX3_speakingSenders_13 : decode cX3_speakingSenders 13 = .ok (.iload 4, 2) := by decide +kernel
theorem dX3_speakingSenders_15 : decode cX3_speakingSenders 15 = .ok (.iload_n 3, 1) := by decide +kernel
theorem dX3_speakingSenders_16 : decode cX3_speakingSenders 16 = .ok (.if_icmp .ge 26, 3) := by decide +kernel
theorem dX3_speakingSenders_19 : decode cX3_speakingSenders 19 = .ok (.aload_n 2, 1) := by decide +kernel
theorem dX3_speakingSenders_20 : decode cX3_speakingSenders 20 = .ok (.iload 4, 2) := by decide +kernel
theorem dX3_speakingSenders_22 : decode cX3_speakingSenders 22 = .ok (.aaload, 1) := by decide +kernel
theorem dX3_speakingSenders_23 : decode cX3_speakingSenders 23 = .ok (.astore 5, 2) := by decide +kernel
theorem dX3_speakingSenders_25 : decode cX3_speakingSenders 25 = .ok (.iload_n 1, 1) := by decide +kernel
theorem dX3_speakingSenders_26 : decode cX3_speakingSenders 26 = .ok (.aload 5, 2) := by decide +kernel
theorem dX3_speakingSenders_28 : decode cX3_speakingSenders 28 = .ok (.invokevirtual 81, 3) := by decide +kernel
theorem dX3_speakingSenders_31 : decode cX3_speakingSenders 31 = .ok (.invokestatic 85, 3) := by decide +kernel
theorem dX3_speakingSenders_34 : decode cX3_speakingSenders 34 = .ok (.iadd, 1) := by decide +kernel
theorem dX3_speakingSenders_35 : decode cX3_speakingSenders 35 = .ok (.istore_n 1, 1) := by decide +kernel
theorem dX3_speakingSenders_36 : decode cX3_speakingSenders 36 = .ok (.iinc 4 1, 3) := by decide +kernel
theorem dX3_speakingSenders_39 : decode cX3_speakingSenders 39 = .ok (.goto (-26), 3) := by decide +kernel
theorem dX3_speakingSenders_42 : decode cX3_speakingSenders 42 = .ok (.iload_n 1, 1) := by decide +kernel
theorem dX3_speakingSenders_43 : decode cX3_speakingSenders 43 = .ok (.ireturn, 1) := by decide +kernel
theorem dX3_queuedWords_0 : decode cX3_queuedWords 0 = .ok (.iconst 0, 1) := by decide +kernel
theorem dX3_queuedWords_1 : decode cX3_queuedWords 1 = .ok (.istore_n 1, 1) := by decide +kernel
theorem dX3_queuedWords_2 : decode cX3_queuedWords 2 = .ok (.aload_n 0, 1) := by decide +kernel
theorem dX3_queuedWords_3 : decode cX3_queuedWords 3 = .ok (.getfield 11, 3) := by decide +kernel
theorem dX3_queuedWords_6 : decode cX3_queuedWords 6 = .ok (.astore_n 2, 1) := by decide +kernel
theorem dX3_queuedWords_7 : decode cX3_queuedWords 7 = .ok (.aload_n 2, 1) := by decide +kernel
theorem dX3_queuedWords_8 : decode cX3_queuedWords 8 = .ok (.arraylength, 1) := by decide +kernel
theorem dX3_queuedWords_9 : decode cX3_queuedWords 9 = .ok (.istore_n 3, 1) := by decide +kernel
theorem dX3_queuedWords_10 : decode cX3_queuedWords 10 = .ok (.iconst 0, 1) := by decide +kernel
theorem dX3_queuedWords_11 : decode cX3_queuedWords 11 = .ok (.istore 4, 2) := by decide +kernel
theorem dX3_queuedWords_13 : decode cX3_queuedWords 13 = .ok (.iload 4, 2) := by decide +kernel
theorem dX3_queuedWords_15 : decode cX3_queuedWords 15 = .ok (.iload_n 3, 1) := by decide +kernel
theorem dX3_queuedWords_16 : decode cX3_queuedWords 16 = .ok (.if_icmp .ge 31, 3) := by decide +kernel
theorem dX3_queuedWords_19 : decode cX3_queuedWords 19 = .ok (.aload_n 2, 1) := by decide +kernel
theorem dX3_queuedWords_20 : decode cX3_queuedWords 20 = .ok (.iload 4, 2) := by decide +kernel
theorem dX3_queuedWords_22 : decode cX3_queuedWords 22 = .ok (.aaload, 1) := by decide +kernel
theorem dX3_queuedWords_23 : decode cX3_queuedWords 23 = .ok (.astore 5, 2) := by decide +kernel
theorem dX3_queuedWords_25 : decode cX3_queuedWords 25 = .ok (.aload 5, 2) := by decide +kernel
theorem dX3_queuedWords_27 : decode cX3_queuedWords 27 = .ok (.getfield 89, 3) := by decide +kernel
theorem dX3_queuedWords_30 : decode cX3_queuedWords 30 = .ok (.ifCond .eq 11, 3) := by decide +kernel
theorem dX3_queuedWords_33 : decode cX3_queuedWords 33 = .ok (.iload_n 1, 1) := by decide +kernel
theorem dX3_queuedWords_34 : decode cX3_queuedWords 34 = .ok (.aload 5, 2) := by decide +kernel
theorem dX3_queuedWords_36 : decode cX3_queuedWords 36 = .ok (.getfield 93, 3) := by decide +kernel
theorem dX3_queuedWords_39 : decode cX3_queuedWords 39 = .ok (.iadd, 1) := by decide +kernel
theorem dX3_queuedWords_40 : decode cX3_queuedWords 40 = .ok (.istore_n 1, 1) := by decide +kernel
theorem dX3_queuedWords_41 : decode cX3_queuedWords 41 = .ok (.iinc 4 1, 3) := by decide +kernel
theorem dX3_queuedWords_44 : decode cX3_queuedWords 44 = .ok (.goto (-31), 3) := by decide +kernel
theorem dX3_queuedWords_47 : decode cX3_queuedWords 47 = .ok (.iload_n 1, 1) := by decide +kernel
theorem dX3_queuedWords_48 : decode cX3_queuedWords 48 = .ok (.ireturn, 1) := by decide +kernel
set_option maxRecDepth 20000 in
theorem ggX3_litLamps_X8_asNumber : GoodIn wsX3_litLamps wsX8_asNumber := goodIn_r _ [7] (by decide +kernel) (by decide +kernel)
set_option maxRecDepth 20000 in
theorem gX3_litLamps_X8_asNumber_n85 : GoodIn wsX3_litLamps (wsX8_asNumber) := ggX3_litLamps_X8_asNumber
theorem dX3_litLamps_0 : decode cX3_litLamps 0 = .ok (.iconst 0, 1) := by decide +kernel
theorem dX3_litLamps_1 : decode cX3_litLamps 1 = .ok (.istore_n 1, 1) := by decide +kernel
theorem dX3_litLamps_2 : decode cX3_litLamps 2 = .ok (.aload_n 0, 1) := by decide +kernel
theorem dX3_litLamps_3 : decode cX3_litLamps 3 = .ok (.getfield 25, 3) := by decide +kernel
theorem dX3_litLamps_6 : decode cX3_litLamps 6 = .ok (.astore_n 2, 1) := by decide +kernel
theorem dX3_litLamps_7 : decode cX3_litLamps 7 = .ok (.aload_n 2, 1) := by decide +kernel
theorem dX3_litLamps_8 : decode cX3_litLamps 8 = .ok (.arraylength, 1) := by decide +kernel
theorem dX3_litLamps_9 : decode cX3_litLamps 9 = .ok (.istore_n 3, 1) := by decide +kernel
theorem dX3_litLamps_10 : decode cX3_litLamps 10 = .ok (.iconst 0, 1) := by decide +kernel
theorem dX3_litLamps_11 : decode cX3_litLamps 11 = .ok (.istore 4, 2) := by decide +kernel
theorem dX3_litLamps_13 : decode cX3_litLamps 13 = .ok (.iload 4, 2) := by decide +kernel
theorem dX3_litLamps_15 : decode cX3_litLamps 15 = .ok (.iload_n 3, 1) := by decide +kernel
theorem dX3_litLamps_16 : decode cX3_litLamps 16 = .ok (.if_icmp .ge 42, 3) := by decide +kernel
theorem dX3_litLamps_19 : decode cX3_litLamps 19 = .ok (.aload_n 2, 1) := by decide +kernel
theorem dX3_litLamps_20 : decode cX3_litLamps 20 = .ok (.iload 4, 2) := by decide +kernel
theorem dX3_litLamps_22 : decode cX3_litLamps 22 = .ok (.aaload, 1) := by decide +kernel
theorem dX3_litLamps_23 : decode cX3_litLamps 23 = .ok (.astore 5, 2) := by decide +kernel
theorem dX3_litLamps_25 : decode cX3_litLamps 25 = .ok (.iload_n 1, 1) := by decide +kernel
theorem dX3_litLamps_26 : decode cX3_litLamps 26 = .ok (.aload 5, 2) := by decide +kernel
theorem dX3_litLamps_28 : decode cX3_litLamps 28 = .ok (.getfield 96, 3) := by decide +kernel
theorem dX3_litLamps_31 : decode cX3_litLamps 31 = .ok (.ifCond .eq 15, 3) := by decide +kernel
theorem dX3_litLamps_34 : decode cX3_litLamps 34 = .ok (.aload 5, 2) := by decide +kernel
theorem dX3_litLamps_36 : decode cX3_litLamps 36 = .ok (.getfield 97, 3) := by decide +kernel
theorem dX3_litLamps_39 : decode cX3_litLamps 39 = .ok (.ifCond .le 7, 3) := by decide +kernel
theorem dX3_litLamps_42 : decode cX3_litLamps 42 = .ok (.iconst 1, 1) := by decide +kernel
theorem dX3_litLamps_43 : decode cX3_litLamps 43 = .ok (.goto 4, 3) := by decide +kernel
theorem dX3_litLamps_46 : decode cX3_litLamps 46 = .ok (.iconst 0, 1) := by decide +kernel
theorem dX3_litLamps_47 : decode cX3_litLamps 47 = .ok (.invokestatic 85, 3) := by decide +kernel
theorem dX3_litLamps_50 : decode cX3_litLamps 50 = .ok (.iadd, 1) := by decide +kernel
theorem dX3_litLamps_51 : decode cX3_litLamps 51 = .ok (.istore_n 1, 1) := by decide +kernel
theorem dX3_litLamps_52 : decode cX3_litLamps 52 = .ok (.iinc 4 1, 3) := by decide +kernel
theorem dX3_litLamps_55 : decode cX3_litLamps 55 = .ok (.goto (-42), 3) := by decide +kernel
theorem dX3_litLamps_58 : decode cX3_litLamps 58 = .ok (.iload_n 1, 1) := by decide +kernel
theorem dX3_litLamps_59 : decode cX3_litLamps 59 = .ok (.ireturn, 1) := by decide +kernel
set_option maxRecDepth 20000 in
theorem ggX3_refusalOfWord_X3_senderAt : GoodIn wsX3_refusalOfWord wsX3_senderAt := goodIn_r _ [5, 6, 7, 8, 9, 10, 11, 21, 22, 23, 24, 25, 26, 27, 28, 29, 30, 31, 32, 33, 34, 35, 36, 37, 38, 39, 40, 41, 42, 43, 44, 45, 46, 47, 48, 49, 50, 51] (by decide +kernel) (by decide +kernel)
set_option maxRecDepth 20000 in
theorem gX3_refusalOfWord_X3_senderAt : GoodIn wsX3_refusalOfWord (wsV RX3 100 RX3 yX3_senderAt wsX3_senderAt) := goodIn_app (goodIn_of _ (by decide +kernel)) ggX3_refusalOfWord_X3_senderAt
set_option maxRecDepth 20000 in
theorem ggX3_refusalOfWord_X8_isWord : GoodIn wsX3_refusalOfWord wsX8_isWord := goodIn_r _ [13] (by decide +kernel) (by decide +kernel)
set_option maxRecDepth 20000 in
theorem gX3_refusalOfWord_X8_isWord_n104 : GoodIn wsX3_refusalOfWord (wsX8_isWord) := ggX3_refusalOfWord_X8_isWord
set_option maxRecDepth 20000 in
theorem ggX3_refusalOfWord_X6_isQueueFull : GoodIn wsX3_refusalOfWord wsX6_isQueueFull := goodIn_r _ [18, 19, 20, 42, 43, 44, 45, 46, 47, 48, 49, 50, 51] (by decide +kernel) (by decide +kernel)
set_option maxRecDepth 20000 in
theorem gX3_refusalOfWord_X6_isQueueFull : GoodIn wsX3_refusalOfWord (wsV RX3 108 RX6 yX6_isQueueFull wsX6_isQueueFull) := goodIn_app (goodIn_of _ (by decide +kernel)) ggX3_refusalOfWord_X6_isQueueFull
theorem dX3_refusalOfWord_0 : decode cX3_refusalOfWord 0 = .ok (.aload_n 0, 1) := by decide +kernel
theorem dX3_refusalOfWord_1 : decode cX3_refusalOfWord 1 = .ok (.iload_n 1, 1) := by decide +kernel
theorem dX3_refusalOfWord_2 : decode cX3_refusalOfWord 2 = .ok (.invokevirtual 100, 3) := by decide +kernel
theorem dX3_refusalOfWord_5 : decode cX3_refusalOfWord 5 = .ok (.astore_n 3, 1) := by decide +kernel
theorem dX3_refusalOfWord_6 : decode cX3_refusalOfWord 6 = .ok (.aload_n 3, 1) := by decide +kernel
theorem dX3_refusalOfWord_7 : decode cX3_refusalOfWord 7 = .ok (.ifnonnull 5, 3) := by decide +kernel
theorem dX3_refusalOfWord_10 : decode cX3_refusalOfWord 10 = .ok (.iconst (-1), 1) := by decide +kernel
theorem dX3_refusalOfWord_11 : decode cX3_refusalOfWord 11 = .ok (.ireturn, 1) := by decide +kernel
theorem dX3_refusalOfWord_12 : decode cX3_refusalOfWord 12 = .ok (.iload_n 2, 1) := by decide +kernel
theorem dX3_refusalOfWord_13 : decode cX3_refusalOfWord 13 = .ok (.invokestatic 104, 3) := by decide +kernel
theorem dX3_refusalOfWord_16 : decode cX3_refusalOfWord 16 = .ok (.ifCond .ne 6, 3) := by decide +kernel
theorem dX3_refusalOfWord_19 : decode cX3_refusalOfWord 19 = .ok (.bipush (-2), 2) := by decide +kernel
theorem dX3_refusalOfWord_21 : decode cX3_refusalOfWord 21 = .ok (.ireturn, 1) := by decide +kernel
theorem dX3_refusalOfWord_22 : decode cX3_refusalOfWord 22 = .ok (.aload_n 3, 1) := by decide +kernel
theorem dX3_refusalOfWord_23 : decode cX3_refusalOfWord 23 = .ok (.invokevirtual 108, 3) := by decide +kernel
theorem dX3_refusalOfWord_26 : decode cX3_refusalOfWord 26 = .ok (.ifCond .eq 8, 3) := by decide +kernel
theorem dX3_refusalOfWord_29 : decode cX3_refusalOfWord 29 = .ok (.bipush (-3), 2) := by decide +kernel
theorem dX3_refusalOfWord_31 : decode cX3_refusalOfWord 31 = .ok (.goto 4, 3) := by decide +kernel
theorem dX3_refusalOfWord_34 : decode cX3_refusalOfWord 34 = .ok (.iconst 0, 1) := by decide +kernel
theorem dX3_refusalOfWord_35 : decode cX3_refusalOfWord 35 = .ok (.ireturn, 1) := by decide +kernel
set_option maxRecDepth 20000 in
theorem ggX3_giveWord_X3_senderAt : GoodIn wsX3_giveWord wsX3_senderAt := goodIn_r _ [6, 7, 8, 9, 10, 11, 12, 30, 31, 32, 33, 34, 35, 36, 37, 38, 39, 40, 41, 42, 43, 44, 45, 46, 47, 48, 49, 50, 20, 21, 22, 23, 24, 25, 26, 27, 28, 29] (by decide +kernel) (by decide +kernel)
set_option maxRecDepth 20000 in
theorem gX3_giveWord_X3_senderAt : GoodIn wsX3_giveWord (wsV RX3 100 RX3 yX3_senderAt wsX3_senderAt) := goodIn_app (goodIn_of _ (by decide +kernel)) ggX3_giveWord_X3_senderAt
set_option maxRecDepth 20000 in
theorem ggX3_giveWord_X6_addWord : GoodIn wsX3_giveWord wsX6_addWord := goodIn_r _ [17, 18, 19, 20, 21, 22, 23, 24, 25, 26, 27, 28, 29] (by decide +kernel) (by decide +kernel)
set_option maxRecDepth 20000 in
theorem gX3_giveWord_X6_addWord : GoodIn wsX3_giveWord (wsV RX3 111 RX6 yX6_addWord wsX6_addWord) := goodIn_app (goodIn_of _ (by decide +kernel)) ggX3_giveWord_X6_addWord
theorem dX3_giveWord_0 : decode cX3_giveWord 0 = .ok (.aload_n 0, 1) := by decide +kernel
theorem dX3_giveWord_1 : decode cX3_giveWord 1 = .ok (.iload_n 1, 1) := by decide +kernel
theorem dX3_giveWord_2 : decode cX3_giveWord 2 = .ok (.invokevirtual 100, 3) := by decide +kernel
theorem dX3_giveWord_5 : decode cX3_giveWord 5 = .ok (.astore_n 3, 1) := by decide +kernel
theorem dX3_giveWord_6 : decode cX3_giveWord 6 = .ok (.aload_n 3, 1) := by decide +kernel
theorem dX3_giveWord_7 : decode cX3_giveWord 7 = .ok (.ifnonnull 5, 3) := by decide +kernel
theorem dX3_giveWord_10 : decode cX3_giveWord 10 = .ok (.iconst (-1), 1) := by decide +kernel
theorem dX3_giveWord_11 : decode cX3_giveWord 11 = .ok (.ireturn, 1) := by decide +kernel
theorem dX3_giveWord_12 : decode cX3_giveWord 12 = .ok (.aload_n 3, 1) := by decide +kernel
theorem dX3_giveWord_13 : decode cX3_giveWord 13 = .ok (.iload_n 2, 1) := by decide +kernel
theorem dX3_giveWord_14 : decode cX3_giveWord 14 = .ok (.invokevirtual 111, 3) := by decide +kernel
theorem dX3_giveWord_17 : decode cX3_giveWord 17 = .ok (.aload_n 3, 1) := by decide +kernel
theorem dX3_giveWord_18 : decode cX3_giveWord 18 = .ok (.getfield 93, 3) := by decide +kernel
theorem dX3_giveWord_21 : decode cX3_giveWord 21 = .ok (.ireturn, 1) := by decide +kernel
theorem dX3_lossBetween_0 : decode cX3_lossBetween 0 = .ok (.iload_n 1, 1) := by decide +kernel
theorem dX3_lossBetween_1 : decode cX3_lossBetween 1 = .ok (.iconst 3, 1) := by decide +kernel
theorem dX3_lossBetween_2 : decode cX3_lossBetween 2 = .ok (.irem, 1) := by decide +kernel
theorem dX3_lossBetween_3 : decode cX3_lossBetween 3 = .ok (.iload_n 2, 1) := by decide +kernel
theorem dX3_lossBetween_4 : decode cX3_lossBetween 4 = .ok (.iconst 3, 1) := by decide +kernel
theorem dX3_lossBetween_5 : decode cX3_lossBetween 5 = .ok (.irem, 1) := by decide +kernel
theorem dX3_lossBetween_6 : decode cX3_lossBetween 6 = .ok (.if_icmp .ne 7, 3) := by decide +kernel
theorem dX3_lossBetween_9 : decode cX3_lossBetween 9 = .ok (.iconst 0, 1) := by decide +kernel
theorem dX3_lossBetween_10 : decode cX3_lossBetween 10 = .ok (.goto 9, 3) := by decide +kernel
theorem dX3_lossBetween_13 : decode cX3_lossBetween 13 = .ok (.aload_n 0, 1) := by decide +kernel
theorem dX3_lossBetween_14 : decode cX3_lossBetween 14 = .ok (.getfield 35, 3) := by decide +kernel
theorem dX3_lossBetween_17 : decode cX3_lossBetween 17 = .ok (.iconst 0, 1) := by decide +kernel
theorem dX3_lossBetween_18 : decode cX3_lossBetween 18 = .ok (.iaload, 1) := by decide +kernel
theorem dX3_lossBetween_19 : decode cX3_lossBetween 19 = .ok (.istore_n 3, 1) := by decide +kernel
theorem dX3_lossBetween_20 : decode cX3_lossBetween 20 = .ok (.iload_n 1, 1) := by decide +kernel
theorem dX3_lossBetween_21 : decode cX3_lossBetween 21 = .ok (.iconst 3, 1) := by decide +kernel
theorem dX3_lossBetween_22 : decode cX3_lossBetween 22 = .ok (.idiv, 1) := by decide +kernel
theorem dX3_lossBetween_23 : decode cX3_lossBetween 23 = .ok (.iload_n 2, 1) := by decide +kernel
theorem dX3_lossBetween_24 : decode cX3_lossBetween 24 = .ok (.iconst 3, 1) := by decide +kernel
theorem dX3_lossBetween_25 : decode cX3_lossBetween 25 = .ok (.idiv, 1) := by decide +kernel
theorem dX3_lossBetween_26 : decode cX3_lossBetween 26 = .ok (.if_icmp .ne 7, 3) := by decide +kernel
theorem dX3_lossBetween_29 : decode cX3_lossBetween 29 = .ok (.iconst 0, 1) := by decide +kernel
theorem dX3_lossBetween_30 : decode cX3_lossBetween 30 = .ok (.goto 9, 3) := by decide +kernel
theorem dX3_lossBetween_33 : decode cX3_lossBetween 33 = .ok (.aload_n 0, 1) := by decide +kernel
theorem dX3_lossBetween_34 : decode cX3_lossBetween 34 = .ok (.getfield 35, 3) := by decide +kernel
theorem dX3_lossBetween_37 : decode cX3_lossBetween 37 = .ok (.iconst 1, 1) := by decide +kernel
theorem dX3_lossBetween_38 : decode cX3_lossBetween 38 = .ok (.iaload, 1) := by decide +kernel
theorem dX3_lossBetween_39 : decode cX3_lossBetween 39 = .ok (.istore 4, 2) := by decide +kernel
theorem dX3_lossBetween_41 : decode cX3_lossBetween 41 = .ok (.iload_n 3, 1) := by decide +kernel
theorem dX3_lossBetween_42 : decode cX3_lossBetween 42 = .ok (.iload 4, 2) := by decide +kernel
theorem dX3_lossBetween_44 : decode cX3_lossBetween 44 = .ok (.iadd, 1) := by decide +kernel
theorem dX3_lossBetween_45 : decode cX3_lossBetween 45 = .ok (.ireturn, 1) := by decide +kernel
set_option maxRecDepth 20000 in
theorem ggX3_letPass_X3_beat : GoodIn wsX3_letPass wsX3_beat := goodIn_r _ [5, 6, 7, 8, 9, 4, 10, 11, 12, 13, 14, 15, 16, 17, 18, 19, 20, 21, 22, 23, 24, 25, 26, 27, 28, 29, 30, 31, 32, 33, 34, 35, 36, 37, 38, 39, 40, 41, 42, 43, 44, 45, 46, 47, 48, 49, 50, 51, 52, 53, 54, 55, 56, 57, 58, 59, 60, 61, 62, 63, 64, 65, 66, 67, 68, 69, 70, 71, 72, 73, 74, 75, 76, 77, 78, 79, 80, 81, 82, 83, 84, 85, 86, 87, 88, 89, 90, 91, 92, 93, 94, 95, 96, 97, 98, 99, 100, 101, 102, 103, 104, 105, 106, 107, 108, 109, 110, 111, 112, 113, 114, 115, 116, 117, 118, 119, 120, 121, 122, 123, 124, 125, 126, 127, 128, 129, 130, 131, 132, 133, 134, 135, 136, 137, 138, 139, 140, 141, 142, 143, 144, 145, 146, 147, 148, 149, 150, 151, 152, 153, 154, 155, 156, 157, 158, 159, 160, 161, 162, 163, 164, 165, 166, 167, 168, 169, 170, 171, 172, 173, 174, 175, 176, 177, 178, 179, 180, 181, 182, 183, 184, 185, 186, 187, 188, 189, 190, 191, 192, 193, 194, 195, 196, 197, 198, 199, 200, 201, 202, 203, 204, 205, 206, 207, 208, 209] (by decide +kernel) (by decide +kernel)
set_option maxRecDepth 20000 in
theorem gX3_letPass_X3_beat : GoodIn wsX3_letPass (wsV RX3 114 RX3 yX3_beat wsX3_beat) := goodIn_app (goodIn_of _ (by decide +kernel)) ggX3_letPass_X3_beat
theorem dX3_letPass_0 : decode cX3_letPass 0 = .ok (.iconst 0, 1) := by decide +kernel
theorem dX3_letPass_1 : decode cX3_letPass 1 = .ok (.istore_n 2, 1) := by decide +kernel
theorem dX3_letPass_2 : decode cX3_letPass 2 = .ok (.iconst 0, 1) := by decide +kernel
theorem dX3_letPass_3 : decode cX3_letPass 3 = .ok (.istore_n 3, 1) := by decide +kernel
theorem dX3_letPass_4 : decode cX3_letPass 4 = .ok (.iload_n 3, 1) := by decide +kernel
theorem dX3_letPass_5 : decode cX3_letPass 5 = .ok (.iload_n 1, 1) := by decide +kernel
theorem dX3_letPass_6 : decode cX3_letPass 6 = .ok (.if_icmp .ge 16, 3) := by decide +kernel
theorem dX3_letPass_9 : decode cX3_letPass 9 = .ok (.iload_n 2, 1) := by decide +kernel
theorem dX3_letPass_10 : decode cX3_letPass 10 = .ok (.aload_n 0, 1) := by decide +kernel
theorem dX3_letPass_11 : decode cX3_letPass 11 = .ok (.invokevirtual 114, 3) := by decide +kernel
theorem dX3_letPass_14 : decode cX3_letPass 14 = .ok (.iadd, 1) := by decide +kernel
theorem dX3_letPass_15 : decode cX3_letPass 15 = .ok (.istore_n 2, 1) := by decide +kernel
theorem dX3_letPass_16 : decode cX3_letPass 16 = .ok (.iinc 3 1, 3) := by decide +kernel
theorem dX3_letPass_19 : decode cX3_letPass 19 = .ok (.goto (-15), 3) := by decide +kernel
theorem dX3_letPass_22 : decode cX3_letPass 22 = .ok (.iload_n 2, 1) := by decide +kernel
theorem dX3_letPass_23 : decode cX3_letPass 23 = .ok (.ireturn, 1) := by decide +kernel
set_option maxRecDepth 20000 in
theorem ggX3_beat_X3_beginSpeaking : GoodIn wsX3_beat wsX3_beginSpeaking := goodIn_r _ [6, 7, 8, 9, 10, 11, 12, 13, 14, 5, 15, 16, 17, 18, 19, 20, 21, 22, 23, 24, 25, 26, 27, 28, 29, 30, 31, 32, 33, 168, 169, 170, 171, 172, 173, 174, 175, 176, 177, 178, 179, 180, 181, 182, 183, 184, 185, 186, 187, 188, 189, 190, 191, 192, 193, 194, 195, 196, 197, 198, 199, 200, 201, 202, 203, 204, 205] (by decide +kernel) (by decide +kernel)
set_option maxRecDepth 20000 in
theorem gX3_beat_X3_beginSpeaking : GoodIn wsX3_beat (wsV RX3 118 RX3 yX3_beginSpeaking wsX3_beginSpeaking) := goodIn_app (goodIn_of _ (by decide +kernel)) ggX3_beat_X3_beginSpeaking
set_option maxRecDepth 20000 in
theorem ggX3_beat_X3_carryBits : GoodIn wsX3_beat wsX3_carryBits := goodIn_r _ [37, 38, 7, 10, 11, 39, 40, 1, 41, 42, 43, 44, 45, 46, 27, 47, 48, 9, 29, 49, 50, 51, 52, 33, 53, 54, 55, 56, 57, 58, 59, 5, 60, 61, 62, 63, 64, 65, 66, 67, 68, 69, 70, 71, 72, 73, 74, 168, 169, 170, 171, 172, 173, 174, 175, 176, 177, 178, 179, 180, 181, 182, 183, 184, 185, 186, 187, 188, 189, 190, 191, 192, 193, 194, 195, 196, 197, 198] (by decide +kernel) (by decide +kernel)
set_option maxRecDepth 20000 in
theorem gX3_beat_X3_carryBits : GoodIn wsX3_beat (wsV RX3 121 RX3 yX3_carryBits wsX3_carryBits) := goodIn_app (goodIn_of _ (by decide +kernel)) ggX3_beat_X3_carryBits
set_option maxRecDepth 20000 in
theorem ggX3_beat_X3_moveSenders : GoodIn wsX3_beat wsX3_moveSenders := goodIn_r _ [78, 7, 10, 11, 79, 61, 44, 45, 46, 27, 47, 48, 9, 29, 80, 81, 82, 5, 83, 38, 84, 85, 86, 87, 33, 88, 50, 51, 52, 53, 54, 55, 56, 89, 90, 91, 92, 93, 94, 30, 95, 96, 97, 98, 32, 99, 100, 101, 102, 31, 168, 169, 170, 171, 172, 173, 174, 175, 176, 177, 178, 179, 180, 181, 182, 183, 184, 185, 186, 187, 188, 189, 190, 191, 192, 193, 194, 195, 196, 197, 198] (by decide +kernel) (by decide +kernel)
set_option maxRecDepth 20000 in
theorem gX3_beat_X3_moveSenders : GoodIn wsX3_beat (wsV RX3 124 RX3 yX3_moveSenders wsX3_moveSenders) := goodIn_app (goodIn_of _ (by decide +kernel)) ggX3_beat_X3_moveSenders
set_option maxRecDepth 20000 in
theorem ggX3_beat_X3_takeBits : GoodIn wsX3_beat wsX3_takeBits := goodIn_r _ [106, 16, 79, 80, 81, 82, 5, 83, 38, 107, 55, 108, 109, 110, 111, 20, 112, 22, 113, 114, 115, 116, 117, 118, 119, 120, 121, 122, 23, 123, 124, 125, 126, 127, 128, 129, 130, 1, 131, 132, 133, 134, 135, 136, 137, 138, 139, 140, 141, 142, 143, 144, 145, 146, 147, 148, 149, 150, 151, 152, 153, 154, 155, 156, 157, 158, 159, 160, 161, 162, 163, 164, 165, 166, 167, 168, 169, 170, 171, 172, 173, 174, 175, 199, 200, 201, 202, 203, 204, 205, 176, 177, 178, 179, 180, 181, 182, 183, 184, 185, 186, 187, 188, 189, 190, 191, 192, 193, 194, 195, 196, 197, 198] (by decide +kernel) (by decide +kernel)
set_option maxRecDepth 20000 in
theorem gX3_beat_X3_takeBits : GoodIn wsX3_beat (wsV RX3 127 RX3 yX3_takeBits wsX3_takeBits) := goodIn_app (goodIn_of _ (by decide +kernel)) ggX3_beat_X3_takeBits
theorem dX3_beat_0 : decode cX3_beat 0 = .ok (.aload_n 0, 1) := by decide +kernel
theorem dX3_beat_1 : decode cX3_beat 1 = .ok (.invokevirtual 118, 3) := by decide +kernel
theorem dX3_beat_4 : decode cX3_beat 4 = .ok (.aload_n 0, 1) := by decide +kernel
theorem dX3_beat_5 : decode cX3_beat 5 = .ok (.invokevirtual 121, 3) := by decide +kernel
theorem dX3_beat_8 : decode cX3_beat 8 = .ok (.aload_n 0, 1) := by decide +kernel
theorem dX3_beat_9 : decode cX3_beat 9 = .ok (.invokevirtual 124, 3) := by decide +kernel
theorem dX3_beat_12 : decode cX3_beat 12 = .ok (.aload_n 0, 1) := by decide +kernel
theorem dX3_beat_13 : decode cX3_beat 13 = .ok (.invokevirtual 127, 3) := by decide +kernel
theorem dX3_beat_16 : decode cX3_beat 16 = .ok (.istore_n 1, 1) := by decide +kernel
theorem dX3_beat_17 : decode cX3_beat 17 = .ok (.aload_n 0, 1) := by decide +kernel
theorem dX3_beat_18 : decode cX3_beat 18 = .ok (.dup, 1) := by decide +kernel
theorem dX3_beat_19 : decode cX3_beat 19 = .ok (.getfield 42, 3) := by decide +kernel
theorem dX3_beat_22 : decode cX3_beat 22 = .ok (.iconst 1, 1) := by decide +kernel
theorem dX3_beat_23 : decode cX3_beat 23 = .ok (.iadd, 1) := by decide +kernel
theorem dX3_beat_24 : decode cX3_beat 24 = .ok (.putfield 42, 3) := by decide +kernel
theorem dX3_beat_27 : decode cX3_beat 27 = .ok (.iload_n 1, 1) := by decide +kernel
theorem dX3_beat_28 : decode cX3_beat 28 = .ok (.ireturn, 1) := by decide +kernel
set_option maxRecDepth 20000 in
theorem ggX3_beginSpeaking_X3_isQuietOn : GoodIn wsX3_beginSpeaking wsX3_isQuietOn := goodIn_r _ [10, 11, 12, 13, 14, 15, 16, 17, 18, 29, 30, 31, 32, 33, 34, 35, 36, 60, 61, 62, 63, 64, 65, 66] (by decide +kernel) (by decide +kernel)
set_option maxRecDepth 20000 in
theorem gX3_beginSpeaking_X3_isQuietOn : GoodIn wsX3_beginSpeaking (wsV RX3 133 RX3 yX3_isQuietOn wsX3_isQuietOn) := goodIn_app (goodIn_of _ (by decide +kernel)) ggX3_beginSpeaking_X3_isQuietOn
set_option maxRecDepth 20000 in
theorem ggX3_beginSpeaking_X6_beginOrWait : GoodIn wsX3_beginSpeaking wsX6_beginOrWait := goodIn_r _ [23, 24, 25, 26, 27, 28, 50, 51, 52, 53, 54, 55, 56, 57, 58, 59] (by decide +kernel) (by decide +kernel)
set_option maxRecDepth 20000 in
theorem gX3_beginSpeaking_X6_beginOrWait : GoodIn wsX3_beginSpeaking (wsV RX3 136 RX6 yX6_beginOrWait wsX6_beginOrWait) := goodIn_app (goodIn_of _ (by decide +kernel)) ggX3_beginSpeaking_X6_beginOrWait
theorem dX3_beginSpeaking_0 : decode cX3_beginSpeaking 0 = .ok (.aload_n 0, 1) := by decide +kernel
theorem dX3_beginSpeaking_1 : decode cX3_beginSpeaking 1 = .ok (.getfield 11, 3) := by decide +kernel
theorem dX3_beginSpeaking_4 : decode cX3_beginSpeaking 4 = .ok (.astore_n 1, 1) := by decide +kernel
theorem dX3_beginSpeaking_5 : decode cX3_beginSpeaking 5 = .ok (.aload_n 1, 1) := by decide +kernel
theorem dX3_beginSpeaking_6 : decode cX3_beginSpeaking 6 = .ok (.arraylength, 1) := by decide +kernel
theorem dX3_beginSpeaking_7 : decode cX3_beginSpeaking 7 = .ok (.istore_n 2, 1) := by decide +kernel
theorem dX3_beginSpeaking_8 : decode cX3_beginSpeaking 8 = .ok (.iconst 0, 1) := by decide +kernel
theorem dX3_beginSpeaking_9 : decode cX3_beginSpeaking 9 = .ok (.istore_n 3, 1) := by decide +kernel
theorem dX3_beginSpeaking_10 : decode cX3_beginSpeaking 10 = .ok (.iload_n 3, 1) := by decide +kernel
theorem dX3_beginSpeaking_11 : decode cX3_beginSpeaking 11 = .ok (.iload_n 2, 1) := by decide +kernel
theorem dX3_beginSpeaking_12 : decode cX3_beginSpeaking 12 = .ok (.if_icmp .ge 36, 3) := by decide +kernel
theorem dX3_beginSpeaking_15 : decode cX3_beginSpeaking 15 = .ok (.aload_n 1, 1) := by decide +kernel
theorem dX3_beginSpeaking_16 : decode cX3_beginSpeaking 16 = .ok (.iload_n 3, 1) := by decide +kernel
theorem dX3_beginSpeaking_17 : decode cX3_beginSpeaking 17 = .ok (.aaload, 1) := by decide +kernel
theorem dX3_beginSpeaking_18 : decode cX3_beginSpeaking 18 = .ok (.astore 4, 2) := by decide +kernel
theorem dX3_beginSpeaking_20 : decode cX3_beginSpeaking 20 = .ok (.aload 4, 2) := by decide +kernel
theorem dX3_beginSpeaking_22 : decode cX3_beginSpeaking 22 = .ok (.getfield 89, 3) := by decide +kernel
theorem dX3_beginSpeaking_25 : decode cX3_beginSpeaking 25 = .ok (.ifCond .eq 17, 3) := by decide +kernel
theorem dX3_beginSpeaking_28 : decode cX3_beginSpeaking 28 = .ok (.aload 4, 2) := by decide +kernel
theorem dX3_beginSpeaking_30 : decode cX3_beginSpeaking 30 = .ok (.aload_n 0, 1) := by decide +kernel
theorem dX3_beginSpeaking_31 : decode cX3_beginSpeaking 31 = .ok (.aload 4, 2) := by decide +kernel
theorem dX3_beginSpeaking_33 : decode cX3_beginSpeaking 33 = .ok (.getfield 130, 3) := by decide +kernel
theorem dX3_beginSpeaking_36 : decode cX3_beginSpeaking 36 = .ok (.invokevirtual 133, 3) := by decide +kernel
theorem dX3_beginSpeaking_39 : decode cX3_beginSpeaking 39 = .ok (.invokevirtual 136, 3) := by decide +kernel
theorem dX3_beginSpeaking_42 : decode cX3_beginSpeaking 42 = .ok (.iinc 3 1, 3) := by decide +kernel
theorem dX3_beginSpeaking_45 : decode cX3_beginSpeaking 45 = .ok (.goto (-35), 3) := by decide +kernel
theorem dX3_beginSpeaking_48 : decode cX3_beginSpeaking 48 = .ok (.return_, 1) := by decide +kernel
set_option maxRecDepth 20000 in
theorem ggX3_isQuietOn_X4_isQuiet : GoodIn wsX3_isQuietOn wsX4_isQuiet := goodIn_r _ [6, 7, 8, 17, 18, 19, 20, 21, 22, 23] (by decide +kernel) (by decide +kernel)
set_option maxRecDepth 20000 in
theorem gX3_isQuietOn_X4_isQuiet : GoodIn wsX3_isQuietOn (wsV RX3 140 RX4 yX4_isQuiet wsX4_isQuiet) := goodIn_app (goodIn_of _ (by decide +kernel)) ggX3_isQuietOn_X4_isQuiet
theorem dX3_isQuietOn_0 : decode cX3_isQuietOn 0 = .ok (.iload_n 1, 1) := by decide +kernel
theorem dX3_isQuietOn_1 : decode cX3_isQuietOn 1 = .ok (.ifCond .lt 28, 3) := by decide +kernel
theorem dX3_isQuietOn_4 : decode cX3_isQuietOn 4 = .ok (.iload_n 1, 1) := by decide +kernel
theorem dX3_isQuietOn_5 : decode cX3_isQuietOn 5 = .ok (.aload_n 0, 1) := by decide +kernel
theorem dX3_isQuietOn_6 : decode cX3_isQuietOn 6 = .ok (.getfield 31, 3) := by decide +kernel
theorem dX3_isQuietOn_9 : decode cX3_isQuietOn 9 = .ok (.arraylength, 1) := by decide +kernel
theorem dX3_isQuietOn_10 : decode cX3_isQuietOn 10 = .ok (.if_icmp .ge 19, 3) := by decide +kernel
theorem dX3_isQuietOn_13 : decode cX3_isQuietOn 13 = .ok (.aload_n 0, 1) := by decide +kernel
theorem dX3_isQuietOn_14 : decode cX3_isQuietOn 14 = .ok (.getfield 31, 3) := by decide +kernel
theorem dX3_isQuietOn_17 : decode cX3_isQuietOn 17 = .ok (.iload_n 1, 1) := by decide +kernel
theorem dX3_isQuietOn_18 : decode cX3_isQuietOn 18 = .ok (.aaload, 1) := by decide +kernel
theorem dX3_isQuietOn_19 : decode cX3_isQuietOn 19 = .ok (.invokevirtual 140, 3) := by decide +kernel
theorem dX3_isQuietOn_22 : decode cX3_isQuietOn 22 = .ok (.ifCond .eq 7, 3) := by decide +kernel
theorem dX3_isQuietOn_25 : decode cX3_isQuietOn 25 = .ok (.iconst 1, 1) := by decide +kernel
theorem dX3_isQuietOn_26 : decode cX3_isQuietOn 26 = .ok (.goto 4, 3) := by decide +kernel
theorem dX3_isQuietOn_29 : decode cX3_isQuietOn 29 = .ok (.iconst 0, 1) := by decide +kernel
theorem dX3_isQuietOn_30 : decode cX3_isQuietOn 30 = .ok (.ireturn, 1) := by decide +kernel
theorem dX3_isHeardOn_0 : decode cX3_isHeardOn 0 = .ok (.iload_n 1, 1) := by decide +kernel
theorem dX3_isHeardOn_1 : decode cX3_isHeardOn 1 = .ok (.ifCond .lt 25, 3) := by decide +kernel
theorem dX3_isHeardOn_4 : decode cX3_isHeardOn 4 = .ok (.iload_n 1, 1) := by decide +kernel
theorem dX3_isHeardOn_5 : decode cX3_isHeardOn 5 = .ok (.aload_n 0, 1) := by decide +kernel
theorem dX3_isHeardOn_6 : decode cX3_isHeardOn 6 = .ok (.getfield 46, 3) := by decide +kernel
theorem dX3_isHeardOn_9 : decode cX3_isHeardOn 9 = .ok (.arraylength, 1) := by decide +kernel
theorem dX3_isHeardOn_10 : decode cX3_isHeardOn 10 = .ok (.if_icmp .ge 16, 3) := by decide +kernel
theorem dX3_isHeardOn_13 : decode cX3_isHeardOn 13 = .ok (.aload_n 0, 1) := by decide +kernel
theorem dX3_isHeardOn_14 : decode cX3_isHeardOn 14 = .ok (.getfield 46, 3) := by decide +kernel
theorem dX3_isHeardOn_17 : decode cX3_isHeardOn 17 = .ok (.iload_n 1, 1) := by decide +kernel
theorem dX3_isHeardOn_18 : decode cX3_isHeardOn 18 = .ok (.baload, 1) := by decide +kernel
theorem dX3_isHeardOn_19 : decode cX3_isHeardOn 19 = .ok (.ifCond .eq 7, 3) := by decide +kernel
theorem dX3_isHeardOn_22 : decode cX3_isHeardOn 22 = .ok (.iconst 1, 1) := by decide +kernel
theorem dX3_isHeardOn_23 : decode cX3_isHeardOn 23 = .ok (.goto 4, 3) := by decide +kernel
theorem dX3_isHeardOn_26 : decode cX3_isHeardOn 26 = .ok (.iconst 0, 1) := by decide +kernel
theorem dX3_isHeardOn_27 : decode cX3_isHeardOn 27 = .ok (.ireturn, 1) := by decide +kernel
set_option maxRecDepth 20000 in
theorem ggX3_carryBits_X6_isSpeaking : GoodIn wsX3_carryBits wsX6_isSpeaking := goodIn_r _ [15, 16, 17, 18, 55, 56, 57, 58, 59, 60, 61, 62, 63, 64, 65, 66, 67, 68, 69, 70, 71, 72, 73, 74, 75, 76, 77] (by decide +kernel) (by decide +kernel)
set_option maxRecDepth 20000 in
theorem gX3_carryBits_X6_isSpeaking : GoodIn wsX3_carryBits (wsV RX3 81 RX6 yX6_isSpeaking wsX6_isSpeaking) := goodIn_app (goodIn_of _ (by decide +kernel)) ggX3_carryBits_X6_isSpeaking
set_option maxRecDepth 20000 in
theorem ggX3_carryBits_X6_bitToSend : GoodIn wsX3_carryBits wsX6_bitToSend := goodIn_r _ [22, 23, 24, 25, 26, 27, 68, 69, 70, 71, 72, 73, 74, 75, 76, 77] (by decide +kernel) (by decide +kernel)
set_option maxRecDepth 20000 in
theorem gX3_carryBits_X6_bitToSend : GoodIn wsX3_carryBits (wsV RX3 143 RX6 yX6_bitToSend wsX6_bitToSend) := goodIn_app (goodIn_of _ (by decide +kernel)) ggX3_carryBits_X6_bitToSend
set_option maxRecDepth 20000 in
theorem ggX3_carryBits_X3_spreadOne : GoodIn wsX3_carryBits wsX3_spreadOne := goodIn_r _ [32, 1, 33, 34, 35, 36, 31, 37, 47, 48, 49, 50, 51, 52, 53, 54] (by decide +kernel) (by decide +kernel)
set_option maxRecDepth 20000 in
theorem gX3_carryBits_X3_spreadOne : GoodIn wsX3_carryBits (wsV RX3 149 RX3 yX3_spreadOne wsX3_spreadOne) := goodIn_app (goodIn_of _ (by decide +kernel)) ggX3_carryBits_X3_spreadOne
set_option maxRecDepth 20000 in
theorem ggX3_carryBits_X2_makesNoiseAt : GoodIn wsX3_carryBits wsX2_makesNoiseAt := goodIn_r _ [42, 43, 44, 45, 46, 55, 56, 57, 58, 59, 60, 61, 62, 63, 64, 65, 66, 67, 68, 69, 70, 71, 72, 73, 74, 75, 76, 77] (by decide +kernel) (by decide +kernel)
set_option maxRecDepth 20000 in
theorem gX3_carryBits_X2_makesNoiseAt : GoodIn wsX3_carryBits (wsV RX3 153 RX2 yX2_makesNoiseAt wsX2_makesNoiseAt) := goodIn_app (goodIn_of _ (by decide +kernel)) ggX3_carryBits_X2_makesNoiseAt
theorem dX3_carryBits_0 : decode cX3_carryBits 0 = .ok (.iconst 0, 1) := by decide +kernel
theorem dX3_carryBits_1 : decode cX3_carryBits 1 = .ok (.istore_n 1, 1) := by decide +kernel
theorem dX3_carryBits_2 : decode cX3_carryBits 2 = .ok (.iload_n 1, 1) := by decide +kernel
theorem dX3_carryBits_3 : decode cX3_carryBits 3 = .ok (.aload_n 0, 1) := by decide +kernel
theorem dX3_carryBits_4 : decode cX3_carryBits 4 = .ok (.getfield 46, 3) := by decide +kernel
theorem dX3_carryBits_7 : decode cX3_carryBits 7 = .ok (.arraylength, 1) := by decide +kernel
theorem dX3_carryBits_8 : decode cX3_carryBits 8 = .ok (.if_icmp .ge 16, 3) := by decide +kernel
theorem dX3_carryBits_11 : decode cX3_carryBits 11 = .ok (.aload_n 0, 1) := by decide +kernel
theorem dX3_carryBits_12 : decode cX3_carryBits 12 = .ok (.getfield 46, 3) := by decide +kernel
theorem dX3_carryBits_15 : decode cX3_carryBits 15 = .ok (.iload_n 1, 1) := by decide +kernel
theorem dX3_carryBits_16 : decode cX3_carryBits 16 = .ok (.iconst 0, 1) := by decide +kernel
theorem dX3_carryBits_17 : decode cX3_carryBits 17 = .ok (.bastore, 1) := by decide +kernel
theorem dX3_carryBits_18 : decode cX3_carryBits 18 = .ok (.iinc 1 1, 3) := by decide +kernel
theorem dX3_carryBits_21 : decode cX3_carryBits 21 = .ok (.goto (-19), 3) := by decide +kernel
theorem dX3_carryBits_24 : decode cX3_carryBits 24 = .ok (.aload_n 0, 1) := by decide +kernel
theorem dX3_carryBits_25 : decode cX3_carryBits 25 = .ok (.getfield 11, 3) := by decide +kernel
theorem dX3_carryBits_28 : decode cX3_carryBits 28 = .ok (.astore_n 1, 1) := by decide +kernel
theorem dX3_carryBits_29 : decode cX3_carryBits 29 = .ok (.aload_n 1, 1) := by decide +kernel
theorem dX3_carryBits_30 : decode cX3_carryBits 30 = .ok (.arraylength, 1) := by decide +kernel
theorem dX3_carryBits_31 : decode cX3_carryBits 31 = .ok (.istore_n 2, 1) := by decide +kernel
theorem dX3_carryBits_32 : decode cX3_carryBits 32 = .ok (.iconst 0, 1) := by decide +kernel
theorem dX3_carryBits_33 : decode cX3_carryBits 33 = .ok (.istore_n 3, 1) := by decide +kernel
theorem dX3_carryBits_34 : decode cX3_carryBits 34 = .ok (.iload_n 3, 1) := by decide +kernel
theorem dX3_carryBits_35 : decode cX3_carryBits 35 = .ok (.iload_n 2, 1) := by decide +kernel
theorem dX3_carryBits_36 : decode cX3_carryBits 36 = .ok (.if_icmp .ge 45, 3) := by decide +kernel
theorem dX3_carryBits_39 : decode cX3_carryBits 39 = .ok (.aload_n 1, 1) := by decide +kernel
theorem dX3_carryBits_40 : decode cX3_carryBits 40 = .ok (.iload_n 3, 1) := by decide +kernel
theorem dX3_carryBits_41 : decode cX3_carryBits 41 = .ok (.aaload, 1) := by decide +kernel
theorem dX3_carryBits_42 : decode cX3_carryBits 42 = .ok (.astore 4, 2) := by decide +kernel
theorem dX3_carryBits_44 : decode cX3_carryBits 44 = .ok (.aload 4, 2) := by decide +kernel
theorem dX3_carryBits_46 : decode cX3_carryBits 46 = .ok (.invokevirtual 81, 3) := by decide +kernel
theorem dX3_carryBits_49 : decode cX3_carryBits 49 = .ok (.ifCond .eq 26, 3) := by decide +kernel
theorem dX3_carryBits_52 : decode cX3_carryBits 52 = .ok (.aload 4, 2) := by decide +kernel
theorem dX3_carryBits_54 : decode cX3_carryBits 54 = .ok (.invokevirtual 143, 3) := by decide +kernel
theorem dX3_carryBits_57 : decode cX3_carryBits 57 = .ok (.iconst 1, 1) := by decide +kernel
theorem dX3_carryBits_58 : decode cX3_carryBits 58 = .ok (.if_icmp .ne 17, 3) := by decide +kernel
theorem dX3_carryBits_61 : decode cX3_carryBits 61 = .ok (.aload_n 0, 1) := by decide +kernel
theorem dX3_carryBits_62 : decode cX3_carryBits 62 = .ok (.aload 4, 2) := by decide +kernel
theorem dX3_carryBits_64 : decode cX3_carryBits 64 = .ok (.getfield 130, 3) := by decide +kernel
theorem dX3_carryBits_67 : decode cX3_carryBits 67 = .ok (.aload 4, 2) := by decide +kernel
theorem dX3_carryBits_69 : decode cX3_carryBits 69 = .ok (.getfield 146, 3) := by decide +kernel
theorem dX3_carryBits_72 : decode cX3_carryBits 72 = .ok (.invokevirtual 149, 3) := by decide +kernel
theorem dX3_carryBits_75 : decode cX3_carryBits 75 = .ok (.iinc 3 1, 3) := by decide +kernel
theorem dX3_carryBits_78 : decode cX3_carryBits 78 = .ok (.goto (-44), 3) := by decide +kernel
theorem dX3_carryBits_81 : decode cX3_carryBits 81 = .ok (.aload_n 0, 1) := by decide +kernel
theorem dX3_carryBits_82 : decode cX3_carryBits 82 = .ok (.getfield 19, 3) := by decide +kernel
theorem dX3_carryBits_85 : decode cX3_carryBits 85 = .ok (.astore_n 1, 1) := by decide +kernel
theorem dX3_carryBits_86 : decode cX3_carryBits 86 = .ok (.aload_n 1, 1) := by decide +kernel
theorem dX3_carryBits_87 : decode cX3_carryBits 87 = .ok (.arraylength, 1) := by decide +kernel
theorem dX3_carryBits_88 : decode cX3_carryBits 88 = .ok (.istore_n 2, 1) := by decide +kernel
theorem dX3_carryBits_89 : decode cX3_carryBits 89 = .ok (.iconst 0, 1) := by decide +kernel
theorem dX3_carryBits_90 : decode cX3_carryBits 90 = .ok (.istore_n 3, 1) := by decide +kernel
theorem dX3_carryBits_91 : decode cX3_carryBits 91 = .ok (.iload_n 3, 1) := by decide +kernel
theorem dX3_carryBits_92 : decode cX3_carryBits 92 = .ok (.iload_n 2, 1) := by decide +kernel
theorem dX3_carryBits_93 : decode cX3_carryBits 93 = .ok (.if_icmp .ge 40, 3) := by decide +kernel
theorem dX3_carryBits_96 : decode cX3_carryBits 96 = .ok (.aload_n 1, 1) := by decide +kernel
theorem dX3_carryBits_97 : decode cX3_carryBits 97 = .ok (.iload_n 3, 1) := by decide +kernel
theorem dX3_carryBits_98 : decode cX3_carryBits 98 = .ok (.aaload, 1) := by decide +kernel
theorem dX3_carryBits_99 : decode cX3_carryBits 99 = .ok (.astore 4, 2) := by decide +kernel
theorem dX3_carryBits_101 : decode cX3_carryBits 101 = .ok (.aload 4, 2) := by decide +kernel
theorem dX3_carryBits_103 : decode cX3_carryBits 103 = .ok (.aload_n 0, 1) := by decide +kernel
theorem dX3_carryBits_104 : decode cX3_carryBits 104 = .ok (.getfield 42, 3) := by decide +kernel
theorem dX3_carryBits_107 : decode cX3_carryBits 107 = .ok (.invokevirtual 153, 3) := by decide +kernel
theorem dX3_carryBits_110 : decode cX3_carryBits 110 = .ok (.ifCond .eq 17, 3) := by decide +kernel
theorem dX3_carryBits_113 : decode cX3_carryBits 113 = .ok (.aload_n 0, 1) := by decide +kernel
theorem dX3_carryBits_114 : decode cX3_carryBits 114 = .ok (.aload 4, 2) := by decide +kernel
theorem dX3_carryBits_116 : decode cX3_carryBits 116 = .ok (.getfield 156, 3) := by decide +kernel
theorem dX3_carryBits_119 : decode cX3_carryBits 119 = .ok (.aload 4, 2) := by decide +kernel
theorem dX3_carryBits_121 : decode cX3_carryBits 121 = .ok (.getfield 157, 3) := by decide +kernel
theorem dX3_carryBits_124 : decode cX3_carryBits 124 = .ok (.invokevirtual 149, 3) := by decide +kernel
theorem dX3_carryBits_127 : decode cX3_carryBits 127 = .ok (.iinc 3 1, 3) := by decide +kernel
theorem dX3_carryBits_130 : decode cX3_carryBits 130 = .ok (.goto (-39), 3) := by decide +kernel
theorem dX3_carryBits_133 : decode cX3_carryBits 133 = .ok (.return_, 1) := by decide +kernel
set_option maxRecDepth 20000 in
theorem ggX3_spreadOne_X3_lossBetween : GoodIn wsX3_spreadOne wsX3_lossBetween := goodIn_r _ [7, 2, 8, 9, 10, 11, 12, 13, 14, 15] (by decide +kernel) (by decide +kernel)
set_option maxRecDepth 20000 in
theorem gX3_spreadOne_X3_lossBetween : GoodIn wsX3_spreadOne (wsV RX3 158 RX3 yX3_lossBetween wsX3_lossBetween) := goodIn_app (goodIn_of _ (by decide +kernel)) ggX3_spreadOne_X3_lossBetween
theorem dX3_spreadOne_0 : decode cX3_spreadOne 0 = .ok (.iconst 0, 1) := by decide +kernel
theorem dX3_spreadOne_1 : decode cX3_spreadOne 1 = .ok (.istore_n 3, 1) := by decide +kernel
theorem dX3_spreadOne_2 : decode cX3_spreadOne 2 = .ok (.iload_n 3, 1) := by decide +kernel
theorem dX3_spreadOne_3 : decode cX3_spreadOne 3 = .ok (.aload_n 0, 1) := by decide +kernel
theorem dX3_spreadOne_4 : decode cX3_spreadOne 4 = .ok (.getfield 46, 3) := by decide +kernel
theorem dX3_spreadOne_7 : decode cX3_spreadOne 7 = .ok (.arraylength, 1) := by decide +kernel
theorem dX3_spreadOne_8 : decode cX3_spreadOne 8 = .ok (.if_icmp .ge 33, 3) := by decide +kernel
theorem dX3_spreadOne_11 : decode cX3_spreadOne 11 = .ok (.iload_n 2, 1) := by decide +kernel
theorem dX3_spreadOne_12 : decode cX3_spreadOne 12 = .ok (.aload_n 0, 1) := by decide +kernel
theorem dX3_spreadOne_13 : decode cX3_spreadOne 13 = .ok (.iload_n 1, 1) := by decide +kernel
theorem dX3_spreadOne_14 : decode cX3_spreadOne 14 = .ok (.iload_n 3, 1) := by decide +kernel
theorem dX3_spreadOne_15 : decode cX3_spreadOne 15 = .ok (.invokevirtual 158, 3) := by decide +kernel
theorem dX3_spreadOne_18 : decode cX3_spreadOne 18 = .ok (.isub, 1) := by decide +kernel
theorem dX3_spreadOne_19 : decode cX3_spreadOne 19 = .ok (.aload_n 0, 1) := by decide +kernel
theorem dX3_spreadOne_20 : decode cX3_spreadOne 20 = .ok (.getfield 35, 3) := by decide +kernel
theorem dX3_spreadOne_23 : decode cX3_spreadOne 23 = .ok (.iconst 2, 1) := by decide +kernel
theorem dX3_spreadOne_24 : decode cX3_spreadOne 24 = .ok (.iaload, 1) := by decide +kernel
theorem dX3_spreadOne_25 : decode cX3_spreadOne 25 = .ok (.if_icmp .lt 10, 3) := by decide +kernel
theorem dX3_spreadOne_28 : decode cX3_spreadOne 28 = .ok (.aload_n 0, 1) := by decide +kernel
theorem dX3_spreadOne_29 : decode cX3_spreadOne 29 = .ok (.getfield 46, 3) := by decide +kernel
theorem dX3_spreadOne_32 : decode cX3_spreadOne 32 = .ok (.iload_n 3, 1) := by decide +kernel
theorem dX3_spreadOne_33 : decode cX3_spreadOne 33 = .ok (.iconst 1, 1) := by decide +kernel
theorem dX3_spreadOne_34 : decode cX3_spreadOne 34 = .ok (.bastore, 1) := by decide +kernel
theorem dX3_spreadOne_35 : decode cX3_spreadOne 35 = .ok (.iinc 3 1, 3) := by decide +kernel
theorem dX3_spreadOne_38 : decode cX3_spreadOne 38 = .ok (.goto (-36), 3) := by decide +kernel
theorem dX3_spreadOne_41 : decode cX3_spreadOne 41 = .ok (.return_, 1) := by decide +kernel
set_option maxRecDepth 20000 in
theorem ggX3_moveSenders_X6_isSpeaking : GoodIn wsX3_moveSenders wsX6_isSpeaking := goodIn_r _ [10, 11, 12, 13, 58, 59, 60, 61, 62, 63, 64, 65, 66, 67, 68, 69, 70, 71, 72, 73, 74, 75, 76, 77, 78, 79, 80] (by decide +kernel) (by decide +kernel)
set_option maxRecDepth 20000 in
theorem gX3_moveSenders_X6_isSpeaking : GoodIn wsX3_moveSenders (wsV RX3 81 RX6 yX6_isSpeaking wsX6_isSpeaking) := goodIn_app (goodIn_of _ (by decide +kernel)) ggX3_moveSenders_X6_isSpeaking
set_option maxRecDepth 20000 in
theorem ggX3_moveSenders_X3_isHeardOn : GoodIn wsX3_moveSenders wsX3_isHeardOn := goodIn_r _ [18, 19, 50, 51, 52, 53, 54, 55, 56, 57] (by decide +kernel) (by decide +kernel)
set_option maxRecDepth 20000 in
theorem gX3_moveSenders_X3_isHeardOn : GoodIn wsX3_moveSenders (wsV RX3 162 RX3 yX3_isHeardOn wsX3_isHeardOn) := goodIn_app (goodIn_of _ (by decide +kernel)) ggX3_moveSenders_X3_isHeardOn
set_option maxRecDepth 20000 in
theorem ggX3_moveSenders_X6_isDisturbedBy : GoodIn wsX3_moveSenders wsX6_isDisturbedBy := goodIn_r _ [23, 24, 25, 26, 27, 9, 28, 29, 30, 31, 32, 71, 72, 73, 74, 75, 76, 77, 78, 79, 80] (by decide +kernel) (by decide +kernel)
set_option maxRecDepth 20000 in
theorem gX3_moveSenders_X6_isDisturbedBy : GoodIn wsX3_moveSenders (wsV RX3 165 RX6 yX6_isDisturbedBy wsX6_isDisturbedBy) := goodIn_app (goodIn_of _ (by decide +kernel)) ggX3_moveSenders_X6_isDisturbedBy
set_option maxRecDepth 20000 in
theorem ggX3_moveSenders_X6_giveWay : GoodIn wsX3_moveSenders wsX6_giveWay := goodIn_r _ [36, 13, 37, 38, 39, 71, 72, 73, 74, 75, 76, 77, 78, 79, 80, 58, 59, 60, 61, 62, 63, 64, 65, 66, 67, 68, 69, 70] (by decide +kernel) (by decide +kernel)
set_option maxRecDepth 20000 in
theorem gX3_moveSenders_X6_giveWay : GoodIn wsX3_moveSenders (wsV RX3 169 RX6 yX6_giveWay wsX6_giveWay) := goodIn_app (goodIn_of _ (by decide +kernel)) ggX3_moveSenders_X6_giveWay
set_option maxRecDepth 20000 in
theorem ggX3_moveSenders_X6_goOn : GoodIn wsX3_moveSenders wsX6_goOn := goodIn_r _ [43, 24, 44, 13, 45, 46, 47, 9, 48, 29, 49, 71, 72, 73, 74, 75, 76, 77, 78, 79, 80] (by decide +kernel) (by decide +kernel)
set_option maxRecDepth 20000 in
theorem gX3_moveSenders_X6_goOn : GoodIn wsX3_moveSenders (wsV RX3 172 RX6 yX6_goOn wsX6_goOn) := goodIn_app (goodIn_of _ (by decide +kernel)) ggX3_moveSenders_X6_goOn
theorem dX3_moveSenders_0 : decode cX3_moveSenders 0 = .ok (.aload_n 0, 1) := by decide +kernel
theorem dX3_moveSenders_1 : decode cX3_moveSenders 1 = .ok (.getfield 11, 3) := by decide +kernel
theorem dX3_moveSenders_4 : decode cX3_moveSenders 4 = .ok (.astore_n 1, 1) := by decide +kernel
theorem dX3_moveSenders_5 : decode cX3_moveSenders 5 = .ok (.aload_n 1, 1) := by decide +kernel
theorem dX3_moveSenders_6 : decode cX3_moveSenders 6 = .ok (.arraylength, 1) := by decide +kernel
theorem dX3_moveSenders_7 : decode cX3_moveSenders 7 = .ok (.istore_n 2, 1) := by decide +kernel
theorem dX3_moveSenders_8 : decode cX3_moveSenders 8 = .ok (.iconst 0, 1) := by decide +kernel
theorem dX3_moveSenders_9 : decode cX3_moveSenders 9 = .ok (.istore_n 3, 1) := by decide +kernel
theorem dX3_moveSenders_10 : decode cX3_moveSenders 10 = .ok (.iload_n 3, 1) := by decide +kernel
theorem dX3_moveSenders_11 : decode cX3_moveSenders 11 = .ok (.iload_n 2, 1) := by decide +kernel
theorem dX3_moveSenders_12 : decode cX3_moveSenders 12 = .ok (.if_icmp .ge 84, 3) := by decide +kernel
theorem dX3_moveSenders_15 : decode cX3_moveSenders 15 = .ok (.aload_n 1, 1) := by decide +kernel
theorem dX3_moveSenders_16 : decode cX3_moveSenders 16 = .ok (.iload_n 3, 1) := by decide +kernel
theorem dX3_moveSenders_17 : decode cX3_moveSenders 17 = .ok (.aaload, 1) := by decide +kernel
theorem dX3_moveSenders_18 : decode cX3_moveSenders 18 = .ok (.astore 4, 2) := by decide +kernel
theorem dX3_moveSenders_20 : decode cX3_moveSenders 20 = .ok (.aload 4, 2) := by decide +kernel
theorem dX3_moveSenders_22 : decode cX3_moveSenders 22 = .ok (.invokevirtual 81, 3) := by decide +kernel
theorem dX3_moveSenders_25 : decode cX3_moveSenders 25 = .ok (.ifCond .ne 6, 3) := by decide +kernel
theorem dX3_moveSenders_28 : decode cX3_moveSenders 28 = .ok (.goto 62, 3) := by decide +kernel
theorem dX3_moveSenders_31 : decode cX3_moveSenders 31 = .ok (.aload 4, 2) := by decide +kernel
theorem dX3_moveSenders_33 : decode cX3_moveSenders 33 = .ok (.aload_n 0, 1) := by decide +kernel
theorem dX3_moveSenders_34 : decode cX3_moveSenders 34 = .ok (.aload 4, 2) := by decide +kernel
theorem dX3_moveSenders_36 : decode cX3_moveSenders 36 = .ok (.getfield 130, 3) := by decide +kernel
theorem dX3_moveSenders_39 : decode cX3_moveSenders 39 = .ok (.invokevirtual 162, 3) := by decide +kernel
theorem dX3_moveSenders_42 : decode cX3_moveSenders 42 = .ok (.invokevirtual 165, 3) := by decide +kernel
theorem dX3_moveSenders_45 : decode cX3_moveSenders 45 = .ok (.ifCond .eq 21, 3) := by decide +kernel
theorem dX3_moveSenders_48 : decode cX3_moveSenders 48 = .ok (.aload 4, 2) := by decide +kernel
theorem dX3_moveSenders_50 : decode cX3_moveSenders 50 = .ok (.invokevirtual 169, 3) := by decide +kernel
theorem dX3_moveSenders_53 : decode cX3_moveSenders 53 = .ok (.aload_n 0, 1) := by decide +kernel
theorem dX3_moveSenders_54 : decode cX3_moveSenders 54 = .ok (.getfield 39, 3) := by decide +kernel
theorem dX3_moveSenders_57 : decode cX3_moveSenders 57 = .ok (.iconst 1, 1) := by decide +kernel
theorem dX3_moveSenders_58 : decode cX3_moveSenders 58 = .ok (.dup2, 1) := by decide +kernel
theorem dX3_moveSenders_59 : decode cX3_moveSenders 59 = .ok (.iaload, 1) := by decide +kernel
theorem dX3_moveSenders_60 : decode cX3_moveSenders 60 = .ok (.iconst 1, 1) := by decide +kernel
theorem dX3_moveSenders_61 : decode cX3_moveSenders 61 = .ok (.iadd, 1) := by decide +kernel
theorem dX3_moveSenders_62 : decode cX3_moveSenders 62 = .ok (.iastore, 1) := by decide +kernel
theorem dX3_moveSenders_63 : decode cX3_moveSenders 63 = .ok (.goto 27, 3) := by decide +kernel
theorem dX3_moveSenders_66 : decode cX3_moveSenders 66 = .ok (.aload 4, 2) := by decide +kernel
theorem dX3_moveSenders_68 : decode cX3_moveSenders 68 = .ok (.aload_n 0, 1) := by decide +kernel
theorem dX3_moveSenders_69 : decode cX3_moveSenders 69 = .ok (.getfield 35, 3) := by decide +kernel
theorem dX3_moveSenders_72 : decode cX3_moveSenders 72 = .ok (.iconst 3, 1) := by decide +kernel
theorem dX3_moveSenders_73 : decode cX3_moveSenders 73 = .ok (.iaload, 1) := by decide +kernel
theorem dX3_moveSenders_74 : decode cX3_moveSenders 74 = .ok (.invokevirtual 172, 3) := by decide +kernel
theorem dX3_moveSenders_77 : decode cX3_moveSenders 77 = .ok (.ifCond .eq 13, 3) := by decide +kernel
theorem dX3_moveSenders_80 : decode cX3_moveSenders 80 = .ok (.aload_n 0, 1) := by decide +kernel
theorem dX3_moveSenders_81 : decode cX3_moveSenders 81 = .ok (.getfield 39, 3) := by decide +kernel
theorem dX3_moveSenders_84 : decode cX3_moveSenders 84 = .ok (.iconst 0, 1) := by decide +kernel
theorem dX3_moveSenders_85 : decode cX3_moveSenders 85 = .ok (.dup2, 1) := by decide +kernel
theorem dX3_moveSenders_86 : decode cX3_moveSenders 86 = .ok (.iaload, 1) := by decide +kernel
theorem dX3_moveSenders_87 : decode cX3_moveSenders 87 = .ok (.iconst 1, 1) := by decide +kernel
theorem dX3_moveSenders_88 : decode cX3_moveSenders 88 = .ok (.iadd, 1) := by decide +kernel
theorem dX3_moveSenders_89 : decode cX3_moveSenders 89 = .ok (.iastore, 1) := by decide +kernel
theorem dX3_moveSenders_90 : decode cX3_moveSenders 90 = .ok (.iinc 3 1, 3) := by decide +kernel
theorem dX3_moveSenders_93 : decode cX3_moveSenders 93 = .ok (.goto (-83), 3) := by decide +kernel
theorem dX3_moveSenders_96 : decode cX3_moveSenders 96 = .ok (.return_, 1) := by decide +kernel
set_option maxRecDepth 20000 in
theorem ggX3_takeBits_X3_isHeardOn : GoodIn wsX3_takeBits wsX3_isHeardOn := goodIn_r _ [7, 8, 75, 76, 77, 78, 79, 80, 81, 82] (by decide +kernel) (by decide +kernel)
set_option maxRecDepth 20000 in
theorem gX3_takeBits_X3_isHeardOn : GoodIn wsX3_takeBits (wsV RX3 162 RX3 yX3_isHeardOn wsX3_isHeardOn) := goodIn_app (goodIn_of _ (by decide +kernel)) ggX3_takeBits_X3_isHeardOn
set_option maxRecDepth 20000 in
theorem ggX3_takeBits_X8_asNumber : GoodIn wsX3_takeBits wsX8_asNumber := goodIn_r _ [11] (by decide +kernel) (by decide +kernel)
set_option maxRecDepth 20000 in
theorem gX3_takeBits_X8_asNumber_n85 : GoodIn wsX3_takeBits (wsX8_asNumber) := ggX3_takeBits_X8_asNumber
set_option maxRecDepth 20000 in
theorem ggX3_takeBits_X4_take : GoodIn wsX3_takeBits wsX4_take := goodIn_r _ [16, 17, 18, 19, 20, 15, 21, 22, 23, 24, 25, 26, 27, 28, 29, 30, 31, 32, 83, 84, 85, 86, 87, 88, 89] (by decide +kernel) (by decide +kernel)
set_option maxRecDepth 20000 in
theorem gX3_takeBits_X4_take : GoodIn wsX3_takeBits (wsV RX3 175 RX4 yX4_take wsX4_take) := goodIn_app (goodIn_of _ (by decide +kernel)) ggX3_takeBits_X4_take
set_option maxRecDepth 20000 in
theorem ggX3_takeBits_X3_hearWord : GoodIn wsX3_takeBits wsX3_hearWord := goodIn_r _ [36, 37, 2, 38, 39, 40, 41, 15, 42, 43, 44, 45, 46, 47, 48, 49, 50, 51, 52, 53, 54, 55, 56, 57, 58, 59, 60, 61, 62, 63, 64, 65, 66, 67, 68, 69, 70, 71, 72, 73, 74, 75, 76, 77, 78, 79, 80, 81, 82, 83, 84, 85, 86, 87, 88, 89, 90, 91, 92, 93, 94, 95, 96, 97, 98, 99, 100, 101, 102, 103, 104, 105, 106, 107, 108, 109, 110, 111, 112] (by decide +kernel) (by decide +kernel)
set_option maxRecDepth 20000 in
theorem gX3_takeBits_X3_hearWord : GoodIn wsX3_takeBits (wsV RX3 179 RX3 yX3_hearWord wsX3_hearWord) := goodIn_app (goodIn_of _ (by decide +kernel)) ggX3_takeBits_X3_hearWord
theorem dX3_takeBits_0 : decode cX3_takeBits 0 = .ok (.iconst 0, 1) := by decide +kernel
theorem dX3_takeBits_1 : decode cX3_takeBits 1 = .ok (.istore_n 1, 1) := by decide +kernel
theorem dX3_takeBits_2 : decode cX3_takeBits 2 = .ok (.iconst 0, 1) := by decide +kernel
theorem dX3_takeBits_3 : decode cX3_takeBits 3 = .ok (.istore_n 2, 1) := by decide +kernel
theorem dX3_takeBits_4 : decode cX3_takeBits 4 = .ok (.iload_n 2, 1) := by decide +kernel
theorem dX3_takeBits_5 : decode cX3_takeBits 5 = .ok (.aload_n 0, 1) := by decide +kernel
theorem dX3_takeBits_6 : decode cX3_takeBits 6 = .ok (.getfield 31, 3) := by decide +kernel
theorem dX3_takeBits_9 : decode cX3_takeBits 9 = .ok (.arraylength, 1) := by decide +kernel
theorem dX3_takeBits_10 : decode cX3_takeBits 10 = .ok (.if_icmp .ge 66, 3) := by decide +kernel
theorem dX3_takeBits_13 : decode cX3_takeBits 13 = .ok (.aload_n 0, 1) := by decide +kernel
theorem dX3_takeBits_14 : decode cX3_takeBits 14 = .ok (.getfield 31, 3) := by decide +kernel
theorem dX3_takeBits_17 : decode cX3_takeBits 17 = .ok (.iload_n 2, 1) := by decide +kernel
theorem dX3_takeBits_18 : decode cX3_takeBits 18 = .ok (.aaload, 1) := by decide +kernel
theorem dX3_takeBits_19 : decode cX3_takeBits 19 = .ok (.aload_n 0, 1) := by decide +kernel
theorem dX3_takeBits_20 : decode cX3_takeBits 20 = .ok (.iload_n 2, 1) := by decide +kernel
theorem dX3_takeBits_21 : decode cX3_takeBits 21 = .ok (.invokevirtual 162, 3) := by decide +kernel
theorem dX3_takeBits_24 : decode cX3_takeBits 24 = .ok (.invokestatic 85, 3) := by decide +kernel
theorem dX3_takeBits_27 : decode cX3_takeBits 27 = .ok (.invokevirtual 175, 3) := by decide +kernel
theorem dX3_takeBits_30 : decode cX3_takeBits 30 = .ok (.istore_n 3, 1) := by decide +kernel
theorem dX3_takeBits_31 : decode cX3_takeBits 31 = .ok (.iload_n 3, 1) := by decide +kernel
theorem dX3_takeBits_32 : decode cX3_takeBits 32 = .ok (.bipush (-2), 2) := by decide +kernel
theorem dX3_takeBits_34 : decode cX3_takeBits 34 = .ok (.if_icmp .ne 16, 3) := by decide +kernel
theorem dX3_takeBits_37 : decode cX3_takeBits 37 = .ok (.aload_n 0, 1) := by decide +kernel
theorem dX3_takeBits_38 : decode cX3_takeBits 38 = .ok (.getfield 39, 3) := by decide +kernel
theorem dX3_takeBits_41 : decode cX3_takeBits 41 = .ok (.iconst 4, 1) := by decide +kernel
theorem dX3_takeBits_42 : decode cX3_takeBits 42 = .ok (.dup2, 1) := by decide +kernel
theorem dX3_takeBits_43 : decode cX3_takeBits 43 = .ok (.iaload, 1) := by decide +kernel
theorem dX3_takeBits_44 : decode cX3_takeBits 44 = .ok (.iconst 1, 1) := by decide +kernel
theorem dX3_takeBits_45 : decode cX3_takeBits 45 = .ok (.iadd, 1) := by decide +kernel
theorem dX3_takeBits_46 : decode cX3_takeBits 46 = .ok (.iastore, 1) := by decide +kernel
theorem dX3_takeBits_47 : decode cX3_takeBits 47 = .ok (.goto 23, 3) := by decide +kernel
theorem dX3_takeBits_50 : decode cX3_takeBits 50 = .ok (.iload_n 3, 1) := by decide +kernel
theorem dX3_takeBits_51 : decode cX3_takeBits 51 = .ok (.iconst (-1), 1) := by decide +kernel
theorem dX3_takeBits_52 : decode cX3_takeBits 52 = .ok (.if_icmp .eq 18, 3) := by decide +kernel
theorem dX3_takeBits_55 : decode cX3_takeBits 55 = .ok (.iload_n 1, 1) := by decide +kernel
theorem dX3_takeBits_56 : decode cX3_takeBits 56 = .ok (.aload_n 0, 1) := by decide +kernel
theorem dX3_takeBits_57 : decode cX3_takeBits 57 = .ok (.iload_n 2, 1) := by decide +kernel
theorem dX3_takeBits_58 : decode cX3_takeBits 58 = .ok (.aload_n 0, 1) := by decide +kernel
theorem dX3_takeBits_59 : decode cX3_takeBits 59 = .ok (.getfield 31, 3) := by decide +kernel
theorem dX3_takeBits_62 : decode cX3_takeBits 62 = .ok (.iload_n 2, 1) := by decide +kernel
theorem dX3_takeBits_63 : decode cX3_takeBits 63 = .ok (.aaload, 1) := by decide +kernel
theorem dX3_takeBits_64 : decode cX3_takeBits 64 = .ok (.iload_n 3, 1) := by decide +kernel
theorem dX3_takeBits_65 : decode cX3_takeBits 65 = .ok (.invokevirtual 179, 3) := by decide +kernel
theorem dX3_takeBits_68 : decode cX3_takeBits 68 = .ok (.iadd, 1) := by decide +kernel
theorem dX3_takeBits_69 : decode cX3_takeBits 69 = .ok (.istore_n 1, 1) := by decide +kernel
theorem dX3_takeBits_70 : decode cX3_takeBits 70 = .ok (.iinc 2 1, 3) := by decide +kernel
theorem dX3_takeBits_73 : decode cX3_takeBits 73 = .ok (.goto (-69), 3) := by decide +kernel
theorem dX3_takeBits_76 : decode cX3_takeBits 76 = .ok (.iload_n 1, 1) := by decide +kernel
theorem dX3_takeBits_77 : decode cX3_takeBits 77 = .ok (.ireturn, 1) := by decide +kernel
set_option maxRecDepth 20000 in
theorem ggX3_hearWord_X4_tell : GoodIn wsX3_hearWord wsX4_tell := goodIn_r _ [8, 9, 10, 49, 50, 51, 52, 53, 54, 55] (by decide +kernel) (by decide +kernel)
set_option maxRecDepth 20000 in
theorem gX3_hearWord_X4_tell : GoodIn wsX3_hearWord (wsV RX3 183 RX4 yX4_tell wsX4_tell) := goodIn_app (goodIn_of _ (by decide +kernel)) ggX3_hearWord_X4_tell
set_option maxRecDepth 20000 in
theorem ggX3_hearWord_X1_isCalledBy : GoodIn wsX3_hearWord wsX1_isCalledBy := goodIn_r _ [15, 16, 17, 18, 19, 20, 56, 57, 58, 59, 60, 61, 62, 63, 64, 65, 66, 67, 68, 69, 70, 71, 72, 73, 74, 75, 76, 77, 78] (by decide +kernel) (by decide +kernel)
set_option maxRecDepth 20000 in
theorem gX3_hearWord_X1_isCalledBy : GoodIn wsX3_hearWord (wsV RX3 187 RX1 yX1_isCalledBy wsX1_isCalledBy) := goodIn_app (goodIn_of _ (by decide +kernel)) ggX3_hearWord_X1_isCalledBy
set_option maxRecDepth 20000 in
theorem ggX3_hearWord_X4_isOpen : GoodIn wsX3_hearWord wsX4_isOpen := goodIn_r _ [24, 25, 49, 50, 51, 52, 53, 54, 55] (by decide +kernel) (by decide +kernel)
set_option maxRecDepth 20000 in
theorem gX3_hearWord_X4_isOpen : GoodIn wsX3_hearWord (wsV RX3 190 RX4 yX4_isOpen wsX4_isOpen) := goodIn_app (goodIn_of _ (by decide +kernel)) ggX3_hearWord_X4_isOpen
set_option maxRecDepth 20000 in
theorem ggX3_hearWord_X1_obey : GoodIn wsX3_hearWord wsX1_obey := goodIn_r _ [29, 30, 31, 32, 33, 34, 35, 14, 36, 56, 57, 58, 59, 60, 61, 62] (by decide +kernel) (by decide +kernel)
set_option maxRecDepth 20000 in
theorem gX3_hearWord_X1_obey : GoodIn wsX3_hearWord (wsV RX3 193 RX1 yX1_obey wsX1_obey) := goodIn_app (goodIn_of _ (by decide +kernel)) ggX3_hearWord_X1_obey
set_option maxRecDepth 20000 in
theorem ggX3_hearWord_X4_setOpen : GoodIn wsX3_hearWord wsX4_setOpen := goodIn_r _ [40, 25, 49, 50, 51, 52, 53, 54, 55] (by decide +kernel) (by decide +kernel)
set_option maxRecDepth 20000 in
theorem gX3_hearWord_X4_setOpen : GoodIn wsX3_hearWord (wsV RX3 197 RX4 yX4_setOpen wsX4_setOpen) := goodIn_app (goodIn_of _ (by decide +kernel)) ggX3_hearWord_X4_setOpen
theorem dX3_hearWord_0 : decode cX3_hearWord 0 = .ok (.aload_n 2, 1) := by decide +kernel
theorem dX3_hearWord_1 : decode cX3_hearWord 1 = .ok (.iload_n 3, 1) := by decide +kernel
theorem dX3_hearWord_2 : decode cX3_hearWord 2 = .ok (.aload_n 0, 1) := by decide +kernel
theorem dX3_hearWord_3 : decode cX3_hearWord 3 = .ok (.getfield 42, 3) := by decide +kernel
theorem dX3_hearWord_6 : decode cX3_hearWord 6 = .ok (.invokevirtual 183, 3) := by decide +kernel
theorem dX3_hearWord_9 : decode cX3_hearWord 9 = .ok (.ifCond .ne 15, 3) := by decide +kernel
theorem dX3_hearWord_12 : decode cX3_hearWord 12 = .ok (.aload_n 0, 1) := by decide +kernel
theorem dX3_hearWord_13 : decode cX3_hearWord 13 = .ok (.getfield 39, 3) := by decide +kernel
theorem dX3_hearWord_16 : decode cX3_hearWord 16 = .ok (.iconst 3, 1) := by decide +kernel
theorem dX3_hearWord_17 : decode cX3_hearWord 17 = .ok (.dup2, 1) := by decide +kernel
theorem dX3_hearWord_18 : decode cX3_hearWord 18 = .ok (.iaload, 1) := by decide +kernel
theorem dX3_hearWord_19 : decode cX3_hearWord 19 = .ok (.iconst 1, 1) := by decide +kernel
theorem dX3_hearWord_20 : decode cX3_hearWord 20 = .ok (.iadd, 1) := by decide +kernel
theorem dX3_hearWord_21 : decode cX3_hearWord 21 = .ok (.iastore, 1) := by decide +kernel
theorem dX3_hearWord_22 : decode cX3_hearWord 22 = .ok (.iconst 0, 1) := by decide +kernel
theorem dX3_hearWord_23 : decode cX3_hearWord 23 = .ok (.ireturn, 1) := by decide +kernel
theorem dX3_hearWord_24 : decode cX3_hearWord 24 = .ok (.aload_n 0, 1) := by decide +kernel
theorem dX3_hearWord_25 : decode cX3_hearWord 25 = .ok (.getfield 39, 3) := by decide +kernel
theorem dX3_hearWord_28 : decode cX3_hearWord 28 = .ok (.iconst 2, 1) := by decide +kernel
theorem dX3_hearWord_29 : decode cX3_hearWord 29 = .ok (.dup2, 1) := by decide +kernel
theorem dX3_hearWord_30 : decode cX3_hearWord 30 = .ok (.iaload, 1) := by decide +kernel
theorem dX3_hearWord_31 : decode cX3_hearWord 31 = .ok (.iconst 1, 1) := by decide +kernel
theorem dX3_hearWord_32 : decode cX3_hearWord 32 = .ok (.iadd, 1) := by decide +kernel
theorem dX3_hearWord_33 : decode cX3_hearWord 33 = .ok (.iastore, 1) := by decide +kernel
theorem dX3_hearWord_34 : decode cX3_hearWord 34 = .ok (.iload_n 3, 1) := by decide +kernel
theorem dX3_hearWord_35 : decode cX3_hearWord 35 = .ok (.bipush 8, 2) := by decide +kernel
theorem dX3_hearWord_37 : decode cX3_hearWord 37 = .ok (.idiv, 1) := by decide +kernel
theorem dX3_hearWord_38 : decode cX3_hearWord 38 = .ok (.istore 4, 2) := by decide +kernel
theorem dX3_hearWord_40 : decode cX3_hearWord 40 = .ok (.iload_n 3, 1) := by decide +kernel
theorem dX3_hearWord_41 : decode cX3_hearWord 41 = .ok (.bipush 8, 2) := by decide +kernel
theorem dX3_hearWord_43 : decode cX3_hearWord 43 = .ok (.irem, 1) := by decide +kernel
theorem dX3_hearWord_44 : decode cX3_hearWord 44 = .ok (.istore 5, 2) := by decide +kernel
theorem dX3_hearWord_46 : decode cX3_hearWord 46 = .ok (.aload_n 0, 1) := by decide +kernel
theorem dX3_hearWord_47 : decode cX3_hearWord 47 = .ok (.getfield 25, 3) := by decide +kernel
theorem dX3_hearWord_50 : decode cX3_hearWord 50 = .ok (.astore 6, 2) := by decide +kernel
theorem dX3_hearWord_52 : decode cX3_hearWord 52 = .ok (.aload 6, 2) := by decide +kernel
theorem dX3_hearWord_54 : decode cX3_hearWord 54 = .ok (.arraylength, 1) := by decide +kernel
theorem dX3_hearWord_55 : decode cX3_hearWord 55 = .ok (.istore 7, 2) := by decide +kernel
theorem dX3_hearWord_57 : decode cX3_hearWord 57 = .ok (.iconst 0, 1) := by decide +kernel
theorem dX3_hearWord_58 : decode cX3_hearWord 58 = .ok (.istore 8, 2) := by decide +kernel
theorem dX3_hearWord_60 : decode cX3_hearWord 60 = .ok (.iload 8, 2) := by decide +kernel
theorem dX3_hearWord_62 : decode cX3_hearWord 62 = .ok (.iload 7, 2) := by decide +kernel
theorem dX3_hearWord_64 : decode cX3_hearWord 64 = .ok (.if_icmp .ge 40, 3) := by decide +kernel
theorem dX3_hearWord_67 : decode cX3_hearWord 67 = .ok (.aload 6, 2) := by decide +kernel
theorem dX3_hearWord_69 : decode cX3_hearWord 69 = .ok (.iload 8, 2) := by decide +kernel
theorem dX3_hearWord_71 : decode cX3_hearWord 71 = .ok (.aaload, 1) := by decide +kernel
theorem dX3_hearWord_72 : decode cX3_hearWord 72 = .ok (.astore 9, 2) := by decide +kernel
theorem dX3_hearWord_74 : decode cX3_hearWord 74 = .ok (.aload 9, 2) := by decide +kernel
theorem dX3_hearWord_76 : decode cX3_hearWord 76 = .ok (.iload_n 1, 1) := by decide +kernel
theorem dX3_hearWord_77 : decode cX3_hearWord 77 = .ok (.iload 4, 2) := by decide +kernel
theorem dX3_hearWord_79 : decode cX3_hearWord 79 = .ok (.invokevirtual 187, 3) := by decide +kernel
theorem dX3_hearWord_82 : decode cX3_hearWord 82 = .ok (.ifCond .eq 16, 3) := by decide +kernel
theorem dX3_hearWord_85 : decode cX3_hearWord 85 = .ok (.aload 9, 2) := by decide +kernel
theorem dX3_hearWord_87 : decode cX3_hearWord 87 = .ok (.iload 5, 2) := by decide +kernel
theorem dX3_hearWord_89 : decode cX3_hearWord 89 = .ok (.aload_n 2, 1) := by decide +kernel
theorem dX3_hearWord_90 : decode cX3_hearWord 90 = .ok (.iload 4, 2) := by decide +kernel
theorem dX3_hearWord_92 : decode cX3_hearWord 92 = .ok (.invokevirtual 190, 3) := by decide +kernel
theorem dX3_hearWord_95 : decode cX3_hearWord 95 = .ok (.invokevirtual 193, 3) := by decide +kernel
theorem dX3_hearWord_98 : decode cX3_hearWord 98 = .ok (.iinc 8 1, 3) := by decide +kernel
theorem dX3_hearWord_101 : decode cX3_hearWord 101 = .ok (.goto (-41), 3) := by decide +kernel
theorem dX3_hearWord_104 : decode cX3_hearWord 104 = .ok (.aload_n 2, 1) := by decide +kernel
theorem dX3_hearWord_105 : decode cX3_hearWord 105 = .ok (.iload 4, 2) := by decide +kernel
theorem dX3_hearWord_107 : decode cX3_hearWord 107 = .ok (.iload 5, 2) := by decide +kernel
theorem dX3_hearWord_109 : decode cX3_hearWord 109 = .ok (.iconst 4, 1) := by decide +kernel
theorem dX3_hearWord_110 : decode cX3_hearWord 110 = .ok (.if_icmp .ge 7, 3) := by decide +kernel
theorem dX3_hearWord_113 : decode cX3_hearWord 113 = .ok (.iconst 1, 1) := by decide +kernel
theorem dX3_hearWord_114 : decode cX3_hearWord 114 = .ok (.goto 4, 3) := by decide +kernel
theorem dX3_hearWord_117 : decode cX3_hearWord 117 = .ok (.iconst 0, 1) := by decide +kernel
theorem dX3_hearWord_118 : decode cX3_hearWord 118 = .ok (.invokevirtual 197, 3) := by decide +kernel
theorem dX3_hearWord_121 : decode cX3_hearWord 121 = .ok (.iconst 1, 1) := by decide +kernel
theorem dX3_hearWord_122 : decode cX3_hearWord 122 = .ok (.ireturn, 1) := by decide +kernel
theorem dX4_init_0 : decode cX4_init 0 = .ok (.aload_n 0, 1) := by decide +kernel
theorem dX4_init_1 : decode cX4_init 1 = .ok (.invokespecial 3, 3) := by decide +kernel
theorem dX4_init_4 : decode cX4_init 4 = .ok (.aload_n 0, 1) := by decide +kernel
theorem dX4_init_5 : decode cX4_init 5 = .ok (.iconst 0, 1) := by decide +kernel
theorem dX4_init_6 : decode cX4_init 6 = .ok (.putfield 9, 3) := by decide +kernel
theorem dX4_init_9 : decode cX4_init 9 = .ok (.aload_n 0, 1) := by decide +kernel
theorem dX4_init_10 : decode cX4_init 10 = .ok (.iconst 0, 1) := by decide +kernel
theorem dX4_init_11 : decode cX4_init 11 = .ok (.putfield 15, 3) := by decide +kernel
theorem dX4_init_14 : decode cX4_init 14 = .ok (.aload_n 0, 1) := by decide +kernel
theorem dX4_init_15 : decode cX4_init 15 = .ok (.iconst 0, 1) := by decide +kernel
theorem dX4_init_16 : decode cX4_init 16 = .ok (.putfield 19, 3) := by decide +kernel
theorem dX4_init_19 : decode cX4_init 19 = .ok (.aload_n 0, 1) := by decide +kernel
theorem dX4_init_20 : decode cX4_init 20 = .ok (.iconst 0, 1) := by decide +kernel
theorem dX4_init_21 : decode cX4_init 21 = .ok (.putfield 22, 3) := by decide +kernel
theorem dX4_init_24 : decode cX4_init 24 = .ok (.aload_n 0, 1) := by decide +kernel
theorem dX4_init_25 : decode cX4_init 25 = .ok (.bipush (-5), 2) := by decide +kernel
theorem dX4_init_27 : decode cX4_init 27 = .ok (.putfield 25, 3) := by decide +kernel
theorem dX4_init_30 : decode cX4_init 30 = .ok (.aload_n 0, 1) := by decide +kernel
theorem dX4_init_31 : decode cX4_init 31 = .ok (.iconst 0, 1) := by decide +kernel
theorem dX4_init_32 : decode cX4_init 32 = .ok (.putfield 28, 3) := by decide +kernel
theorem dX4_init_35 : decode cX4_init 35 = .ok (.aload_n 0, 1) := by decide +kernel
theorem dX4_init_36 : decode cX4_init 36 = .ok (.bipush 15, 2) := by decide +kernel
theorem dX4_init_38 : decode cX4_init 38 = .ok (.putfield 31, 3) := by decide +kernel
theorem dX4_init_41 : decode cX4_init 41 = .ok (.return_, 1) := by decide +kernel
theorem dX4_copyFrom_0 : decode cX4_copyFrom 0 = .ok (.aload_n 0, 1) := by decide +kernel
theorem dX4_copyFrom_1 : decode cX4_copyFrom 1 = .ok (.aload_n 1, 1) := by decide +kernel
theorem dX4_copyFrom_2 : decode cX4_copyFrom 2 = .ok (.getfield 9, 3) := by decide +kernel
theorem dX4_copyFrom_5 : decode cX4_copyFrom 5 = .ok (.putfield 9, 3) := by decide +kernel
theorem dX4_copyFrom_8 : decode cX4_copyFrom 8 = .ok (.aload_n 0, 1) := by decide +kernel
theorem dX4_copyFrom_9 : decode cX4_copyFrom 9 = .ok (.aload_n 1, 1) := by decide +kernel
theorem dX4_copyFrom_10 : decode cX4_copyFrom 10 = .ok (.getfield 15, 3) := by decide +kernel
theorem dX4_copyFrom_13 : decode cX4_copyFrom 13 = .ok (.putfield 15, 3) := by decide +kernel
theorem dX4_copyFrom_16 : decode cX4_copyFrom 16 = .ok (.aload_n 0, 1) := by decide +kernel
theorem dX4_copyFrom_17 : decode cX4_copyFrom 17 = .ok (.aload_n 1, 1) := by decide +kernel
theorem dX4_copyFrom_18 : decode cX4_copyFrom 18 = .ok (.getfield 19, 3) := by decide +kernel
theorem dX4_copyFrom_21 : decode cX4_copyFrom 21 = .ok (.putfield 19, 3) := by decide +kernel
theorem dX4_copyFrom_24 : decode cX4_copyFrom 24 = .ok (.aload_n 0, 1) := by decide +kernel
theorem dX4_copyFrom_25 : decode cX4_copyFrom 25 = .ok (.aload_n 1, 1) := by decide +kernel
theorem dX4_copyFrom_26 : decode cX4_copyFrom 26 = .ok (.getfield 22, 3) := by decide +kernel
theorem dX4_copyFrom_29 : decode cX4_copyFrom 29 = .ok (.putfield 22, 3) := by decide +kernel
theorem dX4_copyFrom_32 : decode cX4_copyFrom 32 = .ok (.aload_n 0, 1) := by decide +kernel
theorem dX4_copyFrom_33 : decode cX4_copyFrom 33 = .ok (.aload_n 1, 1) := by decide +kernel
theorem dX4_copyFrom_34 : decode cX4_copyFrom 34 = .ok (.getfield 25, 3) := by decide +kernel
theorem dX4_copyFrom_37 : decode cX4_copyFrom 37 = .ok (.putfield 25, 3) := by decide +kernel
theorem dX4_copyFrom_40 : decode cX4_copyFrom 40 = .ok (.aload_n 0, 1) := by decide +kernel
theorem dX4_copyFrom_41 : decode cX4_copyFrom 41 = .ok (.aload_n 1, 1) := by decide +kernel
theorem dX4_copyFrom_42 : decode cX4_copyFrom 42 = .ok (.getfield 28, 3) := by decide +kernel
theorem dX4_copyFrom_45 : decode cX4_copyFrom 45 = .ok (.putfield 28, 3) := by decide +kernel
theorem dX4_copyFrom_48 : decode cX4_copyFrom 48 = .ok (.aload_n 0, 1) := by decide +kernel
theorem dX4_copyFrom_49 : decode cX4_copyFrom 49 = .ok (.aload_n 1, 1) := by decide +kernel
theorem dX4_copyFrom_50 : decode cX4_copyFrom 50 = .ok (.getfield 31, 3) := by decide +kernel
theorem dX4_copyFrom_53 : decode cX4_copyFrom 53 = .ok (.putfield 31, 3) := by decide +kernel
theorem dX4_copyFrom_56 : decode cX4_copyFrom 56 = .ok (.return_, 1) := by decide +kernel
theorem dX4_isQuiet_0 : decode cX4_isQuiet 0 = .ok (.aload_n 0, 1) := by decide +kernel
theorem dX4_isQuiet_1 : decode cX4_isQuiet 1 = .ok (.getfield 9, 3) := by decide +kernel
theorem dX4_isQuiet_4 : decode cX4_isQuiet 4 = .ok (.ifCond .ne 14, 3) := by decide +kernel
theorem dX4_isQuiet_7 : decode cX4_isQuiet 7 = .ok (.aload_n 0, 1) := by decide +kernel
theorem dX4_isQuiet_8 : decode cX4_isQuiet 8 = .ok (.getfield 15, 3) := by decide +kernel
theorem dX4_isQuiet_11 : decode cX4_isQuiet 11 = .ok (.ifCond .ne 7, 3) := by decide +kernel
theorem dX4_isQuiet_14 : decode cX4_isQuiet 14 = .ok (.iconst 1, 1) := by decide +kernel
theorem dX4_isQuiet_15 : decode cX4_isQuiet 15 = .ok (.goto 4, 3) := by decide +kernel
theorem dX4_isQuiet_18 : decode cX4_isQuiet 18 = .ok (.iconst 0, 1) := by decide +kernel
theorem dX4_isQuiet_19 : decode cX4_isQuiet 19 = .ok (.ireturn, 1) := by decide +kernel
set_option maxRecDepth 20000 in
theorem ggX4_take_X4_read : GoodIn wsX4_take wsX4_read := goodIn_r _ [6, 7, 8, 9, 10, 11, 5, 12, 1, 13, 18, 19, 20, 21, 22, 23, 24] (by decide +kernel) (by decide +kernel)
set_option maxRecDepth 20000 in
theorem gX4_take_X4_read : GoodIn wsX4_take (wsV RX4 34 RX4 yX4_read wsX4_read) := goodIn_app (goodIn_of _ (by decide +kernel)) ggX4_take_X4_read
set_option maxRecDepth 20000 in
theorem ggX4_take_X4_listen : GoodIn wsX4_take wsX4_listen := goodIn_r _ [17, 13, 1, 7, 8, 18, 19, 20, 21, 22, 23, 24] (by decide +kernel) (by decide +kernel)
set_option maxRecDepth 20000 in
theorem gX4_take_X4_listen : GoodIn wsX4_take (wsV RX4 38 RX4 yX4_listen wsX4_listen) := goodIn_app (goodIn_of _ (by decide +kernel)) ggX4_take_X4_listen
theorem dX4_take_0 : decode cX4_take 0 = .ok (.aload_n 0, 1) := by decide +kernel
theorem dX4_take_1 : decode cX4_take 1 = .ok (.getfield 9, 3) := by decide +kernel
theorem dX4_take_4 : decode cX4_take 4 = .ok (.ifCond .eq 11, 3) := by decide +kernel
theorem dX4_take_7 : decode cX4_take 7 = .ok (.aload_n 0, 1) := by decide +kernel
theorem dX4_take_8 : decode cX4_take 8 = .ok (.iload_n 1, 1) := by decide +kernel
theorem dX4_take_9 : decode cX4_take 9 = .ok (.invokevirtual 34, 3) := by decide +kernel
theorem dX4_take_12 : decode cX4_take 12 = .ok (.goto 8, 3) := by decide +kernel
theorem dX4_take_15 : decode cX4_take 15 = .ok (.aload_n 0, 1) := by decide +kernel
theorem dX4_take_16 : decode cX4_take 16 = .ok (.iload_n 1, 1) := by decide +kernel
theorem dX4_take_17 : decode cX4_take 17 = .ok (.invokevirtual 38, 3) := by decide +kernel
theorem dX4_take_20 : decode cX4_take 20 = .ok (.ireturn, 1) := by decide +kernel
theorem dX4_listen_0 : decode cX4_listen 0 = .ok (.aload_n 0, 1) := by decide +kernel
theorem dX4_listen_1 : decode cX4_listen 1 = .ok (.aload_n 0, 1) := by decide +kernel
theorem dX4_listen_2 : decode cX4_listen 2 = .ok (.getfield 15, 3) := by decide +kernel
theorem dX4_listen_5 : decode cX4_listen 5 = .ok (.iconst 1, 1) := by decide +kernel
theorem dX4_listen_6 : decode cX4_listen 6 = .ok (.ishl, 1) := by decide +kernel
theorem dX4_listen_7 : decode cX4_listen 7 = .ok (.iload_n 1, 1) := by decide +kernel
theorem dX4_listen_8 : decode cX4_listen 8 = .ok (.ior, 1) := by decide +kernel
theorem dX4_listen_9 : decode cX4_listen 9 = .ok (.bipush 15, 2) := by decide +kernel
theorem dX4_listen_11 : decode cX4_listen 11 = .ok (.iand, 1) := by decide +kernel
theorem dX4_listen_12 : decode cX4_listen 12 = .ok (.putfield 15, 3) := by decide +kernel
theorem dX4_listen_15 : decode cX4_listen 15 = .ok (.aload_n 0, 1) := by decide +kernel
theorem dX4_listen_16 : decode cX4_listen 16 = .ok (.getfield 15, 3) := by decide +kernel
theorem dX4_listen_19 : decode cX4_listen 19 = .ok (.bipush 14, 2) := by decide +kernel
theorem dX4_listen_21 : decode cX4_listen 21 = .ok (.if_icmp .ne 18, 3) := by decide +kernel
theorem dX4_listen_24 : decode cX4_listen 24 = .ok (.aload_n 0, 1) := by decide +kernel
theorem dX4_listen_25 : decode cX4_listen 25 = .ok (.iconst 1, 1) := by decide +kernel
theorem dX4_listen_26 : decode cX4_listen 26 = .ok (.putfield 9, 3) := by decide +kernel
theorem dX4_listen_29 : decode cX4_listen 29 = .ok (.aload_n 0, 1) := by decide +kernel
theorem dX4_listen_30 : decode cX4_listen 30 = .ok (.iconst 0, 1) := by decide +kernel
theorem dX4_listen_31 : decode cX4_listen 31 = .ok (.putfield 19, 3) := by decide +kernel
theorem dX4_listen_34 : decode cX4_listen 34 = .ok (.aload_n 0, 1) := by decide +kernel
theorem dX4_listen_35 : decode cX4_listen 35 = .ok (.iconst 0, 1) := by decide +kernel
