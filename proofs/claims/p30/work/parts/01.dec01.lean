theorem dX4_listen_36 : decode cX4_listen 36 = .ok (.putfield 22, 3) := by decide +kernel
theorem dX4_listen_39 : decode cX4_listen 39 = .ok (.iconst (-1), 1) := by decide +kernel
theorem dX4_listen_40 : decode cX4_listen 40 = .ok (.ireturn, 1) := by decide +kernel
set_option maxRecDepth 20000 in
theorem ggX4_read_X4_listenAnew : GoodIn wsX4_read wsX4_listenAnew := goodIn_r _ [7, 8, 9, 10, 11, 12, 13, 14, 15, 16] (by decide +kernel) (by decide +kernel)
set_option maxRecDepth 20000 in
theorem gX4_read_X4_listenAnew : GoodIn wsX4_read (wsV RX4 41 RX4 yX4_listenAnew wsX4_listenAnew) := goodIn_app (goodIn_of _ (by decide +kernel)) ggX4_read_X4_listenAnew
theorem dX4_read_0 : decode cX4_read 0 = .ok (.aload_n 0, 1) := by decide +kernel
theorem dX4_read_1 : decode cX4_read 1 = .ok (.dup, 1) := by decide +kernel
theorem dX4_read_2 : decode cX4_read 2 = .ok (.getfield 19, 3) := by decide +kernel
theorem dX4_read_5 : decode cX4_read 5 = .ok (.iconst 1, 1) := by decide +kernel
theorem dX4_read_6 : decode cX4_read 6 = .ok (.iadd, 1) := by decide +kernel
theorem dX4_read_7 : decode cX4_read 7 = .ok (.putfield 19, 3) := by decide +kernel
theorem dX4_read_10 : decode cX4_read 10 = .ok (.aload_n 0, 1) := by decide +kernel
theorem dX4_read_11 : decode cX4_read 11 = .ok (.getfield 19, 3) := by decide +kernel
theorem dX4_read_14 : decode cX4_read 14 = .ok (.iconst 2, 1) := by decide +kernel
theorem dX4_read_15 : decode cX4_read 15 = .ok (.irem, 1) := by decide +kernel
theorem dX4_read_16 : decode cX4_read 16 = .ok (.ifCond .eq 17, 3) := by decide +kernel
theorem dX4_read_19 : decode cX4_read 19 = .ok (.aload_n 0, 1) := by decide +kernel
theorem dX4_read_20 : decode cX4_read 20 = .ok (.aload_n 0, 1) := by decide +kernel
theorem dX4_read_21 : decode cX4_read 21 = .ok (.getfield 22, 3) := by decide +kernel
theorem dX4_read_24 : decode cX4_read 24 = .ok (.iconst 1, 1) := by decide +kernel
theorem dX4_read_25 : decode cX4_read 25 = .ok (.ishl, 1) := by decide +kernel
theorem dX4_read_26 : decode cX4_read 26 = .ok (.iload_n 1, 1) := by decide +kernel
theorem dX4_read_27 : decode cX4_read 27 = .ok (.ior, 1) := by decide +kernel
theorem dX4_read_28 : decode cX4_read 28 = .ok (.putfield 22, 3) := by decide +kernel
theorem dX4_read_31 : decode cX4_read 31 = .ok (.iconst (-1), 1) := by decide +kernel
theorem dX4_read_32 : decode cX4_read 32 = .ok (.ireturn, 1) := by decide +kernel
theorem dX4_read_33 : decode cX4_read 33 = .ok (.aload_n 0, 1) := by decide +kernel
theorem dX4_read_34 : decode cX4_read 34 = .ok (.getfield 22, 3) := by decide +kernel
theorem dX4_read_37 : decode cX4_read 37 = .ok (.iconst 1, 1) := by decide +kernel
theorem dX4_read_38 : decode cX4_read 38 = .ok (.iand, 1) := by decide +kernel
theorem dX4_read_39 : decode cX4_read 39 = .ok (.iload_n 1, 1) := by decide +kernel
theorem dX4_read_40 : decode cX4_read 40 = .ok (.if_icmp .ne 10, 3) := by decide +kernel
theorem dX4_read_43 : decode cX4_read 43 = .ok (.aload_n 0, 1) := by decide +kernel
theorem dX4_read_44 : decode cX4_read 44 = .ok (.invokevirtual 41, 3) := by decide +kernel
theorem dX4_read_47 : decode cX4_read 47 = .ok (.bipush (-2), 2) := by decide +kernel
theorem dX4_read_49 : decode cX4_read 49 = .ok (.ireturn, 1) := by decide +kernel
theorem dX4_read_50 : decode cX4_read 50 = .ok (.aload_n 0, 1) := by decide +kernel
theorem dX4_read_51 : decode cX4_read 51 = .ok (.getfield 19, 3) := by decide +kernel
theorem dX4_read_54 : decode cX4_read 54 = .ok (.bipush 10, 2) := by decide +kernel
theorem dX4_read_56 : decode cX4_read 56 = .ok (.if_icmp .ge 5, 3) := by decide +kernel
theorem dX4_read_59 : decode cX4_read 59 = .ok (.iconst (-1), 1) := by decide +kernel
theorem dX4_read_60 : decode cX4_read 60 = .ok (.ireturn, 1) := by decide +kernel
theorem dX4_read_61 : decode cX4_read 61 = .ok (.aload_n 0, 1) := by decide +kernel
theorem dX4_read_62 : decode cX4_read 62 = .ok (.invokevirtual 41, 3) := by decide +kernel
theorem dX4_read_65 : decode cX4_read 65 = .ok (.aload_n 0, 1) := by decide +kernel
theorem dX4_read_66 : decode cX4_read 66 = .ok (.getfield 22, 3) := by decide +kernel
theorem dX4_read_69 : decode cX4_read 69 = .ok (.ireturn, 1) := by decide +kernel
theorem dX4_listenAnew_0 : decode cX4_listenAnew 0 = .ok (.aload_n 0, 1) := by decide +kernel
theorem dX4_listenAnew_1 : decode cX4_listenAnew 1 = .ok (.iconst 0, 1) := by decide +kernel
theorem dX4_listenAnew_2 : decode cX4_listenAnew 2 = .ok (.putfield 9, 3) := by decide +kernel
theorem dX4_listenAnew_5 : decode cX4_listenAnew 5 = .ok (.aload_n 0, 1) := by decide +kernel
theorem dX4_listenAnew_6 : decode cX4_listenAnew 6 = .ok (.iconst 0, 1) := by decide +kernel
theorem dX4_listenAnew_7 : decode cX4_listenAnew 7 = .ok (.putfield 15, 3) := by decide +kernel
theorem dX4_listenAnew_10 : decode cX4_listenAnew 10 = .ok (.return_, 1) := by decide +kernel
theorem dX4_tell_0 : decode cX4_tell 0 = .ok (.iload_n 1, 1) := by decide +kernel
theorem dX4_tell_1 : decode cX4_tell 1 = .ok (.aload_n 0, 1) := by decide +kernel
theorem dX4_tell_2 : decode cX4_tell 2 = .ok (.getfield 25, 3) := by decide +kernel
theorem dX4_tell_5 : decode cX4_tell 5 = .ok (.if_icmp .ne 18, 3) := by decide +kernel
theorem dX4_tell_8 : decode cX4_tell 8 = .ok (.iload_n 2, 1) := by decide +kernel
theorem dX4_tell_9 : decode cX4_tell 9 = .ok (.aload_n 0, 1) := by decide +kernel
theorem dX4_tell_10 : decode cX4_tell 10 = .ok (.getfield 28, 3) := by decide +kernel
theorem dX4_tell_13 : decode cX4_tell 13 = .ok (.isub, 1) := by decide +kernel
theorem dX4_tell_14 : decode cX4_tell 14 = .ok (.bipush 17, 2) := by decide +kernel
theorem dX4_tell_16 : decode cX4_tell 16 = .ok (.if_icmp .gt 7, 3) := by decide +kernel
theorem dX4_tell_19 : decode cX4_tell 19 = .ok (.iconst 1, 1) := by decide +kernel
theorem dX4_tell_20 : decode cX4_tell 20 = .ok (.goto 4, 3) := by decide +kernel
theorem dX4_tell_23 : decode cX4_tell 23 = .ok (.iconst 0, 1) := by decide +kernel
theorem dX4_tell_24 : decode cX4_tell 24 = .ok (.istore_n 3, 1) := by decide +kernel
theorem dX4_tell_25 : decode cX4_tell 25 = .ok (.aload_n 0, 1) := by decide +kernel
theorem dX4_tell_26 : decode cX4_tell 26 = .ok (.iload_n 1, 1) := by decide +kernel
theorem dX4_tell_27 : decode cX4_tell 27 = .ok (.putfield 25, 3) := by decide +kernel
theorem dX4_tell_30 : decode cX4_tell 30 = .ok (.aload_n 0, 1) := by decide +kernel
theorem dX4_tell_31 : decode cX4_tell 31 = .ok (.iload_n 2, 1) := by decide +kernel
theorem dX4_tell_32 : decode cX4_tell 32 = .ok (.putfield 28, 3) := by decide +kernel
theorem dX4_tell_35 : decode cX4_tell 35 = .ok (.iload_n 3, 1) := by decide +kernel
theorem dX4_tell_36 : decode cX4_tell 36 = .ok (.ifCond .ne 7, 3) := by decide +kernel
theorem dX4_tell_39 : decode cX4_tell 39 = .ok (.iconst 1, 1) := by decide +kernel
theorem dX4_tell_40 : decode cX4_tell 40 = .ok (.goto 4, 3) := by decide +kernel
theorem dX4_tell_43 : decode cX4_tell 43 = .ok (.iconst 0, 1) := by decide +kernel
theorem dX4_tell_44 : decode cX4_tell 44 = .ok (.ireturn, 1) := by decide +kernel
theorem dX4_isOpen_0 : decode cX4_isOpen 0 = .ok (.aload_n 0, 1) := by decide +kernel
theorem dX4_isOpen_1 : decode cX4_isOpen 1 = .ok (.getfield 31, 3) := by decide +kernel
theorem dX4_isOpen_4 : decode cX4_isOpen 4 = .ok (.iload_n 1, 1) := by decide +kernel
theorem dX4_isOpen_5 : decode cX4_isOpen 5 = .ok (.ishr, 1) := by decide +kernel
theorem dX4_isOpen_6 : decode cX4_isOpen 6 = .ok (.iconst 1, 1) := by decide +kernel
theorem dX4_isOpen_7 : decode cX4_isOpen 7 = .ok (.iand, 1) := by decide +kernel
theorem dX4_isOpen_8 : decode cX4_isOpen 8 = .ok (.iconst 1, 1) := by decide +kernel
theorem dX4_isOpen_9 : decode cX4_isOpen 9 = .ok (.if_icmp .ne 7, 3) := by decide +kernel
theorem dX4_isOpen_12 : decode cX4_isOpen 12 = .ok (.iconst 1, 1) := by decide +kernel
theorem dX4_isOpen_13 : decode cX4_isOpen 13 = .ok (.goto 4, 3) := by decide +kernel
theorem dX4_isOpen_16 : decode cX4_isOpen 16 = .ok (.iconst 0, 1) := by decide +kernel
theorem dX4_isOpen_17 : decode cX4_isOpen 17 = .ok (.ireturn, 1) := by decide +kernel
theorem dX4_setOpen_0 : decode cX4_setOpen 0 = .ok (.aload_n 0, 1) := by decide +kernel
theorem dX4_setOpen_1 : decode cX4_setOpen 1 = .ok (.iload_n 2, 1) := by decide +kernel
theorem dX4_setOpen_2 : decode cX4_setOpen 2 = .ok (.ifCond .eq 14, 3) := by decide +kernel
theorem dX4_setOpen_5 : decode cX4_setOpen 5 = .ok (.aload_n 0, 1) := by decide +kernel
theorem dX4_setOpen_6 : decode cX4_setOpen 6 = .ok (.getfield 31, 3) := by decide +kernel
theorem dX4_setOpen_9 : decode cX4_setOpen 9 = .ok (.iconst 1, 1) := by decide +kernel
theorem dX4_setOpen_10 : decode cX4_setOpen 10 = .ok (.iload_n 1, 1) := by decide +kernel
theorem dX4_setOpen_11 : decode cX4_setOpen 11 = .ok (.ishl, 1) := by decide +kernel
theorem dX4_setOpen_12 : decode cX4_setOpen 12 = .ok (.ior, 1) := by decide +kernel
theorem dX4_setOpen_13 : decode cX4_setOpen 13 = .ok (.goto 13, 3) := by decide +kernel
theorem dX4_setOpen_16 : decode cX4_setOpen 16 = .ok (.aload_n 0, 1) := by decide +kernel
theorem dX4_setOpen_17 : decode cX4_setOpen 17 = .ok (.getfield 31, 3) := by decide +kernel
theorem dX4_setOpen_20 : decode cX4_setOpen 20 = .ok (.iconst 1, 1) := by decide +kernel
theorem dX4_setOpen_21 : decode cX4_setOpen 21 = .ok (.iload_n 1, 1) := by decide +kernel
theorem dX4_setOpen_22 : decode cX4_setOpen 22 = .ok (.ishl, 1) := by decide +kernel
theorem dX4_setOpen_23 : decode cX4_setOpen 23 = .ok (.iconst (-1), 1) := by decide +kernel
theorem dX4_setOpen_24 : decode cX4_setOpen 24 = .ok (.ixor, 1) := by decide +kernel
theorem dX4_setOpen_25 : decode cX4_setOpen 25 = .ok (.iand, 1) := by decide +kernel
theorem dX4_setOpen_26 : decode cX4_setOpen 26 = .ok (.putfield 31, 3) := by decide +kernel
theorem dX4_setOpen_29 : decode cX4_setOpen 29 = .ok (.return_, 1) := by decide +kernel
theorem dX5_init_0 : decode cX5_init 0 = .ok (.aload_n 0, 1) := by decide +kernel
theorem dX5_init_1 : decode cX5_init 1 = .ok (.invokespecial 3, 3) := by decide +kernel
theorem dX5_init_4 : decode cX5_init 4 = .ok (.aload_n 0, 1) := by decide +kernel
theorem dX5_init_5 : decode cX5_init 5 = .ok (.bipush 80, 2) := by decide +kernel
theorem dX5_init_7 : decode cX5_init 7 = .ok (.newarray .int, 2) := by decide +kernel
theorem dX5_init_9 : decode cX5_init 9 = .ok (.putfield 9, 3) := by decide +kernel
theorem dX5_init_12 : decode cX5_init 12 = .ok (.aload_n 0, 1) := by decide +kernel
theorem dX5_init_13 : decode cX5_init 13 = .ok (.iconst 0, 1) := by decide +kernel
theorem dX5_init_14 : decode cX5_init 14 = .ok (.putfield 15, 3) := by decide +kernel
theorem dX5_init_17 : decode cX5_init 17 = .ok (.return_, 1) := by decide +kernel
set_option maxRecDepth 20000 in
theorem ggX6_init_X7_init : GoodIn wsX6_init wsX7_init := goodIn_r _ [12, 13, 14, 15, 16, 17, 18, 29, 30, 31, 32, 33, 34, 35, 36, 37, 38, 39, 40, 41, 19, 20, 21, 22, 23, 24, 25, 26, 27, 28] (by decide +kernel) (by decide +kernel)
set_option maxRecDepth 20000 in
theorem gX6_init_X7_init : GoodIn wsX6_init (wsX7_init) := ggX6_init_X7_init
theorem dX6_init_0 : decode cX6_init 0 = .ok (.aload_n 0, 1) := by decide +kernel
theorem dX6_init_1 : decode cX6_init 1 = .ok (.iload_n 1, 1) := by decide +kernel
theorem dX6_init_2 : decode cX6_init 2 = .ok (.invokespecial 3, 3) := by decide +kernel
theorem dX6_init_5 : decode cX6_init 5 = .ok (.aload_n 0, 1) := by decide +kernel
theorem dX6_init_6 : decode cX6_init 6 = .ok (.bipush 6, 2) := by decide +kernel
theorem dX6_init_8 : decode cX6_init 8 = .ok (.newarray .int, 2) := by decide +kernel
theorem dX6_init_10 : decode cX6_init 10 = .ok (.putfield 9, 3) := by decide +kernel
theorem dX6_init_13 : decode cX6_init 13 = .ok (.aload_n 0, 1) := by decide +kernel
theorem dX6_init_14 : decode cX6_init 14 = .ok (.iconst 0, 1) := by decide +kernel
theorem dX6_init_15 : decode cX6_init 15 = .ok (.putfield 15, 3) := by decide +kernel
theorem dX6_init_18 : decode cX6_init 18 = .ok (.aload_n 0, 1) := by decide +kernel
theorem dX6_init_19 : decode cX6_init 19 = .ok (.iconst 0, 1) := by decide +kernel
theorem dX6_init_20 : decode cX6_init 20 = .ok (.putfield 19, 3) := by decide +kernel
theorem dX6_init_23 : decode cX6_init 23 = .ok (.aload_n 0, 1) := by decide +kernel
theorem dX6_init_24 : decode cX6_init 24 = .ok (.iconst 0, 1) := by decide +kernel
theorem dX6_init_25 : decode cX6_init 25 = .ok (.putfield 22, 3) := by decide +kernel
theorem dX6_init_28 : decode cX6_init 28 = .ok (.aload_n 0, 1) := by decide +kernel
theorem dX6_init_29 : decode cX6_init 29 = .ok (.iconst 0, 1) := by decide +kernel
theorem dX6_init_30 : decode cX6_init 30 = .ok (.putfield 26, 3) := by decide +kernel
theorem dX6_init_33 : decode cX6_init 33 = .ok (.aload_n 0, 1) := by decide +kernel
theorem dX6_init_34 : decode cX6_init 34 = .ok (.iconst 0, 1) := by decide +kernel
theorem dX6_init_35 : decode cX6_init 35 = .ok (.putfield 29, 3) := by decide +kernel
theorem dX6_init_38 : decode cX6_init 38 = .ok (.aload_n 0, 1) := by decide +kernel
theorem dX6_init_39 : decode cX6_init 39 = .ok (.iconst 0, 1) := by decide +kernel
theorem dX6_init_40 : decode cX6_init 40 = .ok (.putfield 32, 3) := by decide +kernel
theorem dX6_init_43 : decode cX6_init 43 = .ok (.return_, 1) := by decide +kernel
theorem dX6_put_0 : decode cX6_put 0 = .ok (.aload_n 0, 1) := by decide +kernel
theorem dX6_put_1 : decode cX6_put 1 = .ok (.iconst 1, 1) := by decide +kernel
theorem dX6_put_2 : decode cX6_put 2 = .ok (.putfield 35, 3) := by decide +kernel
theorem dX6_put_5 : decode cX6_put 5 = .ok (.aload_n 0, 1) := by decide +kernel
theorem dX6_put_6 : decode cX6_put 6 = .ok (.iload_n 1, 1) := by decide +kernel
theorem dX6_put_7 : decode cX6_put 7 = .ok (.putfield 38, 3) := by decide +kernel
theorem dX6_put_10 : decode cX6_put 10 = .ok (.aload_n 0, 1) := by decide +kernel
theorem dX6_put_11 : decode cX6_put 11 = .ok (.iload_n 2, 1) := by decide +kernel
theorem dX6_put_12 : decode cX6_put 12 = .ok (.putfield 19, 3) := by decide +kernel
theorem dX6_put_15 : decode cX6_put 15 = .ok (.aload_n 0, 1) := by decide +kernel
theorem dX6_put_16 : decode cX6_put 16 = .ok (.iconst 0, 1) := by decide +kernel
theorem dX6_put_17 : decode cX6_put 17 = .ok (.putfield 15, 3) := by decide +kernel
theorem dX6_put_20 : decode cX6_put 20 = .ok (.aload_n 0, 1) := by decide +kernel
theorem dX6_put_21 : decode cX6_put 21 = .ok (.iconst 0, 1) := by decide +kernel
theorem dX6_put_22 : decode cX6_put 22 = .ok (.putfield 22, 3) := by decide +kernel
theorem dX6_put_25 : decode cX6_put 25 = .ok (.aload_n 0, 1) := by decide +kernel
theorem dX6_put_26 : decode cX6_put 26 = .ok (.iconst 0, 1) := by decide +kernel
theorem dX6_put_27 : decode cX6_put 27 = .ok (.putfield 26, 3) := by decide +kernel
theorem dX6_put_30 : decode cX6_put 30 = .ok (.aload_n 0, 1) := by decide +kernel
theorem dX6_put_31 : decode cX6_put 31 = .ok (.iconst 0, 1) := by decide +kernel
theorem dX6_put_32 : decode cX6_put 32 = .ok (.putfield 29, 3) := by decide +kernel
theorem dX6_put_35 : decode cX6_put 35 = .ok (.aload_n 0, 1) := by decide +kernel
theorem dX6_put_36 : decode cX6_put 36 = .ok (.iconst 0, 1) := by decide +kernel
theorem dX6_put_37 : decode cX6_put 37 = .ok (.putfield 32, 3) := by decide +kernel
theorem dX6_put_40 : decode cX6_put 40 = .ok (.return_, 1) := by decide +kernel
set_option maxRecDepth 20000 in
theorem ggX6_copyFrom_X7_copyThing : GoodIn wsX6_copyFrom wsX7_copyThing := goodIn_r _ [13, 14, 15, 29, 30, 31, 32, 33, 34, 35, 36, 37, 38, 39, 40, 41, 19, 20, 21, 22, 23, 24, 25, 26, 27, 28] (by decide +kernel) (by decide +kernel)
set_option maxRecDepth 20000 in
theorem gX6_copyFrom_X7_copyThing_u41X6 : GoodIn wsX6_copyFrom (va_wsU RX6 41 RX6 "MainsWords$Thing" ⟨"MainsWords$Sender", "copyThing", "(LMainsWords$Thing;)V"⟩ yX7_copyThing wsX7_copyThing) := goodIn_app (goodIn_of _ (by decide +kernel)) ggX6_copyFrom_X7_copyThing
set_option maxRecDepth 20000 in
theorem ggX6_copyFrom_X8_copyRow : GoodIn wsX6_copyFrom wsX8_copyRow := goodIn_r _ [18] (by decide +kernel) (by decide +kernel)
set_option maxRecDepth 20000 in
theorem gX6_copyFrom_X8_copyRow_n45 : GoodIn wsX6_copyFrom (wsX8_copyRow) := ggX6_copyFrom_X8_copyRow
theorem dX6_copyFrom_0 : decode cX6_copyFrom 0 = .ok (.aload_n 0, 1) := by decide +kernel
theorem dX6_copyFrom_1 : decode cX6_copyFrom 1 = .ok (.aload_n 1, 1) := by decide +kernel
theorem dX6_copyFrom_2 : decode cX6_copyFrom 2 = .ok (.invokevirtual 41, 3) := by decide +kernel
theorem dX6_copyFrom_5 : decode cX6_copyFrom 5 = .ok (.aload_n 1, 1) := by decide +kernel
theorem dX6_copyFrom_6 : decode cX6_copyFrom 6 = .ok (.getfield 9, 3) := by decide +kernel
theorem dX6_copyFrom_9 : decode cX6_copyFrom 9 = .ok (.aload_n 0, 1) := by decide +kernel
theorem dX6_copyFrom_10 : decode cX6_copyFrom 10 = .ok (.getfield 9, 3) := by decide +kernel
theorem dX6_copyFrom_13 : decode cX6_copyFrom 13 = .ok (.invokestatic 45, 3) := by decide +kernel
theorem dX6_copyFrom_16 : decode cX6_copyFrom 16 = .ok (.aload_n 0, 1) := by decide +kernel
theorem dX6_copyFrom_17 : decode cX6_copyFrom 17 = .ok (.aload_n 1, 1) := by decide +kernel
theorem dX6_copyFrom_18 : decode cX6_copyFrom 18 = .ok (.getfield 15, 3) := by decide +kernel
theorem dX6_copyFrom_21 : decode cX6_copyFrom 21 = .ok (.putfield 15, 3) := by decide +kernel
theorem dX6_copyFrom_24 : decode cX6_copyFrom 24 = .ok (.aload_n 0, 1) := by decide +kernel
theorem dX6_copyFrom_25 : decode cX6_copyFrom 25 = .ok (.aload_n 1, 1) := by decide +kernel
theorem dX6_copyFrom_26 : decode cX6_copyFrom 26 = .ok (.getfield 19, 3) := by decide +kernel
theorem dX6_copyFrom_29 : decode cX6_copyFrom 29 = .ok (.putfield 19, 3) := by decide +kernel
theorem dX6_copyFrom_32 : decode cX6_copyFrom 32 = .ok (.aload_n 0, 1) := by decide +kernel
theorem dX6_copyFrom_33 : decode cX6_copyFrom 33 = .ok (.aload_n 1, 1) := by decide +kernel
theorem dX6_copyFrom_34 : decode cX6_copyFrom 34 = .ok (.getfield 22, 3) := by decide +kernel
theorem dX6_copyFrom_37 : decode cX6_copyFrom 37 = .ok (.putfield 22, 3) := by decide +kernel
theorem dX6_copyFrom_40 : decode cX6_copyFrom 40 = .ok (.aload_n 0, 1) := by decide +kernel
theorem dX6_copyFrom_41 : decode cX6_copyFrom 41 = .ok (.aload_n 1, 1) := by decide +kernel
theorem dX6_copyFrom_42 : decode cX6_copyFrom 42 = .ok (.getfield 26, 3) := by decide +kernel
theorem dX6_copyFrom_45 : decode cX6_copyFrom 45 = .ok (.putfield 26, 3) := by decide +kernel
theorem dX6_copyFrom_48 : decode cX6_copyFrom 48 = .ok (.aload_n 0, 1) := by decide +kernel
theorem dX6_copyFrom_49 : decode cX6_copyFrom 49 = .ok (.aload_n 1, 1) := by decide +kernel
theorem dX6_copyFrom_50 : decode cX6_copyFrom 50 = .ok (.getfield 29, 3) := by decide +kernel
theorem dX6_copyFrom_53 : decode cX6_copyFrom 53 = .ok (.putfield 29, 3) := by decide +kernel
theorem dX6_copyFrom_56 : decode cX6_copyFrom 56 = .ok (.aload_n 0, 1) := by decide +kernel
theorem dX6_copyFrom_57 : decode cX6_copyFrom 57 = .ok (.aload_n 1, 1) := by decide +kernel
theorem dX6_copyFrom_58 : decode cX6_copyFrom 58 = .ok (.getfield 32, 3) := by decide +kernel
theorem dX6_copyFrom_61 : decode cX6_copyFrom 61 = .ok (.putfield 32, 3) := by decide +kernel
theorem dX6_copyFrom_64 : decode cX6_copyFrom 64 = .ok (.return_, 1) := by decide +kernel
theorem dX6_isSpeaking_0 : decode cX6_isSpeaking 0 = .ok (.aload_n 0, 1) := by decide +kernel
theorem dX6_isSpeaking_1 : decode cX6_isSpeaking 1 = .ok (.getfield 35, 3) := by decide +kernel
theorem dX6_isSpeaking_4 : decode cX6_isSpeaking 4 = .ok (.ifCond .eq 14, 3) := by decide +kernel
theorem dX6_isSpeaking_7 : decode cX6_isSpeaking 7 = .ok (.aload_n 0, 1) := by decide +kernel
theorem dX6_isSpeaking_8 : decode cX6_isSpeaking 8 = .ok (.getfield 22, 3) := by decide +kernel
theorem dX6_isSpeaking_11 : decode cX6_isSpeaking 11 = .ok (.ifCond .eq 7, 3) := by decide +kernel
theorem dX6_isSpeaking_14 : decode cX6_isSpeaking 14 = .ok (.iconst 1, 1) := by decide +kernel
theorem dX6_isSpeaking_15 : decode cX6_isSpeaking 15 = .ok (.goto 4, 3) := by decide +kernel
theorem dX6_isSpeaking_18 : decode cX6_isSpeaking 18 = .ok (.iconst 0, 1) := by decide +kernel
theorem dX6_isSpeaking_19 : decode cX6_isSpeaking 19 = .ok (.ireturn, 1) := by decide +kernel
theorem dX6_isQueueFull_0 : decode cX6_isQueueFull 0 = .ok (.aload_n 0, 1) := by decide +kernel
theorem dX6_isQueueFull_1 : decode cX6_isQueueFull 1 = .ok (.getfield 15, 3) := by decide +kernel
theorem dX6_isQueueFull_4 : decode cX6_isQueueFull 4 = .ok (.aload_n 0, 1) := by decide +kernel
theorem dX6_isQueueFull_5 : decode cX6_isQueueFull 5 = .ok (.getfield 9, 3) := by decide +kernel
theorem dX6_isQueueFull_8 : decode cX6_isQueueFull 8 = .ok (.arraylength, 1) := by decide +kernel
theorem dX6_isQueueFull_9 : decode cX6_isQueueFull 9 = .ok (.if_icmp .lt 7, 3) := by decide +kernel
theorem dX6_isQueueFull_12 : decode cX6_isQueueFull 12 = .ok (.iconst 1, 1) := by decide +kernel
theorem dX6_isQueueFull_13 : decode cX6_isQueueFull 13 = .ok (.goto 4, 3) := by decide +kernel
theorem dX6_isQueueFull_16 : decode cX6_isQueueFull 16 = .ok (.iconst 0, 1) := by decide +kernel
theorem dX6_isQueueFull_17 : decode cX6_isQueueFull 17 = .ok (.ireturn, 1) := by decide +kernel
theorem dX6_addWord_0 : decode cX6_addWord 0 = .ok (.aload_n 0, 1) := by decide +kernel
theorem dX6_addWord_1 : decode cX6_addWord 1 = .ok (.getfield 15, 3) := by decide +kernel
theorem dX6_addWord_4 : decode cX6_addWord 4 = .ok (.ifCond .lt 35, 3) := by decide +kernel
theorem dX6_addWord_7 : decode cX6_addWord 7 = .ok (.aload_n 0, 1) := by decide +kernel
theorem dX6_addWord_8 : decode cX6_addWord 8 = .ok (.getfield 15, 3) := by decide +kernel
theorem dX6_addWord_11 : decode cX6_addWord 11 = .ok (.aload_n 0, 1) := by decide +kernel
theorem dX6_addWord_12 : decode cX6_addWord 12 = .ok (.getfield 9, 3) := by decide +kernel
theorem dX6_addWord_15 : decode cX6_addWord 15 = .ok (.arraylength, 1) := by decide +kernel
theorem dX6_addWord_16 : decode cX6_addWord 16 = .ok (.if_icmp .ge 23, 3) := by decide +kernel
theorem dX6_addWord_19 : decode cX6_addWord 19 = .ok (.aload_n 0, 1) := by decide +kernel
theorem dX6_addWord_20 : decode cX6_addWord 20 = .ok (.getfield 9, 3) := by decide +kernel
theorem dX6_addWord_23 : decode cX6_addWord 23 = .ok (.aload_n 0, 1) := by decide +kernel
theorem dX6_addWord_24 : decode cX6_addWord 24 = .ok (.getfield 15, 3) := by decide +kernel
theorem dX6_addWord_27 : decode cX6_addWord 27 = .ok (.iload_n 1, 1) := by decide +kernel
theorem dX6_addWord_28 : decode cX6_addWord 28 = .ok (.iastore, 1) := by decide +kernel
theorem dX6_addWord_29 : decode cX6_addWord 29 = .ok (.aload_n 0, 1) := by decide +kernel
theorem dX6_addWord_30 : decode cX6_addWord 30 = .ok (.dup, 1) := by decide +kernel
theorem dX6_addWord_31 : decode cX6_addWord 31 = .ok (.getfield 15, 3) := by decide +kernel
theorem dX6_addWord_34 : decode cX6_addWord 34 = .ok (.iconst 1, 1) := by decide +kernel
theorem dX6_addWord_35 : decode cX6_addWord 35 = .ok (.iadd, 1) := by decide +kernel
theorem dX6_addWord_36 : decode cX6_addWord 36 = .ok (.putfield 15, 3) := by decide +kernel
theorem dX6_addWord_39 : decode cX6_addWord 39 = .ok (.return_, 1) := by decide +kernel
theorem dX6_wordAt_0 : decode cX6_wordAt 0 = .ok (.iload_n 1, 1) := by decide +kernel
theorem dX6_wordAt_1 : decode cX6_wordAt 1 = .ok (.ifCond .lt 20, 3) := by decide +kernel
theorem dX6_wordAt_4 : decode cX6_wordAt 4 = .ok (.iload_n 1, 1) := by decide +kernel
theorem dX6_wordAt_5 : decode cX6_wordAt 5 = .ok (.aload_n 0, 1) := by decide +kernel
theorem dX6_wordAt_6 : decode cX6_wordAt 6 = .ok (.getfield 15, 3) := by decide +kernel
theorem dX6_wordAt_9 : decode cX6_wordAt 9 = .ok (.if_icmp .ge 12, 3) := by decide +kernel
theorem dX6_wordAt_12 : decode cX6_wordAt 12 = .ok (.iload_n 1, 1) := by decide +kernel
theorem dX6_wordAt_13 : decode cX6_wordAt 13 = .ok (.aload_n 0, 1) := by decide +kernel
theorem dX6_wordAt_14 : decode cX6_wordAt 14 = .ok (.getfield 9, 3) := by decide +kernel
theorem dX6_wordAt_17 : decode cX6_wordAt 17 = .ok (.arraylength, 1) := by decide +kernel
theorem dX6_wordAt_18 : decode cX6_wordAt 18 = .ok (.if_icmp .lt 6, 3) := by decide +kernel
theorem dX6_wordAt_21 : decode cX6_wordAt 21 = .ok (.bipush (-5), 2) := by decide +kernel
theorem dX6_wordAt_23 : decode cX6_wordAt 23 = .ok (.ireturn, 1) := by decide +kernel
theorem dX6_wordAt_24 : decode cX6_wordAt 24 = .ok (.aload_n 0, 1) := by decide +kernel
theorem dX6_wordAt_25 : decode cX6_wordAt 25 = .ok (.getfield 9, 3) := by decide +kernel
theorem dX6_wordAt_28 : decode cX6_wordAt 28 = .ok (.iload_n 1, 1) := by decide +kernel
theorem dX6_wordAt_29 : decode cX6_wordAt 29 = .ok (.iaload, 1) := by decide +kernel
theorem dX6_wordAt_30 : decode cX6_wordAt 30 = .ok (.ireturn, 1) := by decide +kernel
theorem dX6_dropFirstWord_0 : decode cX6_dropFirstWord 0 = .ok (.iconst 1, 1) := by decide +kernel
theorem dX6_dropFirstWord_1 : decode cX6_dropFirstWord 1 = .ok (.istore_n 1, 1) := by decide +kernel
theorem dX6_dropFirstWord_2 : decode cX6_dropFirstWord 2 = .ok (.iload_n 1, 1) := by decide +kernel
theorem dX6_dropFirstWord_3 : decode cX6_dropFirstWord 3 = .ok (.aload_n 0, 1) := by decide +kernel
theorem dX6_dropFirstWord_4 : decode cX6_dropFirstWord 4 = .ok (.getfield 9, 3) := by decide +kernel
theorem dX6_dropFirstWord_7 : decode cX6_dropFirstWord 7 = .ok (.arraylength, 1) := by decide +kernel
theorem dX6_dropFirstWord_8 : decode cX6_dropFirstWord 8 = .ok (.if_icmp .ge 23, 3) := by decide +kernel
theorem dX6_dropFirstWord_11 : decode cX6_dropFirstWord 11 = .ok (.aload_n 0, 1) := by decide +kernel
theorem dX6_dropFirstWord_12 : decode cX6_dropFirstWord 12 = .ok (.getfield 9, 3) := by decide +kernel
theorem dX6_dropFirstWord_15 : decode cX6_dropFirstWord 15 = .ok (.iload_n 1, 1) := by decide +kernel
theorem dX6_dropFirstWord_16 : decode cX6_dropFirstWord 16 = .ok (.iconst 1, 1) := by decide +kernel
theorem dX6_dropFirstWord_17 : decode cX6_dropFirstWord 17 = .ok (.isub, 1) := by decide +kernel
theorem dX6_dropFirstWord_18 : decode cX6_dropFirstWord 18 = .ok (.aload_n 0, 1) := by decide +kernel
theorem dX6_dropFirstWord_19 : decode cX6_dropFirstWord 19 = .ok (.getfield 9, 3) := by decide +kernel
theorem dX6_dropFirstWord_22 : decode cX6_dropFirstWord 22 = .ok (.iload_n 1, 1) := by decide +kernel
theorem dX6_dropFirstWord_23 : decode cX6_dropFirstWord 23 = .ok (.iaload, 1) := by decide +kernel
theorem dX6_dropFirstWord_24 : decode cX6_dropFirstWord 24 = .ok (.iastore, 1) := by decide +kernel
theorem dX6_dropFirstWord_25 : decode cX6_dropFirstWord 25 = .ok (.iinc 1 1, 3) := by decide +kernel
theorem dX6_dropFirstWord_28 : decode cX6_dropFirstWord 28 = .ok (.goto (-26), 3) := by decide +kernel
theorem dX6_dropFirstWord_31 : decode cX6_dropFirstWord 31 = .ok (.aload_n 0, 1) := by decide +kernel
theorem dX6_dropFirstWord_32 : decode cX6_dropFirstWord 32 = .ok (.dup, 1) := by decide +kernel
theorem dX6_dropFirstWord_33 : decode cX6_dropFirstWord 33 = .ok (.getfield 15, 3) := by decide +kernel
theorem dX6_dropFirstWord_36 : decode cX6_dropFirstWord 36 = .ok (.iconst 1, 1) := by decide +kernel
theorem dX6_dropFirstWord_37 : decode cX6_dropFirstWord 37 = .ok (.isub, 1) := by decide +kernel
theorem dX6_dropFirstWord_38 : decode cX6_dropFirstWord 38 = .ok (.putfield 15, 3) := by decide +kernel
theorem dX6_dropFirstWord_41 : decode cX6_dropFirstWord 41 = .ok (.return_, 1) := by decide +kernel
set_option maxRecDepth 20000 in
theorem ggX6_bitToSend_X8_frameBit : GoodIn wsX6_bitToSend wsX8_frameBit := goodIn_r _ [5] (by decide +kernel) (by decide +kernel)
set_option maxRecDepth 20000 in
theorem gX6_bitToSend_X8_frameBit_n49 : GoodIn wsX6_bitToSend (wsX8_frameBit) := ggX6_bitToSend_X8_frameBit
theorem dX6_bitToSend_0 : decode cX6_bitToSend 0 = .ok (.aload_n 0, 1) := by decide +kernel
theorem dX6_bitToSend_1 : decode cX6_bitToSend 1 = .ok (.getfield 29, 3) := by decide +kernel
theorem dX6_bitToSend_4 : decode cX6_bitToSend 4 = .ok (.bipush 14, 2) := by decide +kernel
theorem dX6_bitToSend_6 : decode cX6_bitToSend 6 = .ok (.if_icmp .ge 19, 3) := by decide +kernel
theorem dX6_bitToSend_9 : decode cX6_bitToSend 9 = .ok (.aload_n 0, 1) := by decide +kernel
theorem dX6_bitToSend_10 : decode cX6_bitToSend 10 = .ok (.getfield 9, 3) := by decide +kernel
theorem dX6_bitToSend_13 : decode cX6_bitToSend 13 = .ok (.iconst 0, 1) := by decide +kernel
theorem dX6_bitToSend_14 : decode cX6_bitToSend 14 = .ok (.iaload, 1) := by decide +kernel
theorem dX6_bitToSend_15 : decode cX6_bitToSend 15 = .ok (.aload_n 0, 1) := by decide +kernel
theorem dX6_bitToSend_16 : decode cX6_bitToSend 16 = .ok (.getfield 29, 3) := by decide +kernel
theorem dX6_bitToSend_19 : decode cX6_bitToSend 19 = .ok (.invokestatic 49, 3) := by decide +kernel
theorem dX6_bitToSend_22 : decode cX6_bitToSend 22 = .ok (.goto 4, 3) := by decide +kernel
theorem dX6_bitToSend_25 : decode cX6_bitToSend 25 = .ok (.iconst 0, 1) := by decide +kernel
theorem dX6_bitToSend_26 : decode cX6_bitToSend 26 = .ok (.ireturn, 1) := by decide +kernel
theorem dX6_beginOrWait_0 : decode cX6_beginOrWait 0 = .ok (.aload_n 0, 1) := by decide +kernel
theorem dX6_beginOrWait_1 : decode cX6_beginOrWait 1 = .ok (.getfield 22, 3) := by decide +kernel
theorem dX6_beginOrWait_4 : decode cX6_beginOrWait 4 = .ok (.ifCond .eq 4, 3) := by decide +kernel
theorem dX6_beginOrWait_7 : decode cX6_beginOrWait 7 = .ok (.return_, 1) := by decide +kernel
theorem dX6_beginOrWait_8 : decode cX6_beginOrWait 8 = .ok (.aload_n 0, 1) := by decide +kernel
theorem dX6_beginOrWait_9 : decode cX6_beginOrWait 9 = .ok (.getfield 32, 3) := by decide +kernel
theorem dX6_beginOrWait_12 : decode cX6_beginOrWait 12 = .ok (.ifCond .le 16, 3) := by decide +kernel
theorem dX6_beginOrWait_15 : decode cX6_beginOrWait 15 = .ok (.aload_n 0, 1) := by decide +kernel
theorem dX6_beginOrWait_16 : decode cX6_beginOrWait 16 = .ok (.dup, 1) := by decide +kernel
theorem dX6_beginOrWait_17 : decode cX6_beginOrWait 17 = .ok (.getfield 32, 3) := by decide +kernel
theorem dX6_beginOrWait_20 : decode cX6_beginOrWait 20 = .ok (.iconst 1, 1) := by decide +kernel
theorem dX6_beginOrWait_21 : decode cX6_beginOrWait 21 = .ok (.isub, 1) := by decide +kernel
theorem dX6_beginOrWait_22 : decode cX6_beginOrWait 22 = .ok (.putfield 32, 3) := by decide +kernel
theorem dX6_beginOrWait_25 : decode cX6_beginOrWait 25 = .ok (.goto 29, 3) := by decide +kernel
theorem dX6_beginOrWait_28 : decode cX6_beginOrWait 28 = .ok (.aload_n 0, 1) := by decide +kernel
theorem dX6_beginOrWait_29 : decode cX6_beginOrWait 29 = .ok (.getfield 15, 3) := by decide +kernel
theorem dX6_beginOrWait_32 : decode cX6_beginOrWait 32 = .ok (.ifCond .le 22, 3) := by decide +kernel
theorem dX6_beginOrWait_35 : decode cX6_beginOrWait 35 = .ok (.iload_n 1, 1) := by decide +kernel
theorem dX6_beginOrWait_36 : decode cX6_beginOrWait 36 = .ok (.ifCond .eq 18, 3) := by decide +kernel
theorem dX6_beginOrWait_39 : decode cX6_beginOrWait 39 = .ok (.aload_n 0, 1) := by decide +kernel
theorem dX6_beginOrWait_40 : decode cX6_beginOrWait 40 = .ok (.iconst 1, 1) := by decide +kernel
theorem dX6_beginOrWait_41 : decode cX6_beginOrWait 41 = .ok (.putfield 22, 3) := by decide +kernel
theorem dX6_beginOrWait_44 : decode cX6_beginOrWait 44 = .ok (.aload_n 0, 1) := by decide +kernel
theorem dX6_beginOrWait_45 : decode cX6_beginOrWait 45 = .ok (.iconst 0, 1) := by decide +kernel
theorem dX6_beginOrWait_46 : decode cX6_beginOrWait 46 = .ok (.putfield 26, 3) := by decide +kernel
theorem dX6_beginOrWait_49 : decode cX6_beginOrWait 49 = .ok (.aload_n 0, 1) := by decide +kernel
theorem dX6_beginOrWait_50 : decode cX6_beginOrWait 50 = .ok (.iconst 0, 1) := by decide +kernel
theorem dX6_beginOrWait_51 : decode cX6_beginOrWait 51 = .ok (.putfield 29, 3) := by decide +kernel
theorem dX6_beginOrWait_54 : decode cX6_beginOrWait 54 = .ok (.return_, 1) := by decide +kernel
set_option maxRecDepth 20000 in
theorem ggX6_isDisturbedBy_X6_bitToSend : GoodIn wsX6_isDisturbedBy wsX6_bitToSend := goodIn_r _ [6, 1, 7, 8, 9, 10, 11, 12, 13, 14, 15, 16, 17, 18, 19, 20] (by decide +kernel) (by decide +kernel)
set_option maxRecDepth 20000 in
theorem gX6_isDisturbedBy_X6_bitToSend : GoodIn wsX6_isDisturbedBy (wsV RX6 53 RX6 yX6_bitToSend wsX6_bitToSend) := goodIn_app (goodIn_of _ (by decide +kernel)) ggX6_isDisturbedBy_X6_bitToSend
theorem dX6_isDisturbedBy_0 : decode cX6_isDisturbedBy 0 = .ok (.iload_n 1, 1) := by decide +kernel
theorem dX6_isDisturbedBy_1 : decode cX6_isDisturbedBy 1 = .ok (.ifCond .eq 23, 3) := by decide +kernel
theorem dX6_isDisturbedBy_4 : decode cX6_isDisturbedBy 4 = .ok (.aload_n 0, 1) := by decide +kernel
theorem dX6_isDisturbedBy_5 : decode cX6_isDisturbedBy 5 = .ok (.getfield 29, 3) := by decide +kernel
theorem dX6_isDisturbedBy_8 : decode cX6_isDisturbedBy 8 = .ok (.bipush 14, 2) := by decide +kernel
theorem dX6_isDisturbedBy_10 : decode cX6_isDisturbedBy 10 = .ok (.if_icmp .ge 14, 3) := by decide +kernel
theorem dX6_isDisturbedBy_13 : decode cX6_isDisturbedBy 13 = .ok (.aload_n 0, 1) := by decide +kernel
theorem dX6_isDisturbedBy_14 : decode cX6_isDisturbedBy 14 = .ok (.invokevirtual 53, 3) := by decide +kernel
theorem dX6_isDisturbedBy_17 : decode cX6_isDisturbedBy 17 = .ok (.ifCond .ne 7, 3) := by decide +kernel
theorem dX6_isDisturbedBy_20 : decode cX6_isDisturbedBy 20 = .ok (.iconst 1, 1) := by decide +kernel
theorem dX6_isDisturbedBy_21 : decode cX6_isDisturbedBy 21 = .ok (.goto 4, 3) := by decide +kernel
theorem dX6_isDisturbedBy_24 : decode cX6_isDisturbedBy 24 = .ok (.iconst 0, 1) := by decide +kernel
theorem dX6_isDisturbedBy_25 : decode cX6_isDisturbedBy 25 = .ok (.ireturn, 1) := by decide +kernel
theorem dX6_giveWay_0 : decode cX6_giveWay 0 = .ok (.aload_n 0, 1) := by decide +kernel
theorem dX6_giveWay_1 : decode cX6_giveWay 1 = .ok (.iconst 0, 1) := by decide +kernel
theorem dX6_giveWay_2 : decode cX6_giveWay 2 = .ok (.putfield 22, 3) := by decide +kernel
theorem dX6_giveWay_5 : decode cX6_giveWay 5 = .ok (.aload_n 0, 1) := by decide +kernel
theorem dX6_giveWay_6 : decode cX6_giveWay 6 = .ok (.iconst 3, 1) := by decide +kernel
theorem dX6_giveWay_7 : decode cX6_giveWay 7 = .ok (.iconst 2, 1) := by decide +kernel
theorem dX6_giveWay_8 : decode cX6_giveWay 8 = .ok (.aload_n 0, 1) := by decide +kernel
theorem dX6_giveWay_9 : decode cX6_giveWay 9 = .ok (.getfield 57, 3) := by decide +kernel
theorem dX6_giveWay_12 : decode cX6_giveWay 12 = .ok (.imul, 1) := by decide +kernel
theorem dX6_giveWay_13 : decode cX6_giveWay 13 = .ok (.iadd, 1) := by decide +kernel
theorem dX6_giveWay_14 : decode cX6_giveWay 14 = .ok (.putfield 32, 3) := by decide +kernel
theorem dX6_giveWay_17 : decode cX6_giveWay 17 = .ok (.return_, 1) := by decide +kernel
set_option maxRecDepth 20000 in
theorem ggX6_goOn_X6_dropFirstWord : GoodIn wsX6_goOn wsX6_dropFirstWord := goodIn_r _ [8, 9, 10, 11, 12, 13, 14, 15, 16, 17, 18, 19, 20] (by decide +kernel) (by decide +kernel)
set_option maxRecDepth 20000 in
theorem gX6_goOn_X6_dropFirstWord : GoodIn wsX6_goOn (wsV RX6 60 RX6 yX6_dropFirstWord wsX6_dropFirstWord) := goodIn_app (goodIn_of _ (by decide +kernel)) ggX6_goOn_X6_dropFirstWord
theorem dX6_goOn_0 : decode cX6_goOn 0 = .ok (.aload_n 0, 1) := by decide +kernel
theorem dX6_goOn_1 : decode cX6_goOn 1 = .ok (.dup, 1) := by decide +kernel
theorem dX6_goOn_2 : decode cX6_goOn 2 = .ok (.getfield 29, 3) := by decide +kernel
theorem dX6_goOn_5 : decode cX6_goOn 5 = .ok (.iconst 1, 1) := by decide +kernel
theorem dX6_goOn_6 : decode cX6_goOn 6 = .ok (.iadd, 1) := by decide +kernel
theorem dX6_goOn_7 : decode cX6_goOn 7 = .ok (.putfield 29, 3) := by decide +kernel
theorem dX6_goOn_10 : decode cX6_goOn 10 = .ok (.aload_n 0, 1) := by decide +kernel
theorem dX6_goOn_11 : decode cX6_goOn 11 = .ok (.getfield 29, 3) := by decide +kernel
theorem dX6_goOn_14 : decode cX6_goOn 14 = .ok (.bipush 16, 2) := by decide +kernel
theorem dX6_goOn_16 : decode cX6_goOn 16 = .ok (.if_icmp .gt 5, 3) := by decide +kernel
theorem dX6_goOn_19 : decode cX6_goOn 19 = .ok (.iconst 0, 1) := by decide +kernel
theorem dX6_goOn_20 : decode cX6_goOn 20 = .ok (.ireturn, 1) := by decide +kernel
theorem dX6_goOn_21 : decode cX6_goOn 21 = .ok (.aload_n 0, 1) := by decide +kernel
theorem dX6_goOn_22 : decode cX6_goOn 22 = .ok (.iconst 0, 1) := by decide +kernel
theorem dX6_goOn_23 : decode cX6_goOn 23 = .ok (.putfield 29, 3) := by decide +kernel
theorem dX6_goOn_26 : decode cX6_goOn 26 = .ok (.aload_n 0, 1) := by decide +kernel
theorem dX6_goOn_27 : decode cX6_goOn 27 = .ok (.dup, 1) := by decide +kernel
theorem dX6_goOn_28 : decode cX6_goOn 28 = .ok (.getfield 26, 3) := by decide +kernel
theorem dX6_goOn_31 : decode cX6_goOn 31 = .ok (.iconst 1, 1) := by decide +kernel
theorem dX6_goOn_32 : decode cX6_goOn 32 = .ok (.iadd, 1) := by decide +kernel
theorem dX6_goOn_33 : decode cX6_goOn 33 = .ok (.putfield 26, 3) := by decide +kernel
theorem dX6_goOn_36 : decode cX6_goOn 36 = .ok (.aload_n 0, 1) := by decide +kernel
theorem dX6_goOn_37 : decode cX6_goOn 37 = .ok (.getfield 26, 3) := by decide +kernel
theorem dX6_goOn_40 : decode cX6_goOn 40 = .ok (.iload_n 1, 1) := by decide +kernel
theorem dX6_goOn_41 : decode cX6_goOn 41 = .ok (.if_icmp .ge 5, 3) := by decide +kernel
theorem dX6_goOn_44 : decode cX6_goOn 44 = .ok (.iconst 0, 1) := by decide +kernel
theorem dX6_goOn_45 : decode cX6_goOn 45 = .ok (.ireturn, 1) := by decide +kernel
theorem dX6_goOn_46 : decode cX6_goOn 46 = .ok (.aload_n 0, 1) := by decide +kernel
theorem dX6_goOn_47 : decode cX6_goOn 47 = .ok (.iconst 0, 1) := by decide +kernel
theorem dX6_goOn_48 : decode cX6_goOn 48 = .ok (.putfield 22, 3) := by decide +kernel
theorem dX6_goOn_51 : decode cX6_goOn 51 = .ok (.aload_n 0, 1) := by decide +kernel
theorem dX6_goOn_52 : decode cX6_goOn 52 = .ok (.invokevirtual 60, 3) := by decide +kernel
theorem dX6_goOn_55 : decode cX6_goOn 55 = .ok (.iconst 1, 1) := by decide +kernel
theorem dX6_goOn_56 : decode cX6_goOn 56 = .ok (.ireturn, 1) := by decide +kernel
theorem dX7_init_0 : decode cX7_init 0 = .ok (.aload_n 0, 1) := by decide +kernel
theorem dX7_init_1 : decode cX7_init 1 = .ok (.invokespecial 1, 3) := by decide +kernel
theorem dX7_init_4 : decode cX7_init 4 = .ok (.aload_n 0, 1) := by decide +kernel
theorem dX7_init_5 : decode cX7_init 5 = .ok (.iconst 0, 1) := by decide +kernel
theorem dX7_init_6 : decode cX7_init 6 = .ok (.putfield 7, 3) := by decide +kernel
theorem dX7_init_9 : decode cX7_init 9 = .ok (.aload_n 0, 1) := by decide +kernel
theorem dX7_init_10 : decode cX7_init 10 = .ok (.iconst 0, 1) := by decide +kernel
theorem dX7_init_11 : decode cX7_init 11 = .ok (.putfield 13, 3) := by decide +kernel
theorem dX7_init_14 : decode cX7_init 14 = .ok (.aload_n 0, 1) := by decide +kernel
theorem dX7_init_15 : decode cX7_init 15 = .ok (.iload_n 1, 1) := by decide +kernel
theorem dX7_init_16 : decode cX7_init 16 = .ok (.putfield 17, 3) := by decide +kernel
theorem dX7_init_19 : decode cX7_init 19 = .ok (.return_, 1) := by decide +kernel
theorem dX7_copyThing_0 : decode cX7_copyThing 0 = .ok (.aload_n 0, 1) := by decide +kernel
theorem dX7_copyThing_1 : decode cX7_copyThing 1 = .ok (.aload_n 1, 1) := by decide +kernel
theorem dX7_copyThing_2 : decode cX7_copyThing 2 = .ok (.getfield 7, 3) := by decide +kernel
theorem dX7_copyThing_5 : decode cX7_copyThing 5 = .ok (.putfield 7, 3) := by decide +kernel
theorem dX7_copyThing_8 : decode cX7_copyThing 8 = .ok (.aload_n 0, 1) := by decide +kernel
theorem dX7_copyThing_9 : decode cX7_copyThing 9 = .ok (.aload_n 1, 1) := by decide +kernel
theorem dX7_copyThing_10 : decode cX7_copyThing 10 = .ok (.getfield 13, 3) := by decide +kernel
theorem dX7_copyThing_13 : decode cX7_copyThing 13 = .ok (.putfield 13, 3) := by decide +kernel
theorem dX7_copyThing_16 : decode cX7_copyThing 16 = .ok (.return_, 1) := by decide +kernel
set_option maxRecDepth 20000 in
theorem ggX8_init_X3_init : GoodIn wsX8_init wsX3_init := goodIn_r _ [21, 22, 2, 3, 23, 24, 25, 26, 27, 28, 29, 30, 31, 32, 33, 34, 35, 36, 37, 38, 39, 40, 41, 42, 43, 44, 45, 46, 47, 48, 49, 50, 51, 52, 53, 54, 55, 56, 57, 58, 59, 60, 61, 62, 63, 64, 65, 66, 67, 68, 69, 70, 71, 72, 73, 74, 75, 76, 77, 78, 79, 80, 81, 82, 83, 84, 85, 86, 87, 101, 102, 103, 104, 105, 106, 107, 108, 119, 120, 121, 122, 123, 124, 125, 126, 127, 128, 129, 130, 131, 132, 133, 134, 135, 136, 137, 138, 139, 140, 141, 142, 143, 144, 145, 146, 147, 148] (by decide +kernel) (by decide +kernel)
set_option maxRecDepth 20000 in
theorem gX8_init_X3_init : GoodIn wsX8_init (wsX3_init) := ggX8_init_X3_init
set_option maxRecDepth 20000 in
theorem ggX8_init_X0_init : GoodIn wsX8_init wsX0_init := goodIn_r _ [90, 91, 2, 3, 92, 93, 94, 5, 6, 95, 20, 21, 22, 23, 24, 25, 26, 27, 28, 29, 30, 31, 32, 33, 34, 35, 36, 37, 38, 39, 40, 41, 42, 43, 44, 45, 46, 47, 48, 49, 50, 51, 52, 53, 54, 55, 56, 57, 58, 59, 60, 61, 62, 63, 64, 65, 66, 67, 68, 69, 70, 71, 72, 73, 74, 75, 76, 77, 78, 79, 80, 81, 82, 83, 84, 85, 86, 87, 115, 116, 101, 102, 103, 104, 105, 106, 107, 108, 119, 120, 121, 122, 123, 124, 125, 126, 127, 128, 129, 130, 131, 132, 133, 134, 135, 136, 137, 138, 139, 140, 141, 142, 143, 144, 145, 146, 147, 148] (by decide +kernel) (by decide +kernel)
set_option maxRecDepth 20000 in
theorem gX8_init_X0_init : GoodIn wsX8_init (wsX0_init) := ggX8_init_X0_init
set_option maxRecDepth 20000 in
theorem ggX8_init_X5_init : GoodIn wsX8_init wsX5_init := goodIn_r _ [97, 98, 2, 3, 31, 99, 100, 117, 118] (by decide +kernel) (by decide +kernel)
set_option maxRecDepth 20000 in
theorem gX8_init_X5_init_n35 : GoodIn wsX8_init (wsX5_init) := ggX8_init_X5_init
theorem dX8_init_0 : decode cX8_init 0 = .ok (.aload_n 0, 1) := by decide +kernel
theorem dX8_init_1 : decode cX8_init 1 = .ok (.invokespecial 1, 3) := by decide +kernel
theorem dX8_init_4 : decode cX8_init 4 = .ok (.aload_n 0, 1) := by decide +kernel
theorem dX8_init_5 : decode cX8_init 5 = .ok (.new 7, 3) := by decide +kernel
theorem dX8_init_8 : decode cX8_init 8 = .ok (.dup, 1) := by decide +kernel
theorem dX8_init_9 : decode cX8_init 9 = .ok (.invokespecial 9, 3) := by decide +kernel
theorem dX8_init_12 : decode cX8_init 12 = .ok (.putfield 10, 3) := by decide +kernel
theorem dX8_init_15 : decode cX8_init 15 = .ok (.aload_n 0, 1) := by decide +kernel
theorem dX8_init_16 : decode cX8_init 16 = .ok (.new 7, 3) := by decide +kernel
theorem dX8_init_19 : decode cX8_init 19 = .ok (.dup, 1) := by decide +kernel
theorem dX8_init_20 : decode cX8_init 20 = .ok (.invokespecial 9, 3) := by decide +kernel
theorem dX8_init_23 : decode cX8_init 23 = .ok (.putfield 16, 3) := by decide +kernel
theorem dX8_init_26 : decode cX8_init 26 = .ok (.aload_n 0, 1) := by decide +kernel
theorem dX8_init_27 : decode cX8_init 27 = .ok (.new 7, 3) := by decide +kernel
theorem dX8_init_30 : decode cX8_init 30 = .ok (.dup, 1) := by decide +kernel
theorem dX8_init_31 : decode cX8_init 31 = .ok (.invokespecial 9, 3) := by decide +kernel
theorem dX8_init_34 : decode cX8_init 34 = .ok (.putfield 19, 3) := by decide +kernel
theorem dX8_init_37 : decode cX8_init 37 = .ok (.aload_n 0, 1) := by decide +kernel
theorem dX8_init_38 : decode cX8_init 38 = .ok (.iconst 0, 1) := by decide +kernel
theorem dX8_init_39 : decode cX8_init 39 = .ok (.putfield 22, 3) := by decide +kernel
theorem dX8_init_42 : decode cX8_init 42 = .ok (.aload_n 0, 1) := by decide +kernel
theorem dX8_init_43 : decode cX8_init 43 = .ok (.new 26, 3) := by decide +kernel
theorem dX8_init_46 : decode cX8_init 46 = .ok (.dup, 1) := by decide +kernel
theorem dX8_init_47 : decode cX8_init 47 = .ok (.invokespecial 28, 3) := by decide +kernel
theorem dX8_init_50 : decode cX8_init 50 = .ok (.putfield 29, 3) := by decide +kernel
theorem dX8_init_53 : decode cX8_init 53 = .ok (.aload_n 0, 1) := by decide +kernel
theorem dX8_init_54 : decode cX8_init 54 = .ok (.new 33, 3) := by decide +kernel
theorem dX8_init_57 : decode cX8_init 57 = .ok (.dup, 1) := by decide +kernel
theorem dX8_init_58 : decode cX8_init 58 = .ok (.invokespecial 35, 3) := by decide +kernel
theorem dX8_init_61 : decode cX8_init 61 = .ok (.putfield 36, 3) := by decide +kernel
theorem dX8_init_64 : decode cX8_init 64 = .ok (.return_, 1) := by decide +kernel
set_option maxRecDepth 20000 in
theorem ggX8_sender_X8_isWire : GoodIn wsX8_sender wsX8_isWire := goodIn_r _ [8] (by decide +kernel) (by decide +kernel)
set_option maxRecDepth 20000 in
theorem gX8_sender_X8_isWire : GoodIn wsX8_sender (va_wsS RX8 40 yX8_isWire wsX8_isWire) := goodIn_app (goodIn_of _ (by decide +kernel)) ggX8_sender_X8_isWire
set_option maxRecDepth 20000 in
theorem ggX8_sender_X3_freeSender : GoodIn wsX8_sender wsX3_freeSender := goodIn_r _ [13, 14, 15, 16, 7, 17, 18, 134, 135, 136, 137, 138, 139, 140, 141, 111, 112, 113, 114, 115, 116, 117, 118, 119, 120, 121, 122, 123, 124, 125, 126, 127, 128, 129, 130, 131, 132, 133] (by decide +kernel) (by decide +kernel)
set_option maxRecDepth 20000 in
theorem gX8_sender_X3_freeSender : GoodIn wsX8_sender (wsV RX8 44 RX3 yX3_freeSender wsX3_freeSender) := goodIn_app (goodIn_of _ (by decide +kernel)) ggX8_sender_X3_freeSender
set_option maxRecDepth 20000 in
theorem ggX8_sender_X0_keep : GoodIn wsX8_sender wsX0_keep := goodIn_r _ [23, 24, 25, 26, 27, 28, 22, 29, 30, 31, 32, 12, 33, 14, 34, 35, 36, 37, 38, 39, 40, 41, 42, 43, 44, 45, 46, 47, 48, 49, 50, 51, 52, 53, 54, 55, 56, 57, 58, 59, 60, 7, 61, 62, 63, 64, 65, 66, 67, 68, 69, 70, 71, 72, 73, 74, 75, 76, 77, 78, 79, 80, 81, 82, 83, 84, 85, 86, 87, 88, 89, 90, 91, 92, 93, 94, 95, 96, 142, 143, 134, 135, 136, 137, 138, 139, 140, 141, 124, 125, 126, 127, 128, 129, 130, 131, 132, 133, 111, 112, 113, 114, 115, 116, 117, 118, 119, 120, 121, 122, 123, 144, 145, 146, 147, 148, 149, 150] (by decide +kernel) (by decide +kernel)
set_option maxRecDepth 20000 in
theorem gX8_sender_X0_keep : GoodIn wsX8_sender (wsV RX8 48 RX0 yX0_keep wsX0_keep) := goodIn_app (goodIn_of _ (by decide +kernel)) ggX8_sender_X0_keep
set_option maxRecDepth 20000 in
theorem ggX8_sender_X6_put : GoodIn wsX8_sender wsX6_put := goodIn_r _ [100, 101, 102, 103, 104, 47, 46, 48, 49, 50, 51, 111, 112, 113, 114, 115, 116, 117, 118, 119, 120, 121, 122, 123, 124, 125, 126, 127, 128, 129, 130, 131, 132, 133] (by decide +kernel) (by decide +kernel)
set_option maxRecDepth 20000 in
theorem gX8_sender_X6_put : GoodIn wsX8_sender (wsV RX8 52 RX6 yX6_put wsX6_put) := goodIn_app (goodIn_of _ (by decide +kernel)) ggX8_sender_X6_put
theorem dX8_sender_0 : decode cX8_sender 0 = .ok (.iload_n 1, 1) := by decide +kernel
theorem dX8_sender_1 : decode cX8_sender 1 = .ok (.invokestatic 40, 3) := by decide +kernel
theorem dX8_sender_4 : decode cX8_sender 4 = .ok (.ifCond .ne 5, 3) := by decide +kernel
theorem dX8_sender_7 : decode cX8_sender 7 = .ok (.iconst (-1), 1) := by decide +kernel
theorem dX8_sender_8 : decode cX8_sender 8 = .ok (.ireturn, 1) := by decide +kernel
theorem dX8_sender_9 : decode cX8_sender 9 = .ok (.iload_n 2, 1) := by decide +kernel
theorem dX8_sender_10 : decode cX8_sender 10 = .ok (.iconst 1, 1) := by decide +kernel
theorem dX8_sender_11 : decode cX8_sender 11 = .ok (.if_icmp .lt 9, 3) := by decide +kernel
theorem dX8_sender_14 : decode cX8_sender 14 = .ok (.iload_n 2, 1) := by decide +kernel
theorem dX8_sender_15 : decode cX8_sender 15 = .ok (.bipush 9, 2) := by decide +kernel
theorem dX8_sender_17 : decode cX8_sender 17 = .ok (.if_icmp .le 6, 3) := by decide +kernel
theorem dX8_sender_20 : decode cX8_sender 20 = .ok (.bipush (-2), 2) := by decide +kernel
theorem dX8_sender_22 : decode cX8_sender 22 = .ok (.ireturn, 1) := by decide +kernel
theorem dX8_sender_23 : decode cX8_sender 23 = .ok (.aload_n 0, 1) := by decide +kernel
theorem dX8_sender_24 : decode cX8_sender 24 = .ok (.getfield 10, 3) := by decide +kernel
theorem dX8_sender_27 : decode cX8_sender 27 = .ok (.invokevirtual 44, 3) := by decide +kernel
theorem dX8_sender_30 : decode cX8_sender 30 = .ok (.astore_n 3, 1) := by decide +kernel
theorem dX8_sender_31 : decode cX8_sender 31 = .ok (.aload_n 3, 1) := by decide +kernel
theorem dX8_sender_32 : decode cX8_sender 32 = .ok (.ifnonnull 6, 3) := by decide +kernel
theorem dX8_sender_35 : decode cX8_sender 35 = .ok (.bipush (-3), 2) := by decide +kernel
theorem dX8_sender_37 : decode cX8_sender 37 = .ok (.ireturn, 1) := by decide +kernel
theorem dX8_sender_38 : decode cX8_sender 38 = .ok (.aload_n 0, 1) := by decide +kernel
theorem dX8_sender_39 : decode cX8_sender 39 = .ok (.getfield 29, 3) := by decide +kernel
theorem dX8_sender_42 : decode cX8_sender 42 = .ok (.aload_n 0, 1) := by decide +kernel
theorem dX8_sender_43 : decode cX8_sender 43 = .ok (.getfield 10, 3) := by decide +kernel
theorem dX8_sender_46 : decode cX8_sender 46 = .ok (.invokevirtual 48, 3) := by decide +kernel
theorem dX8_sender_49 : decode cX8_sender 49 = .ok (.aload_n 3, 1) := by decide +kernel
theorem dX8_sender_50 : decode cX8_sender 50 = .ok (.iload_n 1, 1) := by decide +kernel
theorem dX8_sender_51 : decode cX8_sender 51 = .ok (.iload_n 2, 1) := by decide +kernel
theorem dX8_sender_52 : decode cX8_sender 52 = .ok (.invokevirtual 52, 3) := by decide +kernel
theorem dX8_sender_55 : decode cX8_sender 55 = .ok (.aload_n 3, 1) := by decide +kernel
theorem dX8_sender_56 : decode cX8_sender 56 = .ok (.getfield 58, 3) := by decide +kernel
theorem dX8_sender_59 : decode cX8_sender 59 = .ok (.ireturn, 1) := by decide +kernel
set_option maxRecDepth 20000 in
theorem ggX8_machine_X8_isWire : GoodIn wsX8_machine wsX8_isWire := goodIn_r _ [8] (by decide +kernel) (by decide +kernel)
set_option maxRecDepth 20000 in
theorem gX8_machine_X8_isWire : GoodIn wsX8_machine (va_wsS RX8 40 yX8_isWire wsX8_isWire) := goodIn_app (goodIn_of _ (by decide +kernel)) ggX8_machine_X8_isWire
set_option maxRecDepth 20000 in
theorem ggX8_machine_X3_freeMachine : GoodIn wsX8_machine wsX3_freeMachine := goodIn_r _ [13, 14, 15, 16, 7, 17, 18, 134, 135, 136, 137, 138, 139, 140, 141, 111, 112, 113, 114, 115, 116, 117, 118, 119, 120, 121, 122, 123, 124, 125, 126, 127, 128, 129, 130, 131, 132, 133] (by decide +kernel) (by decide +kernel)
set_option maxRecDepth 20000 in
theorem gX8_machine_X3_freeMachine : GoodIn wsX8_machine (wsV RX8 62 RX3 yX3_freeMachine wsX3_freeMachine) := goodIn_app (goodIn_of _ (by decide +kernel)) ggX8_machine_X3_freeMachine
set_option maxRecDepth 20000 in
theorem ggX8_machine_X0_keep : GoodIn wsX8_machine wsX0_keep := goodIn_r _ [23, 24, 25, 26, 27, 28, 22, 29, 30, 31, 32, 12, 33, 34, 14, 35, 36, 37, 38, 39, 40, 41, 42, 43, 44, 45, 46, 47, 48, 49, 50, 51, 52, 53, 54, 55, 56, 57, 58, 59, 60, 7, 61, 62, 63, 64, 65, 66, 67, 68, 69, 70, 71, 72, 73, 74, 75, 76, 77, 78, 79, 80, 81, 82, 83, 84, 85, 86, 87, 88, 89, 90, 91, 92, 93, 94, 95, 96, 142, 143, 134, 135, 136, 137, 138, 139, 140, 141, 124, 125, 126, 127, 128, 129, 130, 131, 132, 133, 111, 112, 113, 114, 115, 116, 117, 118, 119, 120, 121, 122, 123, 144, 145, 146, 147, 148, 149, 150] (by decide +kernel) (by decide +kernel)
set_option maxRecDepth 20000 in
theorem gX8_machine_X0_keep : GoodIn wsX8_machine (wsV RX8 48 RX0 yX0_keep wsX0_keep) := goodIn_app (goodIn_of _ (by decide +kernel)) ggX8_machine_X0_keep
set_option maxRecDepth 20000 in
theorem ggX8_machine_X2_put : GoodIn wsX8_machine wsX2_put := goodIn_r _ [100, 101, 102, 103, 104, 67, 68, 69, 111, 112, 113, 114, 115, 116, 117, 118, 119, 120, 121, 122, 123, 124, 125, 126, 127, 128, 129, 130, 131, 132, 133] (by decide +kernel) (by decide +kernel)
set_option maxRecDepth 20000 in
theorem gX8_machine_X2_put : GoodIn wsX8_machine (wsV RX8 66 RX2 yX2_put wsX2_put) := goodIn_app (goodIn_of _ (by decide +kernel)) ggX8_machine_X2_put
theorem dX8_machine_0 : decode cX8_machine 0 = .ok (.iload_n 1, 1) := by decide +kernel
theorem dX8_machine_1 : decode cX8_machine 1 = .ok (.invokestatic 40, 3) := by decide +kernel
theorem dX8_machine_4 : decode cX8_machine 4 = .ok (.ifCond .ne 5, 3) := by decide +kernel
theorem dX8_machine_7 : decode cX8_machine 7 = .ok (.iconst (-1), 1) := by decide +kernel
theorem dX8_machine_8 : decode cX8_machine 8 = .ok (.ireturn, 1) := by decide +kernel
theorem dX8_machine_9 : decode cX8_machine 9 = .ok (.iload_n 2, 1) := by decide +kernel
theorem dX8_machine_10 : decode cX8_machine 10 = .ok (.iconst 1, 1) := by decide +kernel
theorem dX8_machine_11 : decode cX8_machine 11 = .ok (.if_icmp .lt 9, 3) := by decide +kernel
theorem dX8_machine_14 : decode cX8_machine 14 = .ok (.iload_n 2, 1) := by decide +kernel
theorem dX8_machine_15 : decode cX8_machine 15 = .ok (.bipush 9, 2) := by decide +kernel
theorem dX8_machine_17 : decode cX8_machine 17 = .ok (.if_icmp .le 6, 3) := by decide +kernel
theorem dX8_machine_20 : decode cX8_machine 20 = .ok (.bipush (-2), 2) := by decide +kernel
theorem dX8_machine_22 : decode cX8_machine 22 = .ok (.ireturn, 1) := by decide +kernel
theorem dX8_machine_23 : decode cX8_machine 23 = .ok (.iload_n 3, 1) := by decide +kernel
theorem dX8_machine_24 : decode cX8_machine 24 = .ok (.iconst 2, 1) := by decide +kernel
theorem dX8_machine_25 : decode cX8_machine 25 = .ok (.if_icmp .lt 9, 3) := by decide +kernel
theorem dX8_machine_28 : decode cX8_machine 28 = .ok (.iload_n 3, 1) := by decide +kernel
theorem dX8_machine_29 : decode cX8_machine 29 = .ok (.bipush 20, 2) := by decide +kernel
theorem dX8_machine_31 : decode cX8_machine 31 = .ok (.if_icmp .le 6, 3) := by decide +kernel
theorem dX8_machine_34 : decode cX8_machine 34 = .ok (.bipush (-2), 2) := by decide +kernel
theorem dX8_machine_36 : decode cX8_machine 36 = .ok (.ireturn, 1) := by decide +kernel
theorem dX8_machine_37 : decode cX8_machine 37 = .ok (.aload_n 0, 1) := by decide +kernel
theorem dX8_machine_38 : decode cX8_machine 38 = .ok (.getfield 10, 3) := by decide +kernel
theorem dX8_machine_41 : decode cX8_machine 41 = .ok (.invokevirtual 62, 3) := by decide +kernel
theorem dX8_machine_44 : decode cX8_machine 44 = .ok (.astore 4, 2) := by decide +kernel
theorem dX8_machine_46 : decode cX8_machine 46 = .ok (.aload 4, 2) := by decide +kernel
theorem dX8_machine_48 : decode cX8_machine 48 = .ok (.ifnonnull 6, 3) := by decide +kernel
theorem dX8_machine_51 : decode cX8_machine 51 = .ok (.bipush (-3), 2) := by decide +kernel
theorem dX8_machine_53 : decode cX8_machine 53 = .ok (.ireturn, 1) := by decide +kernel
theorem dX8_machine_54 : decode cX8_machine 54 = .ok (.aload_n 0, 1) := by decide +kernel
theorem dX8_machine_55 : decode cX8_machine 55 = .ok (.getfield 29, 3) := by decide +kernel
theorem dX8_machine_58 : decode cX8_machine 58 = .ok (.aload_n 0, 1) := by decide +kernel
theorem dX8_machine_59 : decode cX8_machine 59 = .ok (.getfield 10, 3) := by decide +kernel
theorem dX8_machine_62 : decode cX8_machine 62 = .ok (.invokevirtual 48, 3) := by decide +kernel
theorem dX8_machine_65 : decode cX8_machine 65 = .ok (.aload 4, 2) := by decide +kernel
theorem dX8_machine_67 : decode cX8_machine 67 = .ok (.iload_n 1, 1) := by decide +kernel
theorem dX8_machine_68 : decode cX8_machine 68 = .ok (.iload_n 2, 1) := by decide +kernel
theorem dX8_machine_69 : decode cX8_machine 69 = .ok (.iload_n 3, 1) := by decide +kernel
theorem dX8_machine_70 : decode cX8_machine 70 = .ok (.invokevirtual 66, 3) := by decide +kernel
theorem dX8_machine_73 : decode cX8_machine 73 = .ok (.aload 4, 2) := by decide +kernel
theorem dX8_machine_75 : decode cX8_machine 75 = .ok (.getfield 71, 3) := by decide +kernel
theorem dX8_machine_78 : decode cX8_machine 78 = .ok (.ireturn, 1) := by decide +kernel
set_option maxRecDepth 20000 in
theorem ggX8_lamp_X8_isWire : GoodIn wsX8_lamp wsX8_isWire := goodIn_r _ [8] (by decide +kernel) (by decide +kernel)
set_option maxRecDepth 20000 in
theorem gX8_lamp_X8_isWire : GoodIn wsX8_lamp (va_wsS RX8 40 yX8_isWire wsX8_isWire) := goodIn_app (goodIn_of _ (by decide +kernel)) ggX8_lamp_X8_isWire
set_option maxRecDepth 20000 in
theorem ggX8_lamp_X3_freeLamp : GoodIn wsX8_lamp wsX3_freeLamp := goodIn_r _ [13, 14, 15, 16, 7, 17, 18, 134, 135, 136, 137, 138, 139, 140, 141, 111, 112, 113, 114, 115, 116, 117, 118, 119, 120, 121, 122, 123, 124, 125, 126, 127, 128, 129, 130, 131, 132, 133] (by decide +kernel) (by decide +kernel)
set_option maxRecDepth 20000 in
theorem gX8_lamp_X3_freeLamp : GoodIn wsX8_lamp (wsV RX8 72 RX3 yX3_freeLamp wsX3_freeLamp) := goodIn_app (goodIn_of _ (by decide +kernel)) ggX8_lamp_X3_freeLamp
set_option maxRecDepth 20000 in
theorem ggX8_lamp_X0_keep : GoodIn wsX8_lamp wsX0_keep := goodIn_r _ [23, 24, 25, 26, 27, 28, 22, 29, 30, 31, 32, 12, 33, 34, 35, 14, 36, 37, 38, 39, 40, 41, 42, 43, 44, 45, 46, 47, 48, 49, 50, 51, 52, 53, 54, 55, 56, 57, 58, 59, 60, 7, 61, 62, 63, 64, 65, 66, 67, 68, 69, 70, 71, 72, 73, 74, 75, 76, 77, 78, 79, 80, 81, 82, 83, 84, 85, 86, 87, 88, 89, 90, 91, 92, 93, 94, 95, 96, 142, 143, 134, 135, 136, 137, 138, 139, 140, 141, 124, 125, 126, 127, 128, 129, 130, 131, 132, 133, 111, 112, 113, 114, 115, 116, 117, 118, 119, 120, 121, 122, 123, 144, 145, 146, 147, 148, 149, 150] (by decide +kernel) (by decide +kernel)
set_option maxRecDepth 20000 in
theorem gX8_lamp_X0_keep : GoodIn wsX8_lamp (wsV RX8 48 RX0 yX0_keep wsX0_keep) := goodIn_app (goodIn_of _ (by decide +kernel)) ggX8_lamp_X0_keep
set_option maxRecDepth 20000 in
theorem ggX8_lamp_X1_put : GoodIn wsX8_lamp wsX1_put := goodIn_r _ [100, 101, 102, 103, 104, 78, 79, 80, 81, 111, 112, 113, 114, 115, 116, 117, 118, 119, 120, 121, 122, 123, 124, 125, 126, 127, 128, 129, 130, 131, 132, 133] (by decide +kernel) (by decide +kernel)
set_option maxRecDepth 20000 in
theorem gX8_lamp_X1_put : GoodIn wsX8_lamp (wsV RX8 76 RX1 yX1_put wsX1_put) := goodIn_app (goodIn_of _ (by decide +kernel)) ggX8_lamp_X1_put
theorem dX8_lamp_0 : decode cX8_lamp 0 = .ok (.iload_n 1, 1) := by decide +kernel
theorem dX8_lamp_1 : decode cX8_lamp 1 = .ok (.invokestatic 40, 3) := by decide +kernel
theorem dX8_lamp_4 : decode cX8_lamp 4 = .ok (.ifCond .ne 5, 3) := by decide +kernel
theorem dX8_lamp_7 : decode cX8_lamp 7 = .ok (.iconst (-1), 1) := by decide +kernel
theorem dX8_lamp_8 : decode cX8_lamp 8 = .ok (.ireturn, 1) := by decide +kernel
theorem dX8_lamp_9 : decode cX8_lamp 9 = .ok (.iload_n 2, 1) := by decide +kernel
theorem dX8_lamp_10 : decode cX8_lamp 10 = .ok (.ifCond .lt 17, 3) := by decide +kernel
theorem dX8_lamp_13 : decode cX8_lamp 13 = .ok (.iload_n 2, 1) := by decide +kernel
theorem dX8_lamp_14 : decode cX8_lamp 14 = .ok (.iconst 4, 1) := by decide +kernel
theorem dX8_lamp_15 : decode cX8_lamp 15 = .ok (.if_icmp .ge 12, 3) := by decide +kernel
theorem dX8_lamp_18 : decode cX8_lamp 18 = .ok (.iload_n 3, 1) := by decide +kernel
theorem dX8_lamp_19 : decode cX8_lamp 19 = .ok (.ifCond .lt 8, 3) := by decide +kernel
theorem dX8_lamp_22 : decode cX8_lamp 22 = .ok (.iload_n 3, 1) := by decide +kernel
theorem dX8_lamp_23 : decode cX8_lamp 23 = .ok (.iconst 4, 1) := by decide +kernel
theorem dX8_lamp_24 : decode cX8_lamp 24 = .ok (.if_icmp .lt 6, 3) := by decide +kernel
theorem dX8_lamp_27 : decode cX8_lamp 27 = .ok (.bipush (-2), 2) := by decide +kernel
theorem dX8_lamp_29 : decode cX8_lamp 29 = .ok (.ireturn, 1) := by decide +kernel
theorem dX8_lamp_30 : decode cX8_lamp 30 = .ok (.aload_n 0, 1) := by decide +kernel
theorem dX8_lamp_31 : decode cX8_lamp 31 = .ok (.getfield 10, 3) := by decide +kernel
theorem dX8_lamp_34 : decode cX8_lamp 34 = .ok (.invokevirtual 72, 3) := by decide +kernel
theorem dX8_lamp_37 : decode cX8_lamp 37 = .ok (.astore 4, 2) := by decide +kernel
theorem dX8_lamp_39 : decode cX8_lamp 39 = .ok (.aload 4, 2) := by decide +kernel
theorem dX8_lamp_41 : decode cX8_lamp 41 = .ok (.ifnonnull 6, 3) := by decide +kernel
theorem dX8_lamp_44 : decode cX8_lamp 44 = .ok (.bipush (-3), 2) := by decide +kernel
theorem dX8_lamp_46 : decode cX8_lamp 46 = .ok (.ireturn, 1) := by decide +kernel
theorem dX8_lamp_47 : decode cX8_lamp 47 = .ok (.aload_n 0, 1) := by decide +kernel
theorem dX8_lamp_48 : decode cX8_lamp 48 = .ok (.getfield 29, 3) := by decide +kernel
theorem dX8_lamp_51 : decode cX8_lamp 51 = .ok (.aload_n 0, 1) := by decide +kernel
theorem dX8_lamp_52 : decode cX8_lamp 52 = .ok (.getfield 10, 3) := by decide +kernel
theorem dX8_lamp_55 : decode cX8_lamp 55 = .ok (.invokevirtual 48, 3) := by decide +kernel
theorem dX8_lamp_58 : decode cX8_lamp 58 = .ok (.aload 4, 2) := by decide +kernel
theorem dX8_lamp_60 : decode cX8_lamp 60 = .ok (.iload_n 1, 1) := by decide +kernel
theorem dX8_lamp_61 : decode cX8_lamp 61 = .ok (.iload_n 2, 1) := by decide +kernel
theorem dX8_lamp_62 : decode cX8_lamp 62 = .ok (.iload_n 3, 1) := by decide +kernel
theorem dX8_lamp_63 : decode cX8_lamp 63 = .ok (.invokevirtual 76, 3) := by decide +kernel
theorem dX8_lamp_66 : decode cX8_lamp 66 = .ok (.aload 4, 2) := by decide +kernel
theorem dX8_lamp_68 : decode cX8_lamp 68 = .ok (.getfield 79, 3) := by decide +kernel
theorem dX8_lamp_71 : decode cX8_lamp 71 = .ok (.ireturn, 1) := by decide +kernel
set_option maxRecDepth 20000 in
theorem ggX8_remove_X3_thingsOf : GoodIn wsX8_remove wsX3_thingsOf := goodIn_r _ [9, 10, 11, 12, 122, 123, 124, 125, 126, 127, 128, 129] (by decide +kernel) (by decide +kernel)
set_option maxRecDepth 20000 in
theorem gX8_remove_X3_thingsOf : GoodIn wsX8_remove (wsV RX8 80 RX3 yX3_thingsOf wsX3_thingsOf) := goodIn_app (goodIn_of _ (by decide +kernel)) ggX8_remove_X3_thingsOf
set_option maxRecDepth 20000 in
theorem ggX8_remove_X8_presentAt : GoodIn wsX8_remove wsX8_presentAt := goodIn_r _ [16, 3, 99, 100, 101, 102, 103, 104, 105, 106, 107, 108, 109, 110, 111, 112, 113, 114, 115, 116, 117, 118, 119, 120, 121] (by decide +kernel) (by decide +kernel)
set_option maxRecDepth 20000 in
theorem gX8_remove_X8_presentAt : GoodIn wsX8_remove (va_wsS RX8 84 yX8_presentAt wsX8_presentAt) := goodIn_app (goodIn_of _ (by decide +kernel)) ggX8_remove_X8_presentAt
set_option maxRecDepth 20000 in
theorem ggX8_remove_X0_keep : GoodIn wsX8_remove wsX0_keep := goodIn_r _ [21, 22, 23, 24, 25, 26, 20, 27, 28, 29, 30, 8, 31, 10, 11, 12, 32, 33, 34, 35, 36, 37, 38, 39, 40, 41, 42, 43, 44, 45, 46, 47, 48, 49, 50, 51, 52, 53, 54, 55, 56, 15, 57, 58, 59, 60, 61, 62, 63, 64, 65, 66, 67, 68, 69, 70, 71, 72, 73, 74, 75, 76, 77, 78, 79, 80, 81, 82, 83, 84, 85, 86, 87, 88, 89, 90, 91, 92, 130, 131, 122, 123, 124, 125, 126, 127, 128, 129, 112, 113, 114, 115, 116, 117, 118, 119, 120, 121, 99, 100, 101, 102, 103, 104, 105, 106, 107, 108, 109, 110, 111, 132, 133, 134, 135, 136, 137, 138] (by decide +kernel) (by decide +kernel)
set_option maxRecDepth 20000 in
theorem gX8_remove_X0_keep : GoodIn wsX8_remove (wsV RX8 48 RX0 yX0_keep wsX0_keep) := goodIn_app (goodIn_of _ (by decide +kernel)) ggX8_remove_X0_keep
theorem dX8_remove_0 : decode cX8_remove 0 = .ok (.aload_n 0, 1) := by decide +kernel
theorem dX8_remove_1 : decode cX8_remove 1 = .ok (.getfield 10, 3) := by decide +kernel
theorem dX8_remove_4 : decode cX8_remove 4 = .ok (.iload_n 1, 1) := by decide +kernel
theorem dX8_remove_5 : decode cX8_remove 5 = .ok (.invokevirtual 80, 3) := by decide +kernel
theorem dX8_remove_8 : decode cX8_remove 8 = .ok (.astore_n 3, 1) := by decide +kernel
theorem dX8_remove_9 : decode cX8_remove 9 = .ok (.aload_n 3, 1) := by decide +kernel
theorem dX8_remove_10 : decode cX8_remove 10 = .ok (.ifnonnull 6, 3) := by decide +kernel
theorem dX8_remove_13 : decode cX8_remove 13 = .ok (.bipush (-2), 2) := by decide +kernel
theorem dX8_remove_15 : decode cX8_remove 15 = .ok (.ireturn, 1) := by decide +kernel
theorem dX8_remove_16 : decode cX8_remove 16 = .ok (.aload_n 3, 1) := by decide +kernel
theorem dX8_remove_17 : decode cX8_remove 17 = .ok (.iload_n 2, 1) := by decide +kernel
theorem dX8_remove_18 : decode cX8_remove 18 = .ok (.invokestatic 84, 3) := by decide +kernel
theorem dX8_remove_21 : decode cX8_remove 21 = .ok (.astore 4, 2) := by decide +kernel
theorem dX8_remove_23 : decode cX8_remove 23 = .ok (.aload 4, 2) := by decide +kernel
theorem dX8_remove_25 : decode cX8_remove 25 = .ok (.ifnonnull 5, 3) := by decide +kernel
theorem dX8_remove_28 : decode cX8_remove 28 = .ok (.iconst (-1), 1) := by decide +kernel
theorem dX8_remove_29 : decode cX8_remove 29 = .ok (.ireturn, 1) := by decide +kernel
theorem dX8_remove_30 : decode cX8_remove 30 = .ok (.aload_n 0, 1) := by decide +kernel
theorem dX8_remove_31 : decode cX8_remove 31 = .ok (.getfield 29, 3) := by decide +kernel
theorem dX8_remove_34 : decode cX8_remove 34 = .ok (.aload_n 0, 1) := by decide +kernel
theorem dX8_remove_35 : decode cX8_remove 35 = .ok (.getfield 10, 3) := by decide +kernel
theorem dX8_remove_38 : decode cX8_remove 38 = .ok (.invokevirtual 48, 3) := by decide +kernel
theorem dX8_remove_41 : decode cX8_remove 41 = .ok (.aload 4, 2) := by decide +kernel
theorem dX8_remove_43 : decode cX8_remove 43 = .ok (.iconst 0, 1) := by decide +kernel
theorem dX8_remove_44 : decode cX8_remove 44 = .ok (.putfield 88, 3) := by decide +kernel
theorem dX8_remove_47 : decode cX8_remove 47 = .ok (.aload 4, 2) := by decide +kernel
theorem dX8_remove_49 : decode cX8_remove 49 = .ok (.getfield 93, 3) := by decide +kernel
theorem dX8_remove_52 : decode cX8_remove 52 = .ok (.ireturn, 1) := by decide +kernel
set_option maxRecDepth 20000 in
theorem ggX8_say_X3_refusalOfWord : GoodIn wsX8_say wsX3_refusalOfWord := goodIn_r _ [7, 8, 9, 10, 6, 11, 12, 13, 14, 15, 16, 17, 18, 19, 20, 21, 22, 23, 24, 25, 26, 117, 118, 119, 120, 121, 122, 123, 124, 125, 126, 127, 128, 129, 130, 131, 132, 133, 134, 135, 136, 137, 138, 139, 140, 141, 142, 143, 144, 145, 146, 147] (by decide +kernel) (by decide +kernel)
set_option maxRecDepth 20000 in
theorem gX8_say_X3_refusalOfWord : GoodIn wsX8_say (wsV RX8 96 RX3 yX3_refusalOfWord wsX3_refusalOfWord) := goodIn_app (goodIn_of _ (by decide +kernel)) ggX8_say_X3_refusalOfWord
set_option maxRecDepth 20000 in
theorem ggX8_say_X0_keep : GoodIn wsX8_say wsX0_keep := goodIn_r _ [31, 32, 33, 34, 35, 36, 30, 37, 38, 39, 40, 6, 41, 12, 42, 43, 44, 45, 46, 47, 48, 49, 50, 23, 51, 26, 25, 52, 53, 54, 55, 56, 57, 58, 59, 60, 61, 62, 63, 64, 65, 15, 66, 67, 68, 69, 70, 71, 72, 73, 74, 75, 76, 77, 78, 79, 80, 81, 82, 83, 84, 85, 86, 87, 88, 89, 90, 91, 92, 93, 94, 95, 96, 97, 98, 99, 100, 101, 148, 149, 117, 118, 119, 120, 121, 122, 123, 124, 138, 139, 140, 141, 142, 143, 144, 145, 146, 147, 125, 126, 127, 128, 129, 130, 131, 132, 133, 134, 135, 136, 137, 150, 151, 152, 153, 154, 155, 156] (by decide +kernel) (by decide +kernel)
set_option maxRecDepth 20000 in
theorem gX8_say_X0_keep : GoodIn wsX8_say (wsV RX8 48 RX0 yX0_keep wsX0_keep) := goodIn_app (goodIn_of _ (by decide +kernel)) ggX8_say_X0_keep
set_option maxRecDepth 20000 in
theorem ggX8_say_X3_giveWord : GoodIn wsX8_say wsX3_giveWord := goodIn_r _ [105, 106, 8, 9, 10, 6, 11, 12, 13, 14, 15, 16, 17, 107, 108, 109, 23, 110, 25, 26, 138, 139, 140, 141, 142, 143, 144, 145, 146, 147, 117, 118, 119, 120, 121, 122, 123, 124, 125, 126, 127, 128, 129, 130, 131, 132, 133, 134, 135, 136, 137] (by decide +kernel) (by decide +kernel)
set_option maxRecDepth 20000 in
theorem gX8_say_X3_giveWord : GoodIn wsX8_say (wsV RX8 100 RX3 yX3_giveWord wsX3_giveWord) := goodIn_app (goodIn_of _ (by decide +kernel)) ggX8_say_X3_giveWord
theorem dX8_say_0 : decode cX8_say 0 = .ok (.aload_n 0, 1) := by decide +kernel
theorem dX8_say_1 : decode cX8_say 1 = .ok (.getfield 10, 3) := by decide +kernel
theorem dX8_say_4 : decode cX8_say 4 = .ok (.iload_n 1, 1) := by decide +kernel
theorem dX8_say_5 : decode cX8_say 5 = .ok (.iload_n 2, 1) := by decide +kernel
theorem dX8_say_6 : decode cX8_say 6 = .ok (.invokevirtual 96, 3) := by decide +kernel
theorem dX8_say_9 : decode cX8_say 9 = .ok (.istore_n 3, 1) := by decide +kernel
theorem dX8_say_10 : decode cX8_say 10 = .ok (.iload_n 3, 1) := by decide +kernel
theorem dX8_say_11 : decode cX8_say 11 = .ok (.ifCond .ge 5, 3) := by decide +kernel
theorem dX8_say_14 : decode cX8_say 14 = .ok (.iload_n 3, 1) := by decide +kernel
theorem dX8_say_15 : decode cX8_say 15 = .ok (.ireturn, 1) := by decide +kernel
theorem dX8_say_16 : decode cX8_say 16 = .ok (.aload_n 0, 1) := by decide +kernel
theorem dX8_say_17 : decode cX8_say 17 = .ok (.getfield 29, 3) := by decide +kernel
theorem dX8_say_20 : decode cX8_say 20 = .ok (.aload_n 0, 1) := by decide +kernel
theorem dX8_say_21 : decode cX8_say 21 = .ok (.getfield 10, 3) := by decide +kernel
theorem dX8_say_24 : decode cX8_say 24 = .ok (.invokevirtual 48, 3) := by decide +kernel
theorem dX8_say_27 : decode cX8_say 27 = .ok (.aload_n 0, 1) := by decide +kernel
theorem dX8_say_28 : decode cX8_say 28 = .ok (.getfield 10, 3) := by decide +kernel
theorem dX8_say_31 : decode cX8_say 31 = .ok (.iload_n 1, 1) := by decide +kernel
theorem dX8_say_32 : decode cX8_say 32 = .ok (.iload_n 2, 1) := by decide +kernel
theorem dX8_say_33 : decode cX8_say 33 = .ok (.invokevirtual 100, 3) := by decide +kernel
theorem dX8_say_36 : decode cX8_say 36 = .ok (.ireturn, 1) := by decide +kernel
set_option maxRecDepth 20000 in
theorem ggX8_run_X3_machineAt : GoodIn wsX8_run wsX3_machineAt := goodIn_r _ [8, 9, 10, 11, 12, 13, 14, 108, 109, 110, 111, 112, 113, 114, 115, 116, 117, 118, 119, 120, 121, 122, 102, 103, 104, 105, 106, 107, 123, 124, 125, 126, 127, 128, 129, 130, 131, 132] (by decide +kernel) (by decide +kernel)
set_option maxRecDepth 20000 in
theorem gX8_run_X3_machineAt : GoodIn wsX8_run (wsV RX8 103 RX3 yX3_machineAt wsX3_machineAt) := goodIn_app (goodIn_of _ (by decide +kernel)) ggX8_run_X3_machineAt
set_option maxRecDepth 20000 in
theorem ggX8_run_X0_keep : GoodIn wsX8_run wsX0_keep := goodIn_r _ [19, 20, 21, 22, 23, 24, 18, 25, 26, 27, 28, 7, 29, 30, 9, 31, 32, 33, 34, 35, 36, 37, 38, 39, 40, 41, 42, 43, 44, 45, 46, 47, 48, 49, 50, 51, 52, 53, 54, 55, 56, 12, 57, 58, 59, 60, 61, 62, 63, 64, 65, 66, 67, 68, 69, 70, 71, 72, 73, 74, 75, 76, 77, 78, 79, 80, 81, 82, 83, 84, 85, 86, 87, 88, 89, 90, 91, 92, 133, 134, 108, 109, 110, 111, 112, 113, 114, 115, 123, 124, 125, 126, 127, 128, 129, 130, 131, 132, 116, 117, 118, 119, 120, 121, 122, 102, 103, 104, 105, 106, 107, 135, 136, 137, 138, 139, 140, 141] (by decide +kernel) (by decide +kernel)
set_option maxRecDepth 20000 in
theorem gX8_run_X0_keep : GoodIn wsX8_run (wsV RX8 48 RX0 yX0_keep wsX0_keep) := goodIn_app (goodIn_of _ (by decide +kernel)) ggX8_run_X0_keep
set_option maxRecDepth 20000 in
theorem ggX8_run_X8_asNumber : GoodIn wsX8_run wsX8_asNumber := goodIn_r _ [95] (by decide +kernel) (by decide +kernel)
set_option maxRecDepth 20000 in
theorem gX8_run_X8_asNumber : GoodIn wsX8_run (va_wsS RX8 110 yX8_asNumber wsX8_asNumber) := goodIn_app (goodIn_of _ (by decide +kernel)) ggX8_run_X8_asNumber
theorem dX8_run_0 : decode cX8_run 0 = .ok (.aload_n 0, 1) := by decide +kernel
theorem dX8_run_1 : decode cX8_run 1 = .ok (.getfield 10, 3) := by decide +kernel
theorem dX8_run_4 : decode cX8_run 4 = .ok (.iload_n 1, 1) := by decide +kernel
theorem dX8_run_5 : decode cX8_run 5 = .ok (.invokevirtual 103, 3) := by decide +kernel
theorem dX8_run_8 : decode cX8_run 8 = .ok (.astore_n 3, 1) := by decide +kernel
theorem dX8_run_9 : decode cX8_run 9 = .ok (.aload_n 3, 1) := by decide +kernel
theorem dX8_run_10 : decode cX8_run 10 = .ok (.ifnonnull 5, 3) := by decide +kernel
theorem dX8_run_13 : decode cX8_run 13 = .ok (.iconst (-1), 1) := by decide +kernel
theorem dX8_run_14 : decode cX8_run 14 = .ok (.ireturn, 1) := by decide +kernel
theorem dX8_run_15 : decode cX8_run 15 = .ok (.aload_n 0, 1) := by decide +kernel
theorem dX8_run_16 : decode cX8_run 16 = .ok (.getfield 29, 3) := by decide +kernel
theorem dX8_run_19 : decode cX8_run 19 = .ok (.aload_n 0, 1) := by decide +kernel
theorem dX8_run_20 : decode cX8_run 20 = .ok (.getfield 10, 3) := by decide +kernel
theorem dX8_run_23 : decode cX8_run 23 = .ok (.invokevirtual 48, 3) := by decide +kernel
theorem dX8_run_26 : decode cX8_run 26 = .ok (.aload_n 3, 1) := by decide +kernel
theorem dX8_run_27 : decode cX8_run 27 = .ok (.getfield 107, 3) := by decide +kernel
theorem dX8_run_30 : decode cX8_run 30 = .ok (.invokestatic 110, 3) := by decide +kernel
theorem dX8_run_33 : decode cX8_run 33 = .ok (.istore 4, 2) := by decide +kernel
theorem dX8_run_35 : decode cX8_run 35 = .ok (.aload_n 3, 1) := by decide +kernel
theorem dX8_run_36 : decode cX8_run 36 = .ok (.iload_n 2, 1) := by decide +kernel
theorem dX8_run_37 : decode cX8_run 37 = .ok (.putfield 107, 3) := by decide +kernel
theorem dX8_run_40 : decode cX8_run 40 = .ok (.iload 4, 2) := by decide +kernel
theorem dX8_run_42 : decode cX8_run 42 = .ok (.ireturn, 1) := by decide +kernel
set_option maxRecDepth 20000 in
theorem ggX8_set_X0_keep : GoodIn wsX8_set wsX0_keep := goodIn_r _ [10, 11, 12, 13, 14, 15, 9, 16, 17, 18, 19, 20, 21, 22, 23, 24, 25, 26, 27, 28, 29, 30, 31, 32, 33, 34, 35, 36, 37, 38, 39, 40, 41, 42, 43, 44, 45, 46, 47, 48, 49, 50, 51, 52, 53, 54, 55, 56, 57, 58, 59, 60, 61, 62, 63, 64, 65, 66, 67, 68, 69, 70, 71, 72, 73, 74, 75, 76, 77, 78, 79, 80, 81, 82, 83, 84, 85, 86, 101, 102, 93, 94, 95, 96, 97, 98, 99, 100, 103, 104, 105, 106, 107, 108, 109, 110, 111, 112, 113, 114, 115, 116, 117, 118, 119, 120, 121, 122, 123, 124, 125, 126, 127, 128, 129, 130, 131, 132] (by decide +kernel) (by decide +kernel)
set_option maxRecDepth 20000 in
theorem gX8_set_X0_keep : GoodIn wsX8_set (wsV RX8 48 RX0 yX0_keep wsX0_keep) := goodIn_app (goodIn_of _ (by decide +kernel)) ggX8_set_X0_keep
theorem dX8_set_0 : decode cX8_set 0 = .ok (.iload_n 1, 1) := by decide +kernel
theorem dX8_set_1 : decode cX8_set 1 = .ok (.ifCond .lt 8, 3) := by decide +kernel
theorem dX8_set_4 : decode cX8_set 4 = .ok (.iload_n 1, 1) := by decide +kernel
theorem dX8_set_5 : decode cX8_set 5 = .ok (.iconst 4, 1) := by decide +kernel
theorem dX8_set_6 : decode cX8_set 6 = .ok (.if_icmp .lt 5, 3) := by decide +kernel
theorem dX8_set_9 : decode cX8_set 9 = .ok (.iconst (-1), 1) := by decide +kernel
theorem dX8_set_10 : decode cX8_set 10 = .ok (.ireturn, 1) := by decide +kernel
theorem dX8_set_11 : decode cX8_set 11 = .ok (.iload_n 2, 1) := by decide +kernel
theorem dX8_set_12 : decode cX8_set 12 = .ok (.getstatic 114, 3) := by decide +kernel
theorem dX8_set_15 : decode cX8_set 15 = .ok (.iload_n 1, 1) := by decide +kernel
theorem dX8_set_16 : decode cX8_set 16 = .ok (.iaload, 1) := by decide +kernel
theorem dX8_set_17 : decode cX8_set 17 = .ok (.if_icmp .lt 12, 3) := by decide +kernel
theorem dX8_set_20 : decode cX8_set 20 = .ok (.iload_n 2, 1) := by decide +kernel
theorem dX8_set_21 : decode cX8_set 21 = .ok (.getstatic 118, 3) := by decide +kernel
theorem dX8_set_24 : decode cX8_set 24 = .ok (.iload_n 1, 1) := by decide +kernel
theorem dX8_set_25 : decode cX8_set 25 = .ok (.iaload, 1) := by decide +kernel
theorem dX8_set_26 : decode cX8_set 26 = .ok (.if_icmp .le 6, 3) := by decide +kernel
theorem dX8_set_29 : decode cX8_set 29 = .ok (.bipush (-2), 2) := by decide +kernel
theorem dX8_set_31 : decode cX8_set 31 = .ok (.ireturn, 1) := by decide +kernel
theorem dX8_set_32 : decode cX8_set 32 = .ok (.aload_n 0, 1) := by decide +kernel
theorem dX8_set_33 : decode cX8_set 33 = .ok (.getfield 29, 3) := by decide +kernel
theorem dX8_set_36 : decode cX8_set 36 = .ok (.aload_n 0, 1) := by decide +kernel
theorem dX8_set_37 : decode cX8_set 37 = .ok (.getfield 10, 3) := by decide +kernel
theorem dX8_set_40 : decode cX8_set 40 = .ok (.invokevirtual 48, 3) := by decide +kernel
theorem dX8_set_43 : decode cX8_set 43 = .ok (.aload_n 0, 1) := by decide +kernel
theorem dX8_set_44 : decode cX8_set 44 = .ok (.getfield 10, 3) := by decide +kernel
theorem dX8_set_47 : decode cX8_set 47 = .ok (.getfield 121, 3) := by decide +kernel
theorem dX8_set_50 : decode cX8_set 50 = .ok (.iload_n 1, 1) := by decide +kernel
theorem dX8_set_51 : decode cX8_set 51 = .ok (.iaload, 1) := by decide +kernel
theorem dX8_set_52 : decode cX8_set 52 = .ok (.istore_n 3, 1) := by decide +kernel
theorem dX8_set_53 : decode cX8_set 53 = .ok (.aload_n 0, 1) := by decide +kernel
theorem dX8_set_54 : decode cX8_set 54 = .ok (.getfield 10, 3) := by decide +kernel
theorem dX8_set_57 : decode cX8_set 57 = .ok (.getfield 121, 3) := by decide +kernel
theorem dX8_set_60 : decode cX8_set 60 = .ok (.iload_n 1, 1) := by decide +kernel
theorem dX8_set_61 : decode cX8_set 61 = .ok (.iload_n 2, 1) := by decide +kernel
theorem dX8_set_62 : decode cX8_set 62 = .ok (.iastore, 1) := by decide +kernel
theorem dX8_set_63 : decode cX8_set 63 = .ok (.iload_n 3, 1) := by decide +kernel
theorem dX8_set_64 : decode cX8_set 64 = .ok (.ireturn, 1) := by decide +kernel
set_option maxRecDepth 20000 in
theorem ggX8_pass_X0_keep : GoodIn wsX8_pass wsX0_keep := goodIn_r _ [7, 8, 9, 10, 11, 12, 6, 13, 14, 15, 16, 17, 18, 19, 20, 21, 22, 23, 24, 25, 26, 27, 28, 29, 30, 31, 32, 33, 34, 35, 36, 37, 38, 39, 40, 41, 42, 43, 44, 45, 46, 47, 48, 49, 50, 51, 52, 53, 54, 55, 56, 57, 58, 59, 60, 61, 62, 63, 64, 65, 66, 67, 68, 69, 70, 71, 72, 73, 74, 75, 76, 77, 78, 79, 80, 81, 82, 83, 233, 234, 235, 236, 237, 238, 239, 240, 241, 242, 243, 244, 245, 246, 247, 248, 249, 250, 251, 252, 253, 254, 255, 256, 257, 258, 259, 260, 261, 262, 263, 264, 265, 266, 267, 268, 269, 270, 271, 272] (by decide +kernel) (by decide +kernel)
set_option maxRecDepth 20000 in
theorem gX8_pass_X0_keep : GoodIn wsX8_pass (wsV RX8 48 RX0 yX0_keep wsX0_keep) := goodIn_app (goodIn_of _ (by decide +kernel)) ggX8_pass_X0_keep
set_option maxRecDepth 20000 in
theorem ggX8_pass_X3_letPass : GoodIn wsX8_pass wsX3_letPass := goodIn_r _ [87, 88, 89, 90, 17, 91, 25, 92, 93, 94, 95, 19, 96, 97, 98, 99, 100, 101, 102, 103, 22, 104, 105, 106, 75, 107, 77, 78, 108, 109, 110, 29, 111, 34, 37, 32, 35, 36, 112, 113, 114, 115, 116, 117, 20, 118, 119, 120, 121, 122, 123, 124, 125, 126, 127, 128, 129, 31, 130, 47, 131, 132, 133, 134, 135, 23, 136, 137, 138, 139, 140, 141, 142, 52, 143, 144, 145, 56, 55, 146, 147, 148, 149, 24, 150, 151, 152, 153, 154, 155, 156, 157, 158, 159, 160, 161, 162, 163, 164, 165, 166, 167, 168, 169, 170, 171, 172, 173, 174, 175, 176, 177, 178, 179, 180, 181, 182, 183, 184, 185, 186, 79, 80, 187, 188, 189, 190, 191, 192, 193, 194, 195, 196, 197, 198, 21, 199, 200, 201, 202, 81, 82, 203, 204, 205, 63, 206, 207, 208, 209, 210, 65, 211, 212, 213, 214, 83, 215, 216, 217, 218, 66, 68, 67, 219, 220, 221, 222, 223, 224, 225, 226, 235, 236, 237, 238, 239, 240, 241, 242, 253, 254, 255, 256, 257, 258, 259, 260, 261, 262, 263, 264, 265, 243, 244, 245, 246, 247, 248, 249, 250, 251, 252, 266, 267, 268, 269, 270, 271, 272] (by decide +kernel) (by decide +kernel)
set_option maxRecDepth 20000 in
theorem gX8_pass_X3_letPass : GoodIn wsX8_pass (wsV RX8 124 RX3 yX3_letPass wsX3_letPass) := goodIn_app (goodIn_of _ (by decide +kernel)) ggX8_pass_X3_letPass
theorem dX8_pass_0 : decode cX8_pass 0 = .ok (.iload_n 1, 1) := by decide +kernel
theorem dX8_pass_1 : decode cX8_pass 1 = .ok (.iconst 1, 1) := by decide +kernel
theorem dX8_pass_2 : decode cX8_pass 2 = .ok (.if_icmp .lt 9, 3) := by decide +kernel
theorem dX8_pass_5 : decode cX8_pass 5 = .ok (.iload_n 1, 1) := by decide +kernel
theorem dX8_pass_6 : decode cX8_pass 6 = .ok (.bipush 99, 2) := by decide +kernel
theorem dX8_pass_8 : decode cX8_pass 8 = .ok (.if_icmp .le 6, 3) := by decide +kernel
theorem dX8_pass_11 : decode cX8_pass 11 = .ok (.bipush (-2), 2) := by decide +kernel
theorem dX8_pass_13 : decode cX8_pass 13 = .ok (.ireturn, 1) := by decide +kernel
theorem dX8_pass_14 : decode cX8_pass 14 = .ok (.aload_n 0, 1) := by decide +kernel
theorem dX8_pass_15 : decode cX8_pass 15 = .ok (.getfield 29, 3) := by decide +kernel
theorem dX8_pass_18 : decode cX8_pass 18 = .ok (.aload_n 0, 1) := by decide +kernel
theorem dX8_pass_19 : decode cX8_pass 19 = .ok (.getfield 10, 3) := by decide +kernel
theorem dX8_pass_22 : decode cX8_pass 22 = .ok (.invokevirtual 48, 3) := by decide +kernel
theorem dX8_pass_25 : decode cX8_pass 25 = .ok (.aload_n 0, 1) := by decide +kernel
theorem dX8_pass_26 : decode cX8_pass 26 = .ok (.getfield 10, 3) := by decide +kernel
theorem dX8_pass_29 : decode cX8_pass 29 = .ok (.iload_n 1, 1) := by decide +kernel
theorem dX8_pass_30 : decode cX8_pass 30 = .ok (.invokevirtual 124, 3) := by decide +kernel
theorem dX8_pass_33 : decode cX8_pass 33 = .ok (.ireturn, 1) := by decide +kernel
set_option maxRecDepth 20000 in
theorem ggX8_undo_X0_isEmpty : GoodIn wsX8_undo wsX0_isEmpty := goodIn_r _ [8, 9, 91, 92] (by decide +kernel) (by decide +kernel)
set_option maxRecDepth 20000 in
theorem gX8_undo_X0_isEmpty : GoodIn wsX8_undo (wsV RX8 155 RX0 yX0_isEmpty wsX0_isEmpty) := goodIn_app (goodIn_of _ (by decide +kernel)) ggX8_undo_X0_isEmpty
set_option maxRecDepth 20000 in
theorem ggX8_undo_X0_takeBack : GoodIn wsX8_undo wsX0_takeBack := goodIn_r _ [13, 9, 14, 15, 16, 17, 18, 19, 20, 21, 22, 23, 24, 25, 26, 27, 28, 29, 30, 31, 32, 33, 34, 35, 36, 37, 38, 39, 40, 41, 42, 43, 44, 45, 46, 47, 48, 49, 50, 51, 52, 53, 54, 55, 56, 57, 58, 59, 60, 61, 62, 63, 64, 65, 66, 67, 68, 69, 70, 71, 72, 73, 74, 75, 76, 77, 78, 79, 80, 81, 82, 83, 84, 91, 92, 93, 94, 95, 96, 97, 98, 99, 100, 101, 102, 103, 104, 105, 106, 107, 108, 109, 110, 111, 112, 113, 114, 115, 116, 117, 118, 119, 120, 121, 122, 123, 124, 125, 126, 127, 128, 129, 130] (by decide +kernel) (by decide +kernel)
set_option maxRecDepth 20000 in
theorem gX8_undo_X0_takeBack : GoodIn wsX8_undo (wsV RX8 158 RX0 yX0_takeBack wsX0_takeBack) := goodIn_app (goodIn_of _ (by decide +kernel)) ggX8_undo_X0_takeBack
theorem dX8_undo_0 : decode cX8_undo 0 = .ok (.aload_n 0, 1) := by decide +kernel
theorem dX8_undo_1 : decode cX8_undo 1 = .ok (.getfield 29, 3) := by decide +kernel
theorem dX8_undo_4 : decode cX8_undo 4 = .ok (.invokevirtual 155, 3) := by decide +kernel
theorem dX8_undo_7 : decode cX8_undo 7 = .ok (.ifCond .eq 6, 3) := by decide +kernel
theorem dX8_undo_10 : decode cX8_undo 10 = .ok (.bipush (-5), 2) := by decide +kernel
theorem dX8_undo_12 : decode cX8_undo 12 = .ok (.ireturn, 1) := by decide +kernel
theorem dX8_undo_13 : decode cX8_undo 13 = .ok (.aload_n 0, 1) := by decide +kernel
theorem dX8_undo_14 : decode cX8_undo 14 = .ok (.getfield 29, 3) := by decide +kernel
theorem dX8_undo_17 : decode cX8_undo 17 = .ok (.aload_n 0, 1) := by decide +kernel
theorem dX8_undo_18 : decode cX8_undo 18 = .ok (.getfield 10, 3) := by decide +kernel
theorem dX8_undo_21 : decode cX8_undo 21 = .ok (.invokevirtual 158, 3) := by decide +kernel
theorem dX8_undo_24 : decode cX8_undo 24 = .ok (.aload_n 0, 1) := by decide +kernel
theorem dX8_undo_25 : decode cX8_undo 25 = .ok (.getfield 29, 3) := by decide +kernel
theorem dX8_undo_28 : decode cX8_undo 28 = .ok (.getfield 161, 3) := by decide +kernel
theorem dX8_undo_31 : decode cX8_undo 31 = .ok (.ireturn, 1) := by decide +kernel
set_option maxRecDepth 20000 in
theorem ggX8_save_X3_copyFrom : GoodIn wsX8_save wsX3_copyFrom := goodIn_r _ [9, 10, 11, 12, 13, 14, 15, 16, 17, 18, 19, 20, 21, 22, 23, 24, 25, 26, 27, 28, 29, 30, 31, 32, 33, 34, 35, 36, 37, 38, 39, 40, 41, 42, 43, 44, 45, 46, 47, 48, 49, 50, 51, 52, 53, 54, 55, 56, 57, 58, 59, 60, 61, 62, 63, 64, 65, 66, 67, 68, 69, 70, 71, 72, 73, 74, 81, 82, 83, 84, 85, 86, 87, 88, 89, 90, 91, 92, 93, 94, 95, 96, 97, 98, 99, 100, 101, 102, 103, 104, 105, 106, 107, 108, 109, 110, 111, 112, 113, 114, 115, 116, 117, 118] (by decide +kernel) (by decide +kernel)
set_option maxRecDepth 20000 in
theorem gX8_save_X3_copyFrom : GoodIn wsX8_save (wsV RX8 164 RX3 yX3_copyFrom wsX3_copyFrom) := goodIn_app (goodIn_of _ (by decide +kernel)) ggX8_save_X3_copyFrom
theorem dX8_save_0 : decode cX8_save 0 = .ok (.aload_n 0, 1) := by decide +kernel
theorem dX8_save_1 : decode cX8_save 1 = .ok (.getfield 19, 3) := by decide +kernel
theorem dX8_save_4 : decode cX8_save 4 = .ok (.aload_n 0, 1) := by decide +kernel
theorem dX8_save_5 : decode cX8_save 5 = .ok (.getfield 10, 3) := by decide +kernel
theorem dX8_save_8 : decode cX8_save 8 = .ok (.invokevirtual 164, 3) := by decide +kernel
theorem dX8_save_11 : decode cX8_save 11 = .ok (.aload_n 0, 1) := by decide +kernel
theorem dX8_save_12 : decode cX8_save 12 = .ok (.iconst 1, 1) := by decide +kernel
theorem dX8_save_13 : decode cX8_save 13 = .ok (.putfield 22, 3) := by decide +kernel
theorem dX8_save_16 : decode cX8_save 16 = .ok (.aload_n 0, 1) := by decide +kernel
theorem dX8_save_17 : decode cX8_save 17 = .ok (.getfield 10, 3) := by decide +kernel
theorem dX8_save_20 : decode cX8_save 20 = .ok (.getfield 167, 3) := by decide +kernel
theorem dX8_save_23 : decode cX8_save 23 = .ok (.ireturn, 1) := by decide +kernel
set_option maxRecDepth 20000 in
theorem ggX8_restore_X0_keep : GoodIn wsX8_restore wsX0_keep := goodIn_r _ [10, 11, 12, 13, 14, 15, 9, 16, 17, 18, 19, 20, 21, 22, 23, 24, 25, 26, 27, 28, 29, 30, 31, 32, 33, 34, 35, 36, 37, 38, 39, 40, 41, 42, 43, 44, 45, 46, 47, 48, 49, 50, 51, 52, 53, 54, 55, 56, 57, 58, 59, 60, 61, 62, 63, 64, 65, 66, 67, 68, 69, 70, 71, 72, 73, 74, 75, 76, 77, 78, 79, 80, 81, 82, 83, 84, 85, 86, 102, 103, 94, 95, 96, 97, 98, 99, 100, 101, 104, 105, 106, 107, 108, 109, 110, 111, 112, 113, 114, 115, 116, 117, 118, 119, 120, 121, 122, 123, 124, 125, 126, 127, 128, 129, 130, 131, 132, 133] (by decide +kernel) (by decide +kernel)
set_option maxRecDepth 20000 in
theorem gX8_restore_X0_keep : GoodIn wsX8_restore (wsV RX8 48 RX0 yX0_keep wsX0_keep) := goodIn_app (goodIn_of _ (by decide +kernel)) ggX8_restore_X0_keep
set_option maxRecDepth 20000 in
theorem ggX8_restore_X3_copyFrom : GoodIn wsX8_restore wsX3_copyFrom := goodIn_r _ [21, 22, 23, 24, 25, 26, 27, 28, 29, 30, 31, 32, 33, 34, 35, 36, 37, 38, 39, 40, 41, 42, 43, 44, 45, 46, 47, 48, 49, 50, 51, 52, 53, 54, 55, 56, 57, 58, 59, 60, 61, 62, 63, 64, 65, 66, 67, 68, 69, 70, 71, 72, 73, 74, 75, 76, 77, 78, 79, 80, 81, 82, 83, 84, 85, 86, 94, 95, 96, 97, 98, 99, 100, 101, 104, 105, 106, 107, 108, 109, 110, 111, 112, 113, 114, 115, 116, 117, 118, 119, 120, 121, 122, 123, 124, 125, 126, 127, 128, 129, 130, 131, 132, 133] (by decide +kernel) (by decide +kernel)
set_option maxRecDepth 20000 in
theorem gX8_restore_X3_copyFrom : GoodIn wsX8_restore (wsV RX8 164 RX3 yX3_copyFrom wsX3_copyFrom) := goodIn_app (goodIn_of _ (by decide +kernel)) ggX8_restore_X3_copyFrom
theorem dX8_restore_0 : decode cX8_restore 0 = .ok (.aload_n 0, 1) := by decide +kernel
theorem dX8_restore_1 : decode cX8_restore 1 = .ok (.getfield 22, 3) := by decide +kernel
theorem dX8_restore_4 : decode cX8_restore 4 = .ok (.ifCond .ne 6, 3) := by decide +kernel
theorem dX8_restore_7 : decode cX8_restore 7 = .ok (.bipush (-4), 2) := by decide +kernel
theorem dX8_restore_9 : decode cX8_restore 9 = .ok (.ireturn, 1) := by decide +kernel
theorem dX8_restore_10 : decode cX8_restore 10 = .ok (.aload_n 0, 1) := by decide +kernel
theorem dX8_restore_11 : decode cX8_restore 11 = .ok (.getfield 29, 3) := by decide +kernel
theorem dX8_restore_14 : decode cX8_restore 14 = .ok (.aload_n 0, 1) := by decide +kernel
theorem dX8_restore_15 : decode cX8_restore 15 = .ok (.getfield 10, 3) := by decide +kernel
theorem dX8_restore_18 : decode cX8_restore 18 = .ok (.invokevirtual 48, 3) := by decide +kernel
theorem dX8_restore_21 : decode cX8_restore 21 = .ok (.aload_n 0, 1) := by decide +kernel
theorem dX8_restore_22 : decode cX8_restore 22 = .ok (.getfield 10, 3) := by decide +kernel
theorem dX8_restore_25 : decode cX8_restore 25 = .ok (.aload_n 0, 1) := by decide +kernel
theorem dX8_restore_26 : decode cX8_restore 26 = .ok (.getfield 19, 3) := by decide +kernel
theorem dX8_restore_29 : decode cX8_restore 29 = .ok (.invokevirtual 164, 3) := by decide +kernel
theorem dX8_restore_32 : decode cX8_restore 32 = .ok (.aload_n 0, 1) := by decide +kernel
theorem dX8_restore_33 : decode cX8_restore 33 = .ok (.getfield 10, 3) := by decide +kernel
theorem dX8_restore_36 : decode cX8_restore 36 = .ok (.getfield 167, 3) := by decide +kernel
theorem dX8_restore_39 : decode cX8_restore 39 = .ok (.ireturn, 1) := by decide +kernel
set_option maxRecDepth 20000 in
theorem ggX8_senderOf_X3_senderAt : GoodIn wsX8_senderOf wsX3_senderAt := goodIn_r _ [14, 15, 16, 17, 18, 19, 20, 59, 60, 61, 62, 63, 64, 65, 66, 36, 37, 38, 39, 40, 41, 42, 43, 44, 45, 46, 47, 48, 49, 50, 51, 52, 53, 54, 55, 56, 57, 58] (by decide +kernel) (by decide +kernel)
set_option maxRecDepth 20000 in
theorem gX8_senderOf_X3_senderAt : GoodIn wsX8_senderOf (wsV RX8 170 RX3 yX3_senderAt wsX3_senderAt) := goodIn_app (goodIn_of _ (by decide +kernel)) ggX8_senderOf_X3_senderAt
set_option maxRecDepth 20000 in
theorem ggX8_senderOf_X6_bitToSend : GoodIn wsX8_senderOf wsX6_bitToSend := goodIn_r _ [25, 26, 27, 28, 18, 29, 49, 50, 51, 52, 53, 54, 55, 56, 57, 58] (by decide +kernel) (by decide +kernel)
set_option maxRecDepth 20000 in
theorem gX8_senderOf_X6_bitToSend : GoodIn wsX8_senderOf (wsV RX8 193 RX6 yX6_bitToSend wsX6_bitToSend) := goodIn_app (goodIn_of _ (by decide +kernel)) ggX8_senderOf_X6_bitToSend
theorem dX8_senderOf_0 : decode cX8_senderOf 0 = .ok (.aload_n 0, 1) := by decide +kernel
theorem dX8_senderOf_1 : decode cX8_senderOf 1 = .ok (.getfield 10, 3) := by decide +kernel
theorem dX8_senderOf_4 : decode cX8_senderOf 4 = .ok (.iload_n 1, 1) := by decide +kernel
theorem dX8_senderOf_5 : decode cX8_senderOf 5 = .ok (.invokevirtual 170, 3) := by decide +kernel
theorem dX8_senderOf_8 : decode cX8_senderOf 8 = .ok (.astore_n 3, 1) := by decide +kernel
theorem dX8_senderOf_9 : decode cX8_senderOf 9 = .ok (.aload_n 3, 1) := by decide +kernel
theorem dX8_senderOf_10 : decode cX8_senderOf 10 = .ok (.ifnonnull 5, 3) := by decide +kernel
theorem dX8_senderOf_13 : decode cX8_senderOf 13 = .ok (.iconst (-1), 1) := by decide +kernel
theorem dX8_senderOf_14 : decode cX8_senderOf 14 = .ok (.ireturn, 1) := by decide +kernel
theorem dX8_senderOf_15 : decode cX8_senderOf 15 = .ok (.iload_n 2, 1) := by decide +kernel
theorem dX8_senderOf_16 : decode cX8_senderOf 16 = .ok (.tableswitch 115 0 6 #[44, 49, 54, 59, 76, 93, 98], 44) := by decide +kernel
theorem dX8_senderOf_60 : decode cX8_senderOf 60 = .ok (.aload_n 3, 1) := by decide +kernel
theorem dX8_senderOf_61 : decode cX8_senderOf 61 = .ok (.getfield 174, 3) := by decide +kernel
theorem dX8_senderOf_64 : decode cX8_senderOf 64 = .ok (.ireturn, 1) := by decide +kernel
theorem dX8_senderOf_65 : decode cX8_senderOf 65 = .ok (.aload_n 3, 1) := by decide +kernel
theorem dX8_senderOf_66 : decode cX8_senderOf 66 = .ok (.getfield 175, 3) := by decide +kernel
theorem dX8_senderOf_69 : decode cX8_senderOf 69 = .ok (.ireturn, 1) := by decide +kernel
theorem dX8_senderOf_70 : decode cX8_senderOf 70 = .ok (.aload_n 3, 1) := by decide +kernel
theorem dX8_senderOf_71 : decode cX8_senderOf 71 = .ok (.getfield 178, 3) := by decide +kernel
theorem dX8_senderOf_74 : decode cX8_senderOf 74 = .ok (.ireturn, 1) := by decide +kernel
theorem dX8_senderOf_75 : decode cX8_senderOf 75 = .ok (.aload_n 3, 1) := by decide +kernel
theorem dX8_senderOf_76 : decode cX8_senderOf 76 = .ok (.getfield 181, 3) := by decide +kernel
theorem dX8_senderOf_79 : decode cX8_senderOf 79 = .ok (.ifCond .eq 10, 3) := by decide +kernel
theorem dX8_senderOf_82 : decode cX8_senderOf 82 = .ok (.aload_n 3, 1) := by decide +kernel
theorem dX8_senderOf_83 : decode cX8_senderOf 83 = .ok (.getfield 184, 3) := by decide +kernel
theorem dX8_senderOf_86 : decode cX8_senderOf 86 = .ok (.goto 5, 3) := by decide +kernel
theorem dX8_senderOf_89 : decode cX8_senderOf 89 = .ok (.bipush (-5), 2) := by decide +kernel
theorem dX8_senderOf_91 : decode cX8_senderOf 91 = .ok (.ireturn, 1) := by decide +kernel
theorem dX8_senderOf_92 : decode cX8_senderOf 92 = .ok (.aload_n 3, 1) := by decide +kernel
theorem dX8_senderOf_93 : decode cX8_senderOf 93 = .ok (.getfield 181, 3) := by decide +kernel
theorem dX8_senderOf_96 : decode cX8_senderOf 96 = .ok (.ifCond .eq 10, 3) := by decide +kernel
theorem dX8_senderOf_99 : decode cX8_senderOf 99 = .ok (.aload_n 3, 1) := by decide +kernel
theorem dX8_senderOf_100 : decode cX8_senderOf 100 = .ok (.getfield 187, 3) := by decide +kernel
theorem dX8_senderOf_103 : decode cX8_senderOf 103 = .ok (.goto 5, 3) := by decide +kernel
theorem dX8_senderOf_106 : decode cX8_senderOf 106 = .ok (.bipush (-5), 2) := by decide +kernel
theorem dX8_senderOf_108 : decode cX8_senderOf 108 = .ok (.ireturn, 1) := by decide +kernel
theorem dX8_senderOf_109 : decode cX8_senderOf 109 = .ok (.aload_n 3, 1) := by decide +kernel
theorem dX8_senderOf_110 : decode cX8_senderOf 110 = .ok (.getfield 190, 3) := by decide +kernel
theorem dX8_senderOf_113 : decode cX8_senderOf 113 = .ok (.ireturn, 1) := by decide +kernel
theorem dX8_senderOf_114 : decode cX8_senderOf 114 = .ok (.aload_n 3, 1) := by decide +kernel
theorem dX8_senderOf_115 : decode cX8_senderOf 115 = .ok (.getfield 181, 3) := by decide +kernel
theorem dX8_senderOf_118 : decode cX8_senderOf 118 = .ok (.ifCond .eq 10, 3) := by decide +kernel
theorem dX8_senderOf_121 : decode cX8_senderOf 121 = .ok (.aload_n 3, 1) := by decide +kernel
theorem dX8_senderOf_122 : decode cX8_senderOf 122 = .ok (.invokevirtual 193, 3) := by decide +kernel
theorem dX8_senderOf_125 : decode cX8_senderOf 125 = .ok (.goto 5, 3) := by decide +kernel
theorem dX8_senderOf_128 : decode cX8_senderOf 128 = .ok (.bipush (-5), 2) := by decide +kernel
theorem dX8_senderOf_130 : decode cX8_senderOf 130 = .ok (.ireturn, 1) := by decide +kernel
theorem dX8_senderOf_131 : decode cX8_senderOf 131 = .ok (.bipush (-2), 2) := by decide +kernel
theorem dX8_senderOf_133 : decode cX8_senderOf 133 = .ok (.ireturn, 1) := by decide +kernel
set_option maxRecDepth 20000 in
theorem ggX8_queued_X3_senderAt : GoodIn wsX8_queued wsX3_senderAt := goodIn_r _ [6, 7, 8, 9, 10, 11, 12, 26, 27, 28, 29, 30, 31, 32, 33, 34, 35, 36, 37, 38, 39, 40, 41, 42, 43, 44, 45, 46, 47, 48, 49, 50, 51, 52, 53, 54, 55, 56] (by decide +kernel) (by decide +kernel)
set_option maxRecDepth 20000 in
theorem gX8_queued_X3_senderAt : GoodIn wsX8_queued (wsV RX8 170 RX3 yX3_senderAt wsX3_senderAt) := goodIn_app (goodIn_of _ (by decide +kernel)) ggX8_queued_X3_senderAt
set_option maxRecDepth 20000 in
theorem ggX8_queued_X6_wordAt : GoodIn wsX8_queued wsX6_wordAt := goodIn_r _ [17, 18, 19, 47, 48, 49, 50, 51, 52, 53, 54, 55, 56] (by decide +kernel) (by decide +kernel)
set_option maxRecDepth 20000 in
theorem gX8_queued_X6_wordAt : GoodIn wsX8_queued (wsV RX8 196 RX6 yX6_wordAt wsX6_wordAt) := goodIn_app (goodIn_of _ (by decide +kernel)) ggX8_queued_X6_wordAt
theorem dX8_queued_0 : decode cX8_queued 0 = .ok (.aload_n 0, 1) := by decide +kernel
theorem dX8_queued_1 : decode cX8_queued 1 = .ok (.getfield 10, 3) := by decide +kernel
theorem dX8_queued_4 : decode cX8_queued 4 = .ok (.iload_n 1, 1) := by decide +kernel
theorem dX8_queued_5 : decode cX8_queued 5 = .ok (.invokevirtual 170, 3) := by decide +kernel
theorem dX8_queued_8 : decode cX8_queued 8 = .ok (.astore_n 3, 1) := by decide +kernel
theorem dX8_queued_9 : decode cX8_queued 9 = .ok (.aload_n 3, 1) := by decide +kernel
theorem dX8_queued_10 : decode cX8_queued 10 = .ok (.ifnonnull 5, 3) := by decide +kernel
theorem dX8_queued_13 : decode cX8_queued 13 = .ok (.iconst (-1), 1) := by decide +kernel
theorem dX8_queued_14 : decode cX8_queued 14 = .ok (.ireturn, 1) := by decide +kernel
theorem dX8_queued_15 : decode cX8_queued 15 = .ok (.iload_n 2, 1) := by decide +kernel
theorem dX8_queued_16 : decode cX8_queued 16 = .ok (.ifCond .ge 8, 3) := by decide +kernel
theorem dX8_queued_19 : decode cX8_queued 19 = .ok (.bipush (-2), 2) := by decide +kernel
theorem dX8_queued_21 : decode cX8_queued 21 = .ok (.goto 8, 3) := by decide +kernel
theorem dX8_queued_24 : decode cX8_queued 24 = .ok (.aload_n 3, 1) := by decide +kernel
theorem dX8_queued_25 : decode cX8_queued 25 = .ok (.iload_n 2, 1) := by decide +kernel
theorem dX8_queued_26 : decode cX8_queued 26 = .ok (.invokevirtual 196, 3) := by decide +kernel
theorem dX8_queued_29 : decode cX8_queued 29 = .ok (.ireturn, 1) := by decide +kernel
set_option maxRecDepth 20000 in
theorem ggX8_machineOf_X3_machineAt : GoodIn wsX8_machineOf wsX3_machineAt := goodIn_r _ [11, 12, 13, 14, 15, 16, 17, 50, 51, 52, 53, 54, 55, 56, 57, 27, 28, 29, 30, 31, 32, 33, 34, 35, 36, 37, 38, 39, 40, 41, 42, 43, 44, 45, 46, 47, 48, 49] (by decide +kernel) (by decide +kernel)
set_option maxRecDepth 20000 in
theorem gX8_machineOf_X3_machineAt : GoodIn wsX8_machineOf (wsV RX8 103 RX3 yX3_machineAt wsX3_machineAt) := goodIn_app (goodIn_of _ (by decide +kernel)) ggX8_machineOf_X3_machineAt
set_option maxRecDepth 20000 in
theorem ggX8_machineOf_X8_asNumber : GoodIn wsX8_machineOf wsX8_asNumber := goodIn_r _ [20] (by decide +kernel) (by decide +kernel)
set_option maxRecDepth 20000 in
theorem gX8_machineOf_X8_asNumber : GoodIn wsX8_machineOf (va_wsS RX8 110 yX8_asNumber wsX8_asNumber) := goodIn_app (goodIn_of _ (by decide +kernel)) ggX8_machineOf_X8_asNumber
theorem dX8_machineOf_0 : decode cX8_machineOf 0 = .ok (.aload_n 0, 1) := by decide +kernel
theorem dX8_machineOf_1 : decode cX8_machineOf 1 = .ok (.getfield 10, 3) := by decide +kernel
theorem dX8_machineOf_4 : decode cX8_machineOf 4 = .ok (.iload_n 1, 1) := by decide +kernel
theorem dX8_machineOf_5 : decode cX8_machineOf 5 = .ok (.invokevirtual 103, 3) := by decide +kernel
theorem dX8_machineOf_8 : decode cX8_machineOf 8 = .ok (.astore_n 3, 1) := by decide +kernel
theorem dX8_machineOf_9 : decode cX8_machineOf 9 = .ok (.aload_n 3, 1) := by decide +kernel
theorem dX8_machineOf_10 : decode cX8_machineOf 10 = .ok (.ifnonnull 5, 3) := by decide +kernel
theorem dX8_machineOf_13 : decode cX8_machineOf 13 = .ok (.iconst (-1), 1) := by decide +kernel
theorem dX8_machineOf_14 : decode cX8_machineOf 14 = .ok (.ireturn, 1) := by decide +kernel
theorem dX8_machineOf_15 : decode cX8_machineOf 15 = .ok (.iload_n 2, 1) := by decide +kernel
theorem dX8_machineOf_16 : decode cX8_machineOf 16 = .ok (.tableswitch 55 0 3 #[32, 37, 42, 47], 32) := by decide +kernel
theorem dX8_machineOf_48 : decode cX8_machineOf 48 = .ok (.aload_n 3, 1) := by decide +kernel
theorem dX8_machineOf_49 : decode cX8_machineOf 49 = .ok (.getfield 199, 3) := by decide +kernel
theorem dX8_machineOf_52 : decode cX8_machineOf 52 = .ok (.ireturn, 1) := by decide +kernel
theorem dX8_machineOf_53 : decode cX8_machineOf 53 = .ok (.aload_n 3, 1) := by decide +kernel
theorem dX8_machineOf_54 : decode cX8_machineOf 54 = .ok (.getfield 200, 3) := by decide +kernel
theorem dX8_machineOf_57 : decode cX8_machineOf 57 = .ok (.ireturn, 1) := by decide +kernel
theorem dX8_machineOf_58 : decode cX8_machineOf 58 = .ok (.aload_n 3, 1) := by decide +kernel
theorem dX8_machineOf_59 : decode cX8_machineOf 59 = .ok (.getfield 201, 3) := by decide +kernel
theorem dX8_machineOf_62 : decode cX8_machineOf 62 = .ok (.ireturn, 1) := by decide +kernel
theorem dX8_machineOf_63 : decode cX8_machineOf 63 = .ok (.aload_n 3, 1) := by decide +kernel
theorem dX8_machineOf_64 : decode cX8_machineOf 64 = .ok (.getfield 107, 3) := by decide +kernel
theorem dX8_machineOf_67 : decode cX8_machineOf 67 = .ok (.invokestatic 110, 3) := by decide +kernel
theorem dX8_machineOf_70 : decode cX8_machineOf 70 = .ok (.ireturn, 1) := by decide +kernel
theorem dX8_machineOf_71 : decode cX8_machineOf 71 = .ok (.bipush (-2), 2) := by decide +kernel
theorem dX8_machineOf_73 : decode cX8_machineOf 73 = .ok (.ireturn, 1) := by decide +kernel
set_option maxRecDepth 20000 in
theorem ggX8_lampOf_X3_lampAt : GoodIn wsX8_lampOf wsX3_lampAt := goodIn_r _ [12, 13, 14, 15, 16, 17, 18, 51, 52, 53, 54, 55, 56, 57, 58, 28, 29, 30, 31, 32, 33, 34, 35, 36, 37, 38, 39, 40, 41, 42, 43, 44, 45, 46, 47, 48, 49, 50] (by decide +kernel) (by decide +kernel)
set_option maxRecDepth 20000 in
theorem gX8_lampOf_X3_lampAt : GoodIn wsX8_lampOf (wsV RX8 204 RX3 yX3_lampAt wsX3_lampAt) := goodIn_app (goodIn_of _ (by decide +kernel)) ggX8_lampOf_X3_lampAt
set_option maxRecDepth 20000 in
theorem ggX8_lampOf_X8_asNumber : GoodIn wsX8_lampOf wsX8_asNumber := goodIn_r _ [21] (by decide +kernel) (by decide +kernel)
set_option maxRecDepth 20000 in
theorem gX8_lampOf_X8_asNumber : GoodIn wsX8_lampOf (va_wsS RX8 110 yX8_asNumber wsX8_asNumber) := goodIn_app (goodIn_of _ (by decide +kernel)) ggX8_lampOf_X8_asNumber
theorem dX8_lampOf_0 : decode cX8_lampOf 0 = .ok (.aload_n 0, 1) := by decide +kernel
theorem dX8_lampOf_1 : decode cX8_lampOf 1 = .ok (.getfield 10, 3) := by decide +kernel
theorem dX8_lampOf_4 : decode cX8_lampOf 4 = .ok (.iload_n 1, 1) := by decide +kernel
theorem dX8_lampOf_5 : decode cX8_lampOf 5 = .ok (.invokevirtual 204, 3) := by decide +kernel
theorem dX8_lampOf_8 : decode cX8_lampOf 8 = .ok (.astore_n 3, 1) := by decide +kernel
theorem dX8_lampOf_9 : decode cX8_lampOf 9 = .ok (.aload_n 3, 1) := by decide +kernel
theorem dX8_lampOf_10 : decode cX8_lampOf 10 = .ok (.ifnonnull 5, 3) := by decide +kernel
theorem dX8_lampOf_13 : decode cX8_lampOf 13 = .ok (.iconst (-1), 1) := by decide +kernel
theorem dX8_lampOf_14 : decode cX8_lampOf 14 = .ok (.ireturn, 1) := by decide +kernel
theorem dX8_lampOf_15 : decode cX8_lampOf 15 = .ok (.iload_n 2, 1) := by decide +kernel
theorem dX8_lampOf_16 : decode cX8_lampOf 16 = .ok (.tableswitch 64 0 4 #[36, 41, 46, 51, 56], 36) := by decide +kernel
theorem dX8_lampOf_52 : decode cX8_lampOf 52 = .ok (.aload_n 3, 1) := by decide +kernel
theorem dX8_lampOf_53 : decode cX8_lampOf 53 = .ok (.getfield 208, 3) := by decide +kernel
theorem dX8_lampOf_56 : decode cX8_lampOf 56 = .ok (.ireturn, 1) := by decide +kernel
theorem dX8_lampOf_57 : decode cX8_lampOf 57 = .ok (.aload_n 3, 1) := by decide +kernel
theorem dX8_lampOf_58 : decode cX8_lampOf 58 = .ok (.getfield 209, 3) := by decide +kernel
theorem dX8_lampOf_61 : decode cX8_lampOf 61 = .ok (.ireturn, 1) := by decide +kernel
theorem dX8_lampOf_62 : decode cX8_lampOf 62 = .ok (.aload_n 3, 1) := by decide +kernel
theorem dX8_lampOf_63 : decode cX8_lampOf 63 = .ok (.getfield 212, 3) := by decide +kernel
theorem dX8_lampOf_66 : decode cX8_lampOf 66 = .ok (.ireturn, 1) := by decide +kernel
theorem dX8_lampOf_67 : decode cX8_lampOf 67 = .ok (.aload_n 3, 1) := by decide +kernel
theorem dX8_lampOf_68 : decode cX8_lampOf 68 = .ok (.getfield 215, 3) := by decide +kernel
theorem dX8_lampOf_71 : decode cX8_lampOf 71 = .ok (.ireturn, 1) := by decide +kernel
theorem dX8_lampOf_72 : decode cX8_lampOf 72 = .ok (.aload_n 3, 1) := by decide +kernel
theorem dX8_lampOf_73 : decode cX8_lampOf 73 = .ok (.getfield 218, 3) := by decide +kernel
theorem dX8_lampOf_76 : decode cX8_lampOf 76 = .ok (.invokestatic 110, 3) := by decide +kernel
theorem dX8_lampOf_79 : decode cX8_lampOf 79 = .ok (.ireturn, 1) := by decide +kernel
theorem dX8_lampOf_80 : decode cX8_lampOf 80 = .ok (.bipush (-2), 2) := by decide +kernel
theorem dX8_lampOf_82 : decode cX8_lampOf 82 = .ok (.ireturn, 1) := by decide +kernel
set_option maxRecDepth 20000 in
theorem ggX8_receiver_X8_isWire : GoodIn wsX8_receiver wsX8_isWire := goodIn_r _ [13] (by decide +kernel) (by decide +kernel)
set_option maxRecDepth 20000 in
theorem gX8_receiver_X8_isWire : GoodIn wsX8_receiver (va_wsS RX8 40 yX8_isWire wsX8_isWire) := goodIn_app (goodIn_of _ (by decide +kernel)) ggX8_receiver_X8_isWire
theorem dX8_receiver_0 : decode cX8_receiver 0 = .ok (.iload_n 1, 1) := by decide +kernel
theorem dX8_receiver_1 : decode cX8_receiver 1 = .ok (.invokestatic 40, 3) := by decide +kernel
theorem dX8_receiver_4 : decode cX8_receiver 4 = .ok (.ifCond .ne 5, 3) := by decide +kernel
theorem dX8_receiver_7 : decode cX8_receiver 7 = .ok (.iconst (-1), 1) := by decide +kernel
theorem dX8_receiver_8 : decode cX8_receiver 8 = .ok (.ireturn, 1) := by decide +kernel
theorem dX8_receiver_9 : decode cX8_receiver 9 = .ok (.aload_n 0, 1) := by decide +kernel
theorem dX8_receiver_10 : decode cX8_receiver 10 = .ok (.getfield 10, 3) := by decide +kernel
theorem dX8_receiver_13 : decode cX8_receiver 13 = .ok (.getfield 221, 3) := by decide +kernel
theorem dX8_receiver_16 : decode cX8_receiver 16 = .ok (.iload_n 1, 1) := by decide +kernel
theorem dX8_receiver_17 : decode cX8_receiver 17 = .ok (.aaload, 1) := by decide +kernel
theorem dX8_receiver_18 : decode cX8_receiver 18 = .ok (.astore_n 3, 1) := by decide +kernel
theorem dX8_receiver_19 : decode cX8_receiver 19 = .ok (.iload_n 2, 1) := by decide +kernel
theorem dX8_receiver_20 : decode cX8_receiver 20 = .ok (.tableswitch 107 0 4 #[36, 53, 70, 75, 102], 36) := by decide +kernel
theorem dX8_receiver_56 : decode cX8_receiver 56 = .ok (.aload_n 3, 1) := by decide +kernel
theorem dX8_receiver_57 : decode cX8_receiver 57 = .ok (.getfield 225, 3) := by decide +kernel
theorem dX8_receiver_60 : decode cX8_receiver 60 = .ok (.ifCond .eq 10, 3) := by decide +kernel
theorem dX8_receiver_63 : decode cX8_receiver 63 = .ok (.aload_n 3, 1) := by decide +kernel
theorem dX8_receiver_64 : decode cX8_receiver 64 = .ok (.getfield 230, 3) := by decide +kernel
theorem dX8_receiver_67 : decode cX8_receiver 67 = .ok (.goto 5, 3) := by decide +kernel
theorem dX8_receiver_70 : decode cX8_receiver 70 = .ok (.bipush (-5), 2) := by decide +kernel
theorem dX8_receiver_72 : decode cX8_receiver 72 = .ok (.ireturn, 1) := by decide +kernel
theorem dX8_receiver_73 : decode cX8_receiver 73 = .ok (.aload_n 3, 1) := by decide +kernel
theorem dX8_receiver_74 : decode cX8_receiver 74 = .ok (.getfield 225, 3) := by decide +kernel
theorem dX8_receiver_77 : decode cX8_receiver 77 = .ok (.ifCond .eq 8, 3) := by decide +kernel
theorem dX8_receiver_80 : decode cX8_receiver 80 = .ok (.bipush (-5), 2) := by decide +kernel
theorem dX8_receiver_82 : decode cX8_receiver 82 = .ok (.goto 7, 3) := by decide +kernel
theorem dX8_receiver_85 : decode cX8_receiver 85 = .ok (.aload_n 3, 1) := by decide +kernel
theorem dX8_receiver_86 : decode cX8_receiver 86 = .ok (.getfield 233, 3) := by decide +kernel
theorem dX8_receiver_89 : decode cX8_receiver 89 = .ok (.ireturn, 1) := by decide +kernel
theorem dX8_receiver_90 : decode cX8_receiver 90 = .ok (.aload_n 3, 1) := by decide +kernel
theorem dX8_receiver_91 : decode cX8_receiver 91 = .ok (.getfield 236, 3) := by decide +kernel
theorem dX8_receiver_94 : decode cX8_receiver 94 = .ok (.ireturn, 1) := by decide +kernel
theorem dX8_receiver_95 : decode cX8_receiver 95 = .ok (.aload_n 3, 1) := by decide +kernel
theorem dX8_receiver_96 : decode cX8_receiver 96 = .ok (.getfield 236, 3) := by decide +kernel
theorem dX8_receiver_99 : decode cX8_receiver 99 = .ok (.bipush (-5), 2) := by decide +kernel
theorem dX8_receiver_101 : decode cX8_receiver 101 = .ok (.if_icmp .ne 8, 3) := by decide +kernel
theorem dX8_receiver_104 : decode cX8_receiver 104 = .ok (.bipush (-5), 2) := by decide +kernel
theorem dX8_receiver_106 : decode cX8_receiver 106 = .ok (.goto 15, 3) := by decide +kernel
theorem dX8_receiver_109 : decode cX8_receiver 109 = .ok (.aload_n 0, 1) := by decide +kernel
theorem dX8_receiver_110 : decode cX8_receiver 110 = .ok (.getfield 10, 3) := by decide +kernel
theorem dX8_receiver_113 : decode cX8_receiver 113 = .ok (.getfield 167, 3) := by decide +kernel
theorem dX8_receiver_116 : decode cX8_receiver 116 = .ok (.aload_n 3, 1) := by decide +kernel
theorem dX8_receiver_117 : decode cX8_receiver 117 = .ok (.getfield 239, 3) := by decide +kernel
theorem dX8_receiver_120 : decode cX8_receiver 120 = .ok (.isub, 1) := by decide +kernel
theorem dX8_receiver_121 : decode cX8_receiver 121 = .ok (.ireturn, 1) := by decide +kernel
theorem dX8_receiver_122 : decode cX8_receiver 122 = .ok (.aload_n 3, 1) := by decide +kernel
theorem dX8_receiver_123 : decode cX8_receiver 123 = .ok (.getfield 242, 3) := by decide +kernel
theorem dX8_receiver_126 : decode cX8_receiver 126 = .ok (.ireturn, 1) := by decide +kernel
theorem dX8_receiver_127 : decode cX8_receiver 127 = .ok (.bipush (-2), 2) := by decide +kernel
theorem dX8_receiver_129 : decode cX8_receiver 129 = .ok (.ireturn, 1) := by decide +kernel
set_option maxRecDepth 20000 in
theorem ggX8_frame_X8_isWord : GoodIn wsX8_frame wsX8_isWord := goodIn_r _ [4] (by decide +kernel) (by decide +kernel)
set_option maxRecDepth 20000 in
theorem gX8_frame_X8_isWord : GoodIn wsX8_frame (va_wsS RX8 245 yX8_isWord wsX8_isWord) := goodIn_app (goodIn_of _ (by decide +kernel)) ggX8_frame_X8_isWord
set_option maxRecDepth 20000 in
theorem ggX8_frame_X8_frameBit : GoodIn wsX8_frame wsX8_frameBit := goodIn_r _ [7] (by decide +kernel) (by decide +kernel)
set_option maxRecDepth 20000 in
theorem gX8_frame_X8_frameBit : GoodIn wsX8_frame (va_wsS RX8 248 yX8_frameBit wsX8_frameBit) := goodIn_app (goodIn_of _ (by decide +kernel)) ggX8_frame_X8_frameBit
theorem dX8_frame_0 : decode cX8_frame 0 = .ok (.iload_n 1, 1) := by decide +kernel
theorem dX8_frame_1 : decode cX8_frame 1 = .ok (.invokestatic 245, 3) := by decide +kernel
theorem dX8_frame_4 : decode cX8_frame 4 = .ok (.ifCond .eq 13, 3) := by decide +kernel
theorem dX8_frame_7 : decode cX8_frame 7 = .ok (.iload_n 2, 1) := by decide +kernel
theorem dX8_frame_8 : decode cX8_frame 8 = .ok (.ifCond .lt 9, 3) := by decide +kernel
theorem dX8_frame_11 : decode cX8_frame 11 = .ok (.iload_n 2, 1) := by decide +kernel
theorem dX8_frame_12 : decode cX8_frame 12 = .ok (.bipush 14, 2) := by decide +kernel
theorem dX8_frame_14 : decode cX8_frame 14 = .ok (.if_icmp .lt 6, 3) := by decide +kernel
theorem dX8_frame_17 : decode cX8_frame 17 = .ok (.bipush (-2), 2) := by decide +kernel
theorem dX8_frame_19 : decode cX8_frame 19 = .ok (.ireturn, 1) := by decide +kernel
theorem dX8_frame_20 : decode cX8_frame 20 = .ok (.iload_n 1, 1) := by decide +kernel
theorem dX8_frame_21 : decode cX8_frame 21 = .ok (.iload_n 2, 1) := by decide +kernel
theorem dX8_frame_22 : decode cX8_frame 22 = .ok (.invokestatic 248, 3) := by decide +kernel
theorem dX8_frame_25 : decode cX8_frame 25 = .ok (.ireturn, 1) := by decide +kernel
set_option maxRecDepth 20000 in
theorem ggX8_loss_X8_isWire : GoodIn wsX8_loss wsX8_isWire := goodIn_r _ [5] (by decide +kernel) (by decide +kernel)
set_option maxRecDepth 20000 in
theorem gX8_loss_X8_isWire : GoodIn wsX8_loss (va_wsS RX8 40 yX8_isWire wsX8_isWire) := goodIn_app (goodIn_of _ (by decide +kernel)) ggX8_loss_X8_isWire
set_option maxRecDepth 20000 in
theorem ggX8_loss_X3_lossBetween : GoodIn wsX8_loss wsX3_lossBetween := goodIn_r _ [10, 11, 18, 19, 20, 21, 22, 23, 24, 25] (by decide +kernel) (by decide +kernel)
set_option maxRecDepth 20000 in
theorem gX8_loss_X3_lossBetween : GoodIn wsX8_loss (wsV RX8 251 RX3 yX3_lossBetween wsX3_lossBetween) := goodIn_app (goodIn_of _ (by decide +kernel)) ggX8_loss_X3_lossBetween
theorem dX8_loss_0 : decode cX8_loss 0 = .ok (.iload_n 1, 1) := by decide +kernel
theorem dX8_loss_1 : decode cX8_loss 1 = .ok (.invokestatic 40, 3) := by decide +kernel
theorem dX8_loss_4 : decode cX8_loss 4 = .ok (.ifCond .eq 10, 3) := by decide +kernel
theorem dX8_loss_7 : decode cX8_loss 7 = .ok (.iload_n 2, 1) := by decide +kernel
theorem dX8_loss_8 : decode cX8_loss 8 = .ok (.invokestatic 40, 3) := by decide +kernel
theorem dX8_loss_11 : decode cX8_loss 11 = .ok (.ifCond .ne 5, 3) := by decide +kernel
theorem dX8_loss_14 : decode cX8_loss 14 = .ok (.iconst (-1), 1) := by decide +kernel
theorem dX8_loss_15 : decode cX8_loss 15 = .ok (.ireturn, 1) := by decide +kernel
theorem dX8_loss_16 : decode cX8_loss 16 = .ok (.aload_n 0, 1) := by decide +kernel
theorem dX8_loss_17 : decode cX8_loss 17 = .ok (.getfield 10, 3) := by decide +kernel
theorem dX8_loss_20 : decode cX8_loss 20 = .ok (.iload_n 1, 1) := by decide +kernel
theorem dX8_loss_21 : decode cX8_loss 21 = .ok (.iload_n 2, 1) := by decide +kernel
theorem dX8_loss_22 : decode cX8_loss 22 = .ok (.invokevirtual 251, 3) := by decide +kernel
theorem dX8_loss_25 : decode cX8_loss 25 = .ok (.ireturn, 1) := by decide +kernel
set_option maxRecDepth 20000 in
theorem ggX8_count_X8_presentIn : GoodIn wsX8_count wsX8_presentIn := goodIn_r _ [14, 15, 16, 17, 13, 18, 65, 66, 67, 68, 69, 70, 71, 72, 73, 74, 75, 76, 77, 78, 79, 80, 81, 82, 83, 84, 85, 86, 87] (by decide +kernel) (by decide +kernel)
set_option maxRecDepth 20000 in
theorem gX8_count_X8_presentIn : GoodIn wsX8_count (va_wsS RX8 258 yX8_presentIn wsX8_presentIn) := goodIn_app (goodIn_of _ (by decide +kernel)) ggX8_count_X8_presentIn
set_option maxRecDepth 20000 in
theorem ggX8_count_X3_speakingSenders : GoodIn wsX8_count wsX3_speakingSenders := goodIn_r _ [23, 24, 25, 26, 27, 28, 29, 30, 31, 32, 17, 13, 18, 53, 54, 55, 56, 57, 58, 59, 60, 65, 66, 67, 68, 69, 70, 71, 72, 73, 74, 75, 76, 77, 78, 79, 80, 81, 82, 83, 84, 85, 86, 87] (by decide +kernel) (by decide +kernel)
set_option maxRecDepth 20000 in
theorem gX8_count_X3_speakingSenders : GoodIn wsX8_count (wsV RX8 270 RX3 yX3_speakingSenders wsX3_speakingSenders) := goodIn_app (goodIn_of _ (by decide +kernel)) ggX8_count_X3_speakingSenders
set_option maxRecDepth 20000 in
theorem ggX8_count_X3_queuedWords : GoodIn wsX8_count wsX3_queuedWords := goodIn_r _ [36, 24, 37, 31, 38, 53, 54, 55, 56, 57, 58, 59, 60, 65, 66, 67, 68, 69, 70, 71, 72, 73, 74, 75, 76, 77, 78, 79, 80, 81, 82, 83, 84, 85, 86, 87] (by decide +kernel) (by decide +kernel)
set_option maxRecDepth 20000 in
theorem gX8_count_X3_queuedWords : GoodIn wsX8_count (wsV RX8 273 RX3 yX3_queuedWords wsX3_queuedWords) := goodIn_app (goodIn_of _ (by decide +kernel)) ggX8_count_X3_queuedWords
set_option maxRecDepth 20000 in
theorem ggX8_count_X3_litLamps : GoodIn wsX8_count wsX3_litLamps := goodIn_r _ [42, 43, 44, 45, 46, 17, 13, 18, 53, 54, 55, 56, 57, 58, 59, 60, 65, 66, 67, 68, 69, 70, 71, 72, 73, 74, 75, 76, 77, 78, 79, 80, 81, 82, 83, 84, 85, 86, 87] (by decide +kernel) (by decide +kernel)
set_option maxRecDepth 20000 in
theorem gX8_count_X3_litLamps : GoodIn wsX8_count (wsV RX8 276 RX3 yX3_litLamps wsX3_litLamps) := goodIn_app (goodIn_of _ (by decide +kernel)) ggX8_count_X3_litLamps
theorem dX8_count_0 : decode cX8_count 0 = .ok (.iload_n 1, 1) := by decide +kernel
theorem dX8_count_1 : decode cX8_count 1 = .ok (.tableswitch 188 0 12 #[67, 75, 86, 97, 108, 116, 124, 132, 142, 152, 162, 172, 180], 67) := by decide +kernel
theorem dX8_count_68 : decode cX8_count 68 = .ok (.aload_n 0, 1) := by decide +kernel
theorem dX8_count_69 : decode cX8_count 69 = .ok (.getfield 10, 3) := by decide +kernel
theorem dX8_count_72 : decode cX8_count 72 = .ok (.getfield 167, 3) := by decide +kernel
theorem dX8_count_75 : decode cX8_count 75 = .ok (.ireturn, 1) := by decide +kernel
theorem dX8_count_76 : decode cX8_count 76 = .ok (.aload_n 0, 1) := by decide +kernel
theorem dX8_count_77 : decode cX8_count 77 = .ok (.getfield 10, 3) := by decide +kernel
theorem dX8_count_80 : decode cX8_count 80 = .ok (.getfield 254, 3) := by decide +kernel
theorem dX8_count_83 : decode cX8_count 83 = .ok (.invokestatic 258, 3) := by decide +kernel
theorem dX8_count_86 : decode cX8_count 86 = .ok (.ireturn, 1) := by decide +kernel
theorem dX8_count_87 : decode cX8_count 87 = .ok (.aload_n 0, 1) := by decide +kernel
theorem dX8_count_88 : decode cX8_count 88 = .ok (.getfield 10, 3) := by decide +kernel
theorem dX8_count_91 : decode cX8_count 91 = .ok (.getfield 262, 3) := by decide +kernel
theorem dX8_count_94 : decode cX8_count 94 = .ok (.invokestatic 258, 3) := by decide +kernel
theorem dX8_count_97 : decode cX8_count 97 = .ok (.ireturn, 1) := by decide +kernel
theorem dX8_count_98 : decode cX8_count 98 = .ok (.aload_n 0, 1) := by decide +kernel
theorem dX8_count_99 : decode cX8_count 99 = .ok (.getfield 10, 3) := by decide +kernel
theorem dX8_count_102 : decode cX8_count 102 = .ok (.getfield 266, 3) := by decide +kernel
theorem dX8_count_105 : decode cX8_count 105 = .ok (.invokestatic 258, 3) := by decide +kernel
theorem dX8_count_108 : decode cX8_count 108 = .ok (.ireturn, 1) := by decide +kernel
theorem dX8_count_109 : decode cX8_count 109 = .ok (.aload_n 0, 1) := by decide +kernel
theorem dX8_count_110 : decode cX8_count 110 = .ok (.getfield 10, 3) := by decide +kernel
theorem dX8_count_113 : decode cX8_count 113 = .ok (.invokevirtual 270, 3) := by decide +kernel
theorem dX8_count_116 : decode cX8_count 116 = .ok (.ireturn, 1) := by decide +kernel
theorem dX8_count_117 : decode cX8_count 117 = .ok (.aload_n 0, 1) := by decide +kernel
theorem dX8_count_118 : decode cX8_count 118 = .ok (.getfield 10, 3) := by decide +kernel
theorem dX8_count_121 : decode cX8_count 121 = .ok (.invokevirtual 273, 3) := by decide +kernel
theorem dX8_count_124 : decode cX8_count 124 = .ok (.ireturn, 1) := by decide +kernel
theorem dX8_count_125 : decode cX8_count 125 = .ok (.aload_n 0, 1) := by decide +kernel
theorem dX8_count_126 : decode cX8_count 126 = .ok (.getfield 10, 3) := by decide +kernel
theorem dX8_count_129 : decode cX8_count 129 = .ok (.invokevirtual 276, 3) := by decide +kernel
theorem dX8_count_132 : decode cX8_count 132 = .ok (.ireturn, 1) := by decide +kernel
theorem dX8_count_133 : decode cX8_count 133 = .ok (.aload_n 0, 1) := by decide +kernel
theorem dX8_count_134 : decode cX8_count 134 = .ok (.getfield 10, 3) := by decide +kernel
theorem dX8_count_137 : decode cX8_count 137 = .ok (.getfield 121, 3) := by decide +kernel
theorem dX8_count_140 : decode cX8_count 140 = .ok (.iconst 0, 1) := by decide +kernel
theorem dX8_count_141 : decode cX8_count 141 = .ok (.iaload, 1) := by decide +kernel
theorem dX8_count_142 : decode cX8_count 142 = .ok (.ireturn, 1) := by decide +kernel
theorem dX8_count_143 : decode cX8_count 143 = .ok (.aload_n 0, 1) := by decide +kernel
theorem dX8_count_144 : decode cX8_count 144 = .ok (.getfield 10, 3) := by decide +kernel
theorem dX8_count_147 : decode cX8_count 147 = .ok (.getfield 121, 3) := by decide +kernel
theorem dX8_count_150 : decode cX8_count 150 = .ok (.iconst 1, 1) := by decide +kernel
theorem dX8_count_151 : decode cX8_count 151 = .ok (.iaload, 1) := by decide +kernel
theorem dX8_count_152 : decode cX8_count 152 = .ok (.ireturn, 1) := by decide +kernel
theorem dX8_count_153 : decode cX8_count 153 = .ok (.aload_n 0, 1) := by decide +kernel
theorem dX8_count_154 : decode cX8_count 154 = .ok (.getfield 10, 3) := by decide +kernel
theorem dX8_count_157 : decode cX8_count 157 = .ok (.getfield 121, 3) := by decide +kernel
theorem dX8_count_160 : decode cX8_count 160 = .ok (.iconst 2, 1) := by decide +kernel
theorem dX8_count_161 : decode cX8_count 161 = .ok (.iaload, 1) := by decide +kernel
theorem dX8_count_162 : decode cX8_count 162 = .ok (.ireturn, 1) := by decide +kernel
theorem dX8_count_163 : decode cX8_count 163 = .ok (.aload_n 0, 1) := by decide +kernel
theorem dX8_count_164 : decode cX8_count 164 = .ok (.getfield 10, 3) := by decide +kernel
theorem dX8_count_167 : decode cX8_count 167 = .ok (.getfield 121, 3) := by decide +kernel
theorem dX8_count_170 : decode cX8_count 170 = .ok (.iconst 3, 1) := by decide +kernel
theorem dX8_count_171 : decode cX8_count 171 = .ok (.iaload, 1) := by decide +kernel
theorem dX8_count_172 : decode cX8_count 172 = .ok (.ireturn, 1) := by decide +kernel
theorem dX8_count_173 : decode cX8_count 173 = .ok (.aload_n 0, 1) := by decide +kernel
theorem dX8_count_174 : decode cX8_count 174 = .ok (.getfield 29, 3) := by decide +kernel
theorem dX8_count_177 : decode cX8_count 177 = .ok (.getfield 161, 3) := by decide +kernel
theorem dX8_count_180 : decode cX8_count 180 = .ok (.ireturn, 1) := by decide +kernel
theorem dX8_count_181 : decode cX8_count 181 = .ok (.aload_n 0, 1) := by decide +kernel
theorem dX8_count_182 : decode cX8_count 182 = .ok (.getfield 36, 3) := by decide +kernel
theorem dX8_count_185 : decode cX8_count 185 = .ok (.getfield 136, 3) := by decide +kernel
theorem dX8_count_188 : decode cX8_count 188 = .ok (.ireturn, 1) := by decide +kernel
theorem dX8_count_189 : decode cX8_count 189 = .ok (.bipush (-2), 2) := by decide +kernel
theorem dX8_count_191 : decode cX8_count 191 = .ok (.ireturn, 1) := by decide +kernel
theorem dX8_total_0 : decode cX8_total 0 = .ok (.iload_n 1, 1) := by decide +kernel
theorem dX8_total_1 : decode cX8_total 1 = .ok (.ifCond .lt 8, 3) := by decide +kernel
theorem dX8_total_4 : decode cX8_total 4 = .ok (.iload_n 1, 1) := by decide +kernel
theorem dX8_total_5 : decode cX8_total 5 = .ok (.iconst 5, 1) := by decide +kernel
theorem dX8_total_6 : decode cX8_total 6 = .ok (.if_icmp .lt 6, 3) := by decide +kernel
theorem dX8_total_9 : decode cX8_total 9 = .ok (.bipush (-2), 2) := by decide +kernel
theorem dX8_total_11 : decode cX8_total 11 = .ok (.ireturn, 1) := by decide +kernel
theorem dX8_total_12 : decode cX8_total 12 = .ok (.aload_n 0, 1) := by decide +kernel
theorem dX8_total_13 : decode cX8_total 13 = .ok (.getfield 10, 3) := by decide +kernel
theorem dX8_total_16 : decode cX8_total 16 = .ok (.getfield 279, 3) := by decide +kernel
theorem dX8_total_19 : decode cX8_total 19 = .ok (.iload_n 1, 1) := by decide +kernel
theorem dX8_total_20 : decode cX8_total 20 = .ok (.iaload, 1) := by decide +kernel
theorem dX8_total_21 : decode cX8_total 21 = .ok (.ireturn, 1) := by decide +kernel
set_option maxRecDepth 20000 in
theorem ggX8_silentIn_X3_copyFrom : GoodIn wsX8_silentIn wsX3_copyFrom := goodIn_r _ [7, 8, 9, 10, 11, 12, 13, 14, 15, 16, 17, 18, 19, 20, 21, 22, 23, 24, 25, 26, 27, 28, 29, 30, 31, 32, 33, 34, 35, 36, 37, 38, 39, 40, 41, 42, 43, 44, 45, 46, 47, 48, 49, 50, 51, 52, 53, 54, 55, 56, 57, 58, 59, 60, 61, 62, 63, 64, 65, 66, 67, 68, 69, 70, 71, 72, 223, 224, 225, 226, 227, 228, 229, 230, 231, 232, 233, 234, 235, 236, 237, 238, 239, 240, 241, 242, 243, 244, 245, 246, 247, 248, 249, 250, 251, 252, 253, 254, 255, 256, 257, 258, 259, 260] (by decide +kernel) (by decide +kernel)
set_option maxRecDepth 20000 in
theorem gX8_silentIn_X3_copyFrom : GoodIn wsX8_silentIn (wsV RX8 164 RX3 yX3_copyFrom wsX3_copyFrom) := goodIn_app (goodIn_of _ (by decide +kernel)) ggX8_silentIn_X3_copyFrom
set_option maxRecDepth 20000 in
theorem ggX8_silentIn_X3_queuedWords : GoodIn wsX8_silentIn wsX3_queuedWords := goodIn_r _ [76, 8, 77, 78, 79, 223, 224, 225, 226, 227, 228, 229, 230, 241, 242, 243, 244, 245, 246, 247, 248, 249, 250, 251, 252, 253, 231, 232, 233, 234, 235, 236, 237, 238, 239, 240] (by decide +kernel) (by decide +kernel)
set_option maxRecDepth 20000 in
theorem gX8_silentIn_X3_queuedWords : GoodIn wsX8_silentIn (wsV RX8 273 RX3 yX3_queuedWords wsX3_queuedWords) := goodIn_app (goodIn_of _ (by decide +kernel)) ggX8_silentIn_X3_queuedWords
set_option maxRecDepth 20000 in
theorem ggX8_silentIn_X3_beat : GoodIn wsX8_silentIn wsX3_beat := goodIn_r _ [83, 14, 84, 85, 86, 6, 87, 8, 77, 78, 88, 89, 90, 91, 92, 93, 11, 94, 95, 96, 64, 97, 66, 67, 98, 99, 100, 18, 101, 23, 26, 21, 24, 25, 102, 103, 104, 105, 106, 107, 9, 108, 109, 110, 111, 112, 113, 114, 115, 116, 117, 118, 119, 20, 120, 36, 121, 122, 123, 124, 125, 12, 126, 127, 128, 129, 130, 131, 132, 41, 133, 134, 135, 45, 44, 136, 137, 138, 139, 13, 140, 141, 142, 143, 144, 145, 146, 147, 148, 149, 150, 151, 152, 153, 154, 155, 156, 157, 158, 159, 160, 161, 162, 163, 164, 165, 166, 167, 168, 169, 170, 171, 172, 173, 174, 175, 176, 68, 69, 177, 178, 179, 180, 181, 182, 183, 184, 185, 186, 187, 188, 10, 189, 190, 191, 192, 70, 71, 193, 194, 195, 52, 196, 197, 198, 199, 200, 54, 201, 202, 203, 204, 72, 205, 206, 207, 208, 55, 57, 56, 209, 210, 211, 212, 213, 214, 215, 216, 223, 224, 225, 226, 227, 228, 229, 230, 241, 242, 243, 244, 245, 246, 247, 248, 249, 250, 251, 252, 253, 231, 232, 233, 234, 235, 236, 237, 238, 239, 240, 254, 255, 256, 257, 258, 259, 260] (by decide +kernel) (by decide +kernel)
set_option maxRecDepth 20000 in
theorem gX8_silentIn_X3_beat : GoodIn wsX8_silentIn (wsV RX8 282 RX3 yX3_beat wsX3_beat) := goodIn_app (goodIn_of _ (by decide +kernel)) ggX8_silentIn_X3_beat
theorem dX8_silentIn_0 : decode cX8_silentIn 0 = .ok (.aload_n 0, 1) := by decide +kernel
theorem dX8_silentIn_1 : decode cX8_silentIn 1 = .ok (.getfield 16, 3) := by decide +kernel
theorem dX8_silentIn_4 : decode cX8_silentIn 4 = .ok (.aload_n 0, 1) := by decide +kernel
theorem dX8_silentIn_5 : decode cX8_silentIn 5 = .ok (.getfield 10, 3) := by decide +kernel
theorem dX8_silentIn_8 : decode cX8_silentIn 8 = .ok (.invokevirtual 164, 3) := by decide +kernel
theorem dX8_silentIn_11 : decode cX8_silentIn 11 = .ok (.iconst 0, 1) := by decide +kernel
theorem dX8_silentIn_12 : decode cX8_silentIn 12 = .ok (.istore_n 1, 1) := by decide +kernel
theorem dX8_silentIn_13 : decode cX8_silentIn 13 = .ok (.iload_n 1, 1) := by decide +kernel
theorem dX8_silentIn_14 : decode cX8_silentIn 14 = .ok (.sipush 600, 3) := by decide +kernel
theorem dX8_silentIn_17 : decode cX8_silentIn 17 = .ok (.if_icmp .gt 29, 3) := by decide +kernel
theorem dX8_silentIn_20 : decode cX8_silentIn 20 = .ok (.aload_n 0, 1) := by decide +kernel
theorem dX8_silentIn_21 : decode cX8_silentIn 21 = .ok (.getfield 16, 3) := by decide +kernel
theorem dX8_silentIn_24 : decode cX8_silentIn 24 = .ok (.invokevirtual 273, 3) := by decide +kernel
theorem dX8_silentIn_27 : decode cX8_silentIn 27 = .ok (.ifCond .ne 5, 3) := by decide +kernel
theorem dX8_silentIn_30 : decode cX8_silentIn 30 = .ok (.iload_n 1, 1) := by decide +kernel
theorem dX8_silentIn_31 : decode cX8_silentIn 31 = .ok (.ireturn, 1) := by decide +kernel
theorem dX8_silentIn_32 : decode cX8_silentIn 32 = .ok (.aload_n 0, 1) := by decide +kernel
theorem dX8_silentIn_33 : decode cX8_silentIn 33 = .ok (.getfield 16, 3) := by decide +kernel
theorem dX8_silentIn_36 : decode cX8_silentIn 36 = .ok (.invokevirtual 282, 3) := by decide +kernel
theorem dX8_silentIn_39 : decode cX8_silentIn 39 = .ok (.pop, 1) := by decide +kernel
theorem dX8_silentIn_40 : decode cX8_silentIn 40 = .ok (.iinc 1 1, 3) := by decide +kernel
theorem dX8_silentIn_43 : decode cX8_silentIn 43 = .ok (.goto (-30), 3) := by decide +kernel
theorem dX8_silentIn_46 : decode cX8_silentIn 46 = .ok (.bipush (-5), 2) := by decide +kernel
theorem dX8_silentIn_48 : decode cX8_silentIn 48 = .ok (.ireturn, 1) := by decide +kernel
set_option maxRecDepth 20000 in
theorem ggX8_levelIn_X3_lampAt : GoodIn wsX8_levelIn wsX3_lampAt := goodIn_r _ [8, 9, 10, 11, 12, 13, 14, 238, 239, 240, 241, 242, 243, 244, 245, 231, 232, 233, 234, 235, 236, 237, 246, 247, 248, 249, 250, 251, 252, 253, 254, 255, 256, 257, 258, 259, 260, 261] (by decide +kernel) (by decide +kernel)
set_option maxRecDepth 20000 in
theorem gX8_levelIn_X3_lampAt : GoodIn wsX8_levelIn (wsV RX8 204 RX3 yX3_lampAt wsX3_lampAt) := goodIn_app (goodIn_of _ (by decide +kernel)) ggX8_levelIn_X3_lampAt
set_option maxRecDepth 20000 in
theorem ggX8_levelIn_X3_copyFrom : GoodIn wsX8_levelIn wsX3_copyFrom := goodIn_r _ [18, 19, 20, 9, 21, 22, 23, 24, 25, 26, 27, 28, 29, 30, 31, 32, 33, 34, 35, 36, 37, 38, 39, 40, 41, 42, 43, 44, 45, 12, 46, 47, 48, 49, 50, 51, 52, 53, 54, 55, 56, 57, 58, 59, 60, 61, 62, 63, 64, 65, 66, 67, 68, 69, 70, 71, 72, 73, 74, 75, 76, 77, 78, 79, 80, 81, 238, 239, 240, 241, 242, 243, 244, 245, 252, 253, 254, 255, 256, 257, 258, 259, 260, 261, 231, 232, 233, 234, 235, 236, 237, 246, 247, 248, 249, 250, 251, 262, 263, 264, 265, 266, 267, 268] (by decide +kernel) (by decide +kernel)
set_option maxRecDepth 20000 in
theorem gX8_levelIn_X3_copyFrom : GoodIn wsX8_levelIn (wsV RX8 164 RX3 yX3_copyFrom wsX3_copyFrom) := goodIn_app (goodIn_of _ (by decide +kernel)) ggX8_levelIn_X3_copyFrom
set_option maxRecDepth 20000 in
theorem ggX8_levelIn_X3_letPass : GoodIn wsX8_levelIn wsX3_letPass := goodIn_r _ [85, 86, 87, 88, 7, 89, 24, 90, 91, 92, 93, 19, 94, 95, 96, 97, 98, 99, 100, 101, 21, 102, 103, 104, 73, 105, 75, 76, 106, 107, 108, 28, 109, 33, 36, 31, 34, 35, 110, 111, 112, 113, 114, 115, 20, 116, 117, 118, 119, 120, 121, 122, 123, 124, 125, 126, 127, 30, 128, 12, 129, 130, 131, 132, 133, 22, 134, 135, 136, 137, 138, 139, 140, 50, 141, 142, 143, 54, 53, 144, 145, 146, 147, 23, 148, 149, 150, 151, 152, 153, 154, 155, 156, 157, 158, 159, 160, 161, 162, 163, 164, 165, 166, 167, 168, 169, 170, 171, 172, 173, 174, 175, 176, 177, 178, 179, 180, 181, 182, 183, 184, 77, 78, 185, 186, 187, 188, 189, 190, 191, 192, 193, 194, 195, 196, 9, 197, 198, 199, 200, 79, 80, 201, 202, 203, 61, 204, 205, 206, 207, 208, 63, 209, 210, 211, 212, 81, 213, 214, 215, 216, 64, 66, 65, 217, 218, 219, 220, 221, 222, 223, 224, 238, 239, 240, 241, 242, 243, 244, 245, 231, 232, 233, 234, 235, 236, 237, 246, 247, 248, 249, 250, 251, 252, 253, 254, 255, 256, 257, 258, 259, 260, 261, 262, 263, 264, 265, 266, 267, 268] (by decide +kernel) (by decide +kernel)
set_option maxRecDepth 20000 in
theorem gX8_levelIn_X3_letPass : GoodIn wsX8_levelIn (wsV RX8 124 RX3 yX3_letPass wsX3_letPass) := goodIn_app (goodIn_of _ (by decide +kernel)) ggX8_levelIn_X3_letPass
theorem dX8_levelIn_0 : decode cX8_levelIn 0 = .ok (.aload_n 0, 1) := by decide +kernel
theorem dX8_levelIn_1 : decode cX8_levelIn 1 = .ok (.getfield 10, 3) := by decide +kernel
theorem dX8_levelIn_4 : decode cX8_levelIn 4 = .ok (.iload_n 1, 1) := by decide +kernel
theorem dX8_levelIn_5 : decode cX8_levelIn 5 = .ok (.invokevirtual 204, 3) := by decide +kernel
theorem dX8_levelIn_8 : decode cX8_levelIn 8 = .ok (.ifnonnull 5, 3) := by decide +kernel
theorem dX8_levelIn_11 : decode cX8_levelIn 11 = .ok (.iconst (-1), 1) := by decide +kernel
theorem dX8_levelIn_12 : decode cX8_levelIn 12 = .ok (.ireturn, 1) := by decide +kernel
theorem dX8_levelIn_13 : decode cX8_levelIn 13 = .ok (.iload_n 2, 1) := by decide +kernel
theorem dX8_levelIn_14 : decode cX8_levelIn 14 = .ok (.ifCond .lt 10, 3) := by decide +kernel
theorem dX8_levelIn_17 : decode cX8_levelIn 17 = .ok (.iload_n 2, 1) := by decide +kernel
theorem dX8_levelIn_18 : decode cX8_levelIn 18 = .ok (.sipush 400, 3) := by decide +kernel
theorem dX8_levelIn_21 : decode cX8_levelIn 21 = .ok (.if_icmp .le 6, 3) := by decide +kernel
theorem dX8_levelIn_24 : decode cX8_levelIn 24 = .ok (.bipush (-2), 2) := by decide +kernel
theorem dX8_levelIn_26 : decode cX8_levelIn 26 = .ok (.ireturn, 1) := by decide +kernel
theorem dX8_levelIn_27 : decode cX8_levelIn 27 = .ok (.aload_n 0, 1) := by decide +kernel
theorem dX8_levelIn_28 : decode cX8_levelIn 28 = .ok (.getfield 16, 3) := by decide +kernel
theorem dX8_levelIn_31 : decode cX8_levelIn 31 = .ok (.aload_n 0, 1) := by decide +kernel
theorem dX8_levelIn_32 : decode cX8_levelIn 32 = .ok (.getfield 10, 3) := by decide +kernel
theorem dX8_levelIn_35 : decode cX8_levelIn 35 = .ok (.invokevirtual 164, 3) := by decide +kernel
theorem dX8_levelIn_38 : decode cX8_levelIn 38 = .ok (.aload_n 0, 1) := by decide +kernel
theorem dX8_levelIn_39 : decode cX8_levelIn 39 = .ok (.getfield 16, 3) := by decide +kernel
theorem dX8_levelIn_42 : decode cX8_levelIn 42 = .ok (.iload_n 2, 1) := by decide +kernel
theorem dX8_levelIn_43 : decode cX8_levelIn 43 = .ok (.invokevirtual 124, 3) := by decide +kernel
theorem dX8_levelIn_46 : decode cX8_levelIn 46 = .ok (.pop, 1) := by decide +kernel
theorem dX8_levelIn_47 : decode cX8_levelIn 47 = .ok (.aload_n 0, 1) := by decide +kernel
theorem dX8_levelIn_48 : decode cX8_levelIn 48 = .ok (.getfield 16, 3) := by decide +kernel
theorem dX8_levelIn_51 : decode cX8_levelIn 51 = .ok (.iload_n 1, 1) := by decide +kernel
theorem dX8_levelIn_52 : decode cX8_levelIn 52 = .ok (.invokevirtual 204, 3) := by decide +kernel
theorem dX8_levelIn_55 : decode cX8_levelIn 55 = .ok (.astore_n 3, 1) := by decide +kernel
theorem dX8_levelIn_56 : decode cX8_levelIn 56 = .ok (.aload_n 3, 1) := by decide +kernel
theorem dX8_levelIn_57 : decode cX8_levelIn 57 = .ok (.ifnonnull 7, 3) := by decide +kernel
theorem dX8_levelIn_60 : decode cX8_levelIn 60 = .ok (.iconst (-1), 1) := by decide +kernel
theorem dX8_levelIn_61 : decode cX8_levelIn 61 = .ok (.goto 7, 3) := by decide +kernel
theorem dX8_levelIn_64 : decode cX8_levelIn 64 = .ok (.aload_n 3, 1) := by decide +kernel
theorem dX8_levelIn_65 : decode cX8_levelIn 65 = .ok (.getfield 215, 3) := by decide +kernel
theorem dX8_levelIn_68 : decode cX8_levelIn 68 = .ok (.ireturn, 1) := by decide +kernel
theorem dX8_freshness_0 : decode cX8_freshness 0 = .ok (.aload_n 0, 1) := by decide +kernel
theorem dX8_freshness_1 : decode cX8_freshness 1 = .ok (.getfield 10, 3) := by decide +kernel
theorem dX8_freshness_4 : decode cX8_freshness 4 = .ok (.getfield 279, 3) := by decide +kernel
theorem dX8_freshness_7 : decode cX8_freshness 7 = .ok (.iconst 2, 1) := by decide +kernel
theorem dX8_freshness_8 : decode cX8_freshness 8 = .ok (.iaload, 1) := by decide +kernel
theorem dX8_freshness_9 : decode cX8_freshness 9 = .ok (.aload_n 0, 1) := by decide +kernel
theorem dX8_freshness_10 : decode cX8_freshness 10 = .ok (.getfield 10, 3) := by decide +kernel
theorem dX8_freshness_13 : decode cX8_freshness 13 = .ok (.getfield 279, 3) := by decide +kernel
theorem dX8_freshness_16 : decode cX8_freshness 16 = .ok (.iconst 3, 1) := by decide +kernel
theorem dX8_freshness_17 : decode cX8_freshness 17 = .ok (.iaload, 1) := by decide +kernel
theorem dX8_freshness_18 : decode cX8_freshness 18 = .ok (.iadd, 1) := by decide +kernel
theorem dX8_freshness_19 : decode cX8_freshness 19 = .ok (.aload_n 0, 1) := by decide +kernel
theorem dX8_freshness_20 : decode cX8_freshness 20 = .ok (.getfield 10, 3) := by decide +kernel
theorem dX8_freshness_23 : decode cX8_freshness 23 = .ok (.getfield 279, 3) := by decide +kernel
theorem dX8_freshness_26 : decode cX8_freshness 26 = .ok (.iconst 4, 1) := by decide +kernel
theorem dX8_freshness_27 : decode cX8_freshness 27 = .ok (.iaload, 1) := by decide +kernel
theorem dX8_freshness_28 : decode cX8_freshness 28 = .ok (.iadd, 1) := by decide +kernel
theorem dX8_freshness_29 : decode cX8_freshness 29 = .ok (.istore_n 1, 1) := by decide +kernel
theorem dX8_freshness_30 : decode cX8_freshness 30 = .ok (.iload_n 1, 1) := by decide +kernel
theorem dX8_freshness_31 : decode cX8_freshness 31 = .ok (.ifCond .ne 5, 3) := by decide +kernel
theorem dX8_freshness_34 : decode cX8_freshness 34 = .ok (.fconst 0, 1) := by decide +kernel
theorem dX8_freshness_35 : decode cX8_freshness 35 = .ok (.freturn, 1) := by decide +kernel
theorem dX8_freshness_36 : decode cX8_freshness 36 = .ok (.aload_n 0, 1) := by decide +kernel
theorem dX8_freshness_37 : decode cX8_freshness 37 = .ok (.getfield 10, 3) := by decide +kernel
theorem dX8_freshness_40 : decode cX8_freshness 40 = .ok (.getfield 279, 3) := by decide +kernel
theorem dX8_freshness_43 : decode cX8_freshness 43 = .ok (.iconst 2, 1) := by decide +kernel
theorem dX8_freshness_44 : decode cX8_freshness 44 = .ok (.iaload, 1) := by decide +kernel
theorem dX8_freshness_45 : decode cX8_freshness 45 = .ok (.i2f, 1) := by decide +kernel
theorem dX8_freshness_46 : decode cX8_freshness 46 = .ok (.iload_n 1, 1) := by decide +kernel
theorem dX8_freshness_47 : decode cX8_freshness 47 = .ok (.i2f, 1) := by decide +kernel
theorem dX8_freshness_48 : decode cX8_freshness 48 = .ok (.fdiv, 1) := by decide +kernel
theorem dX8_freshness_49 : decode cX8_freshness 49 = .ok (.freturn, 1) := by decide +kernel
theorem dX8_isWire_0 : decode cX8_isWire 0 = .ok (.iload_n 0, 1) := by decide +kernel
theorem dX8_isWire_1 : decode cX8_isWire 1 = .ok (.ifCond .lt 13, 3) := by decide +kernel
theorem dX8_isWire_4 : decode cX8_isWire 4 = .ok (.iload_n 0, 1) := by decide +kernel
theorem dX8_isWire_5 : decode cX8_isWire 5 = .ok (.bipush 6, 2) := by decide +kernel
theorem dX8_isWire_7 : decode cX8_isWire 7 = .ok (.if_icmp .ge 7, 3) := by decide +kernel
theorem dX8_isWire_10 : decode cX8_isWire 10 = .ok (.iconst 1, 1) := by decide +kernel
theorem dX8_isWire_11 : decode cX8_isWire 11 = .ok (.goto 4, 3) := by decide +kernel
theorem dX8_isWire_14 : decode cX8_isWire 14 = .ok (.iconst 0, 1) := by decide +kernel
theorem dX8_isWire_15 : decode cX8_isWire 15 = .ok (.ireturn, 1) := by decide +kernel
theorem dX8_isWord_0 : decode cX8_isWord 0 = .ok (.iload_n 0, 1) := by decide +kernel
theorem dX8_isWord_1 : decode cX8_isWord 1 = .ok (.ifCond .lt 13, 3) := by decide +kernel
theorem dX8_isWord_4 : decode cX8_isWord 4 = .ok (.iload_n 0, 1) := by decide +kernel
theorem dX8_isWord_5 : decode cX8_isWord 5 = .ok (.bipush 32, 2) := by decide +kernel
theorem dX8_isWord_7 : decode cX8_isWord 7 = .ok (.if_icmp .ge 7, 3) := by decide +kernel
theorem dX8_isWord_10 : decode cX8_isWord 10 = .ok (.iconst 1, 1) := by decide +kernel
theorem dX8_isWord_11 : decode cX8_isWord 11 = .ok (.goto 4, 3) := by decide +kernel
theorem dX8_isWord_14 : decode cX8_isWord 14 = .ok (.iconst 0, 1) := by decide +kernel
theorem dX8_isWord_15 : decode cX8_isWord 15 = .ok (.ireturn, 1) := by decide +kernel
theorem dX8_asNumber_0 : decode cX8_asNumber 0 = .ok (.iload_n 0, 1) := by decide +kernel
theorem dX8_asNumber_1 : decode cX8_asNumber 1 = .ok (.ifCond .eq 7, 3) := by decide +kernel
theorem dX8_asNumber_4 : decode cX8_asNumber 4 = .ok (.iconst 1, 1) := by decide +kernel
theorem dX8_asNumber_5 : decode cX8_asNumber 5 = .ok (.goto 4, 3) := by decide +kernel
theorem dX8_asNumber_8 : decode cX8_asNumber 8 = .ok (.iconst 0, 1) := by decide +kernel
theorem dX8_asNumber_9 : decode cX8_asNumber 9 = .ok (.ireturn, 1) := by decide +kernel
theorem dX8_frameBit_0 : decode cX8_frameBit 0 = .ok (.iload_n 1, 1) := by decide +kernel
theorem dX8_frameBit_1 : decode cX8_frameBit 1 = .ok (.iconst 4, 1) := by decide +kernel
theorem dX8_frameBit_2 : decode cX8_frameBit 2 = .ok (.if_icmp .ge 12, 3) := by decide +kernel
theorem dX8_frameBit_5 : decode cX8_frameBit 5 = .ok (.bipush 14, 2) := by decide +kernel
theorem dX8_frameBit_7 : decode cX8_frameBit 7 = .ok (.iconst 3, 1) := by decide +kernel
theorem dX8_frameBit_8 : decode cX8_frameBit 8 = .ok (.iload_n 1, 1) := by decide +kernel
theorem dX8_frameBit_9 : decode cX8_frameBit 9 = .ok (.isub, 1) := by decide +kernel
theorem dX8_frameBit_10 : decode cX8_frameBit 10 = .ok (.ishr, 1) := by decide +kernel
theorem dX8_frameBit_11 : decode cX8_frameBit 11 = .ok (.iconst 1, 1) := by decide +kernel
theorem dX8_frameBit_12 : decode cX8_frameBit 12 = .ok (.iand, 1) := by decide +kernel
theorem dX8_frameBit_13 : decode cX8_frameBit 13 = .ok (.ireturn, 1) := by decide +kernel
theorem dX8_frameBit_14 : decode cX8_frameBit 14 = .ok (.iload_n 1, 1) := by decide +kernel
theorem dX8_frameBit_15 : decode cX8_frameBit 15 = .ok (.iconst 4, 1) := by decide +kernel
theorem dX8_frameBit_16 : decode cX8_frameBit 16 = .ok (.isub, 1) := by decide +kernel
theorem dX8_frameBit_17 : decode cX8_frameBit 17 = .ok (.iconst 2, 1) := by decide +kernel
theorem dX8_frameBit_18 : decode cX8_frameBit 18 = .ok (.idiv, 1) := by decide +kernel
theorem dX8_frameBit_19 : decode cX8_frameBit 19 = .ok (.istore_n 2, 1) := by decide +kernel
theorem dX8_frameBit_20 : decode cX8_frameBit 20 = .ok (.iload_n 0, 1) := by decide +kernel
theorem dX8_frameBit_21 : decode cX8_frameBit 21 = .ok (.iconst 4, 1) := by decide +kernel
theorem dX8_frameBit_22 : decode cX8_frameBit 22 = .ok (.iload_n 2, 1) := by decide +kernel
theorem dX8_frameBit_23 : decode cX8_frameBit 23 = .ok (.isub, 1) := by decide +kernel
theorem dX8_frameBit_24 : decode cX8_frameBit 24 = .ok (.ishr, 1) := by decide +kernel
theorem dX8_frameBit_25 : decode cX8_frameBit 25 = .ok (.iconst 1, 1) := by decide +kernel
theorem dX8_frameBit_26 : decode cX8_frameBit 26 = .ok (.iand, 1) := by decide +kernel
theorem dX8_frameBit_27 : decode cX8_frameBit 27 = .ok (.istore_n 3, 1) := by decide +kernel
theorem dX8_frameBit_28 : decode cX8_frameBit 28 = .ok (.iload_n 1, 1) := by decide +kernel
theorem dX8_frameBit_29 : decode cX8_frameBit 29 = .ok (.iconst 2, 1) := by decide +kernel
theorem dX8_frameBit_30 : decode cX8_frameBit 30 = .ok (.irem, 1) := by decide +kernel
theorem dX8_frameBit_31 : decode cX8_frameBit 31 = .ok (.ifCond .ne 7, 3) := by decide +kernel
theorem dX8_frameBit_34 : decode cX8_frameBit 34 = .ok (.iload_n 3, 1) := by decide +kernel
theorem dX8_frameBit_35 : decode cX8_frameBit 35 = .ok (.goto 6, 3) := by decide +kernel
theorem dX8_frameBit_38 : decode cX8_frameBit 38 = .ok (.iconst 1, 1) := by decide +kernel
theorem dX8_frameBit_39 : decode cX8_frameBit 39 = .ok (.iload_n 3, 1) := by decide +kernel
theorem dX8_frameBit_40 : decode cX8_frameBit 40 = .ok (.isub, 1) := by decide +kernel
theorem dX8_frameBit_41 : decode cX8_frameBit 41 = .ok (.ireturn, 1) := by decide +kernel
theorem dX8_firstFree_0 : decode cX8_firstFree 0 = .ok (.aload_n 0, 1) := by decide +kernel
theorem dX8_firstFree_1 : decode cX8_firstFree 1 = .ok (.astore_n 1, 1) := by decide +kernel
theorem dX8_firstFree_2 : decode cX8_firstFree 2 = .ok (.aload_n 1, 1) := by decide +kernel
theorem dX8_firstFree_3 : decode cX8_firstFree 3 = .ok (.arraylength, 1) := by decide +kernel
theorem dX8_firstFree_4 : decode cX8_firstFree 4 = .ok (.istore_n 2, 1) := by decide +kernel
theorem dX8_firstFree_5 : decode cX8_firstFree 5 = .ok (.iconst 0, 1) := by decide +kernel
theorem dX8_firstFree_6 : decode cX8_firstFree 6 = .ok (.istore_n 3, 1) := by decide +kernel
theorem dX8_firstFree_7 : decode cX8_firstFree 7 = .ok (.iload_n 3, 1) := by decide +kernel
theorem dX8_firstFree_8 : decode cX8_firstFree 8 = .ok (.iload_n 2, 1) := by decide +kernel
theorem dX8_firstFree_9 : decode cX8_firstFree 9 = .ok (.if_icmp .ge 25, 3) := by decide +kernel
theorem dX8_firstFree_12 : decode cX8_firstFree 12 = .ok (.aload_n 1, 1) := by decide +kernel
theorem dX8_firstFree_13 : decode cX8_firstFree 13 = .ok (.iload_n 3, 1) := by decide +kernel
theorem dX8_firstFree_14 : decode cX8_firstFree 14 = .ok (.aaload, 1) := by decide +kernel
theorem dX8_firstFree_15 : decode cX8_firstFree 15 = .ok (.astore 4, 2) := by decide +kernel
theorem dX8_firstFree_17 : decode cX8_firstFree 17 = .ok (.aload 4, 2) := by decide +kernel
theorem dX8_firstFree_19 : decode cX8_firstFree 19 = .ok (.getfield 88, 3) := by decide +kernel
theorem dX8_firstFree_22 : decode cX8_firstFree 22 = .ok (.ifCond .ne 6, 3) := by decide +kernel
theorem dX8_firstFree_25 : decode cX8_firstFree 25 = .ok (.aload 4, 2) := by decide +kernel
theorem dX8_firstFree_27 : decode cX8_firstFree 27 = .ok (.areturn, 1) := by decide +kernel
theorem dX8_firstFree_28 : decode cX8_firstFree 28 = .ok (.iinc 3 1, 3) := by decide +kernel
theorem dX8_firstFree_31 : decode cX8_firstFree 31 = .ok (.goto (-24), 3) := by decide +kernel
theorem dX8_firstFree_34 : decode cX8_firstFree 34 = .ok (.aconst_null, 1) := by decide +kernel
theorem dX8_firstFree_35 : decode cX8_firstFree 35 = .ok (.areturn, 1) := by decide +kernel
theorem dX8_presentAt_0 : decode cX8_presentAt 0 = .ok (.iload_n 1, 1) := by decide +kernel
theorem dX8_presentAt_1 : decode cX8_presentAt 1 = .ok (.ifCond .lt 9, 3) := by decide +kernel
theorem dX8_presentAt_4 : decode cX8_presentAt 4 = .ok (.iload_n 1, 1) := by decide +kernel
theorem dX8_presentAt_5 : decode cX8_presentAt 5 = .ok (.aload_n 0, 1) := by decide +kernel
theorem dX8_presentAt_6 : decode cX8_presentAt 6 = .ok (.arraylength, 1) := by decide +kernel
theorem dX8_presentAt_7 : decode cX8_presentAt 7 = .ok (.if_icmp .lt 5, 3) := by decide +kernel
theorem dX8_presentAt_10 : decode cX8_presentAt 10 = .ok (.aconst_null, 1) := by decide +kernel
theorem dX8_presentAt_11 : decode cX8_presentAt 11 = .ok (.areturn, 1) := by decide +kernel
theorem dX8_presentAt_12 : decode cX8_presentAt 12 = .ok (.aload_n 0, 1) := by decide +kernel
theorem dX8_presentAt_13 : decode cX8_presentAt 13 = .ok (.iload_n 1, 1) := by decide +kernel
theorem dX8_presentAt_14 : decode cX8_presentAt 14 = .ok (.aaload, 1) := by decide +kernel
theorem dX8_presentAt_15 : decode cX8_presentAt 15 = .ok (.getfield 88, 3) := by decide +kernel
theorem dX8_presentAt_18 : decode cX8_presentAt 18 = .ok (.ifCond .eq 9, 3) := by decide +kernel
theorem dX8_presentAt_21 : decode cX8_presentAt 21 = .ok (.aload_n 0, 1) := by decide +kernel
theorem dX8_presentAt_22 : decode cX8_presentAt 22 = .ok (.iload_n 1, 1) := by decide +kernel
theorem dX8_presentAt_23 : decode cX8_presentAt 23 = .ok (.aaload, 1) := by decide +kernel
theorem dX8_presentAt_24 : decode cX8_presentAt 24 = .ok (.goto 4, 3) := by decide +kernel
theorem dX8_presentAt_27 : decode cX8_presentAt 27 = .ok (.aconst_null, 1) := by decide +kernel
theorem dX8_presentAt_28 : decode cX8_presentAt 28 = .ok (.areturn, 1) := by decide +kernel
set_option maxRecDepth 20000 in
theorem ggX8_presentIn_X8_asNumber : GoodIn wsX8_presentIn wsX8_asNumber := goodIn_r _ [5] (by decide +kernel) (by decide +kernel)
set_option maxRecDepth 20000 in
theorem gX8_presentIn_X8_asNumber : GoodIn wsX8_presentIn (va_wsS RX8 110 yX8_asNumber wsX8_asNumber) := goodIn_app (goodIn_of _ (by decide +kernel)) ggX8_presentIn_X8_asNumber
theorem dX8_presentIn_0 : decode cX8_presentIn 0 = .ok (.iconst 0, 1) := by decide +kernel
theorem dX8_presentIn_1 : decode cX8_presentIn 1 = .ok (.istore_n 1, 1) := by decide +kernel
theorem dX8_presentIn_2 : decode cX8_presentIn 2 = .ok (.aload_n 0, 1) := by decide +kernel
theorem dX8_presentIn_3 : decode cX8_presentIn 3 = .ok (.astore_n 2, 1) := by decide +kernel
theorem dX8_presentIn_4 : decode cX8_presentIn 4 = .ok (.aload_n 2, 1) := by decide +kernel
theorem dX8_presentIn_5 : decode cX8_presentIn 5 = .ok (.arraylength, 1) := by decide +kernel
theorem dX8_presentIn_6 : decode cX8_presentIn 6 = .ok (.istore_n 3, 1) := by decide +kernel
theorem dX8_presentIn_7 : decode cX8_presentIn 7 = .ok (.iconst 0, 1) := by decide +kernel
theorem dX8_presentIn_8 : decode cX8_presentIn 8 = .ok (.istore 4, 2) := by decide +kernel
theorem dX8_presentIn_10 : decode cX8_presentIn 10 = .ok (.iload 4, 2) := by decide +kernel
theorem dX8_presentIn_12 : decode cX8_presentIn 12 = .ok (.iload_n 3, 1) := by decide +kernel
theorem dX8_presentIn_13 : decode cX8_presentIn 13 = .ok (.if_icmp .ge 26, 3) := by decide +kernel
theorem dX8_presentIn_16 : decode cX8_presentIn 16 = .ok (.aload_n 2, 1) := by decide +kernel
theorem dX8_presentIn_17 : decode cX8_presentIn 17 = .ok (.iload 4, 2) := by decide +kernel
theorem dX8_presentIn_19 : decode cX8_presentIn 19 = .ok (.aaload, 1) := by decide +kernel
theorem dX8_presentIn_20 : decode cX8_presentIn 20 = .ok (.astore 5, 2) := by decide +kernel
theorem dX8_presentIn_22 : decode cX8_presentIn 22 = .ok (.iload_n 1, 1) := by decide +kernel
theorem dX8_presentIn_23 : decode cX8_presentIn 23 = .ok (.aload 5, 2) := by decide +kernel
theorem dX8_presentIn_25 : decode cX8_presentIn 25 = .ok (.getfield 88, 3) := by decide +kernel
theorem dX8_presentIn_28 : decode cX8_presentIn 28 = .ok (.invokestatic 110, 3) := by decide +kernel
theorem dX8_presentIn_31 : decode cX8_presentIn 31 = .ok (.iadd, 1) := by decide +kernel
theorem dX8_presentIn_32 : decode cX8_presentIn 32 = .ok (.istore_n 1, 1) := by decide +kernel
theorem dX8_presentIn_33 : decode cX8_presentIn 33 = .ok (.iinc 4 1, 3) := by decide +kernel
theorem dX8_presentIn_36 : decode cX8_presentIn 36 = .ok (.goto (-26), 3) := by decide +kernel
theorem dX8_presentIn_39 : decode cX8_presentIn 39 = .ok (.iload_n 1, 1) := by decide +kernel
theorem dX8_presentIn_40 : decode cX8_presentIn 40 = .ok (.ireturn, 1) := by decide +kernel
theorem dX8_copyRow_0 : decode cX8_copyRow 0 = .ok (.iconst 0, 1) := by decide +kernel
theorem dX8_copyRow_1 : decode cX8_copyRow 1 = .ok (.istore_n 2, 1) := by decide +kernel
theorem dX8_copyRow_2 : decode cX8_copyRow 2 = .ok (.iload_n 2, 1) := by decide +kernel
theorem dX8_copyRow_3 : decode cX8_copyRow 3 = .ok (.aload_n 0, 1) := by decide +kernel
theorem dX8_copyRow_4 : decode cX8_copyRow 4 = .ok (.arraylength, 1) := by decide +kernel
theorem dX8_copyRow_5 : decode cX8_copyRow 5 = .ok (.if_icmp .ge 21, 3) := by decide +kernel
theorem dX8_copyRow_8 : decode cX8_copyRow 8 = .ok (.iload_n 2, 1) := by decide +kernel
theorem dX8_copyRow_9 : decode cX8_copyRow 9 = .ok (.aload_n 1, 1) := by decide +kernel
theorem dX8_copyRow_10 : decode cX8_copyRow 10 = .ok (.arraylength, 1) := by decide +kernel
theorem dX8_copyRow_11 : decode cX8_copyRow 11 = .ok (.if_icmp .ge 15, 3) := by decide +kernel
theorem dX8_copyRow_14 : decode cX8_copyRow 14 = .ok (.aload_n 1, 1) := by decide +kernel
theorem dX8_copyRow_15 : decode cX8_copyRow 15 = .ok (.iload_n 2, 1) := by decide +kernel
theorem dX8_copyRow_16 : decode cX8_copyRow 16 = .ok (.aload_n 0, 1) := by decide +kernel
theorem dX8_copyRow_17 : decode cX8_copyRow 17 = .ok (.iload_n 2, 1) := by decide +kernel
theorem dX8_copyRow_18 : decode cX8_copyRow 18 = .ok (.iaload, 1) := by decide +kernel
theorem dX8_copyRow_19 : decode cX8_copyRow 19 = .ok (.iastore, 1) := by decide +kernel
theorem dX8_copyRow_20 : decode cX8_copyRow 20 = .ok (.iinc 2 1, 3) := by decide +kernel
theorem dX8_copyRow_23 : decode cX8_copyRow 23 = .ok (.goto (-21), 3) := by decide +kernel
theorem dX8_copyRow_26 : decode cX8_copyRow 26 = .ok (.return_, 1) := by decide +kernel
