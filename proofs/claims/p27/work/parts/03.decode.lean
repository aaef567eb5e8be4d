theorem dX0_init_0 : decode cX0_init 0 = .ok (.aload_n 0, 1) := by decide +kernel
theorem dX0_init_1 : decode cX0_init 1 = .ok (.invokespecial 3, 3) := by decide +kernel
theorem dX0_init_4 : decode cX0_init 4 = .ok (.return_, 1) := by decide +kernel
theorem dX0_isOf_0 : decode cX0_isOf 0 = .ok (.aload_n 0, 1) := by decide +kernel
theorem dX0_isOf_1 : decode cX0_isOf 1 = .ok (.getfield 9, 3) := by decide +kernel
theorem dX0_isOf_4 : decode cX0_isOf 4 = .ok (.iload_n 2, 1) := by decide +kernel
theorem dX0_isOf_5 : decode cX0_isOf 5 = .ok (.if_icmp .ne 20, 3) := by decide +kernel
theorem dX0_isOf_8 : decode cX0_isOf 8 = .ok (.iload_n 1, 1) := by decide +kernel
theorem dX0_isOf_9 : decode cX0_isOf 9 = .ok (.iconst (-1), 1) := by decide +kernel
theorem dX0_isOf_10 : decode cX0_isOf 10 = .ok (.if_icmp .eq 11, 3) := by decide +kernel
theorem dX0_isOf_13 : decode cX0_isOf 13 = .ok (.iload_n 1, 1) := by decide +kernel
theorem dX0_isOf_14 : decode cX0_isOf 14 = .ok (.aload_n 0, 1) := by decide +kernel
theorem dX0_isOf_15 : decode cX0_isOf 15 = .ok (.getfield 15, 3) := by decide +kernel
theorem dX0_isOf_18 : decode cX0_isOf 18 = .ok (.if_icmp .ne 7, 3) := by decide +kernel
theorem dX0_isOf_21 : decode cX0_isOf 21 = .ok (.iconst 1, 1) := by decide +kernel
theorem dX0_isOf_22 : decode cX0_isOf 22 = .ok (.goto 4, 3) := by decide +kernel
theorem dX0_isOf_25 : decode cX0_isOf 25 = .ok (.iconst 0, 1) := by decide +kernel
theorem dX0_isOf_26 : decode cX0_isOf 26 = .ok (.ireturn, 1) := by decide +kernel
theorem dX0_isBy_0 : decode cX0_isBy 0 = .ok (.iload_n 1, 1) := by decide +kernel
theorem dX0_isBy_1 : decode cX0_isBy 1 = .ok (.iconst (-1), 1) := by decide +kernel
theorem dX0_isBy_2 : decode cX0_isBy 2 = .ok (.if_icmp .eq 11, 3) := by decide +kernel
theorem dX0_isBy_5 : decode cX0_isBy 5 = .ok (.iload_n 1, 1) := by decide +kernel
theorem dX0_isBy_6 : decode cX0_isBy 6 = .ok (.aload_n 0, 1) := by decide +kernel
theorem dX0_isBy_7 : decode cX0_isBy 7 = .ok (.getfield 18, 3) := by decide +kernel
theorem dX0_isBy_10 : decode cX0_isBy 10 = .ok (.if_icmp .ne 7, 3) := by decide +kernel
theorem dX0_isBy_13 : decode cX0_isBy 13 = .ok (.iconst 1, 1) := by decide +kernel
theorem dX0_isBy_14 : decode cX0_isBy 14 = .ok (.goto 4, 3) := by decide +kernel
theorem dX0_isBy_17 : decode cX0_isBy 17 = .ok (.iconst 0, 1) := by decide +kernel
theorem dX0_isBy_18 : decode cX0_isBy 18 = .ok (.ireturn, 1) := by decide +kernel
theorem dX0_isAlive_0 : decode cX0_isAlive 0 = .ok (.aload_n 0, 1) := by decide +kernel
theorem dX0_isAlive_1 : decode cX0_isAlive 1 = .ok (.getfield 21, 3) := by decide +kernel
theorem dX0_isAlive_4 : decode cX0_isAlive 4 = .ok (.ifCond .eq 19, 3) := by decide +kernel
theorem dX0_isAlive_7 : decode cX0_isAlive 7 = .ok (.aload_n 0, 1) := by decide +kernel
theorem dX0_isAlive_8 : decode cX0_isAlive 8 = .ok (.getfield 21, 3) := by decide +kernel
theorem dX0_isAlive_11 : decode cX0_isAlive 11 = .ok (.iconst 1, 1) := by decide +kernel
theorem dX0_isAlive_12 : decode cX0_isAlive 12 = .ok (.if_icmp .eq 11, 3) := by decide +kernel
theorem dX0_isAlive_15 : decode cX0_isAlive 15 = .ok (.aload_n 0, 1) := by decide +kernel
theorem dX0_isAlive_16 : decode cX0_isAlive 16 = .ok (.getfield 21, 3) := by decide +kernel
theorem dX0_isAlive_19 : decode cX0_isAlive 19 = .ok (.iconst 2, 1) := by decide +kernel
theorem dX0_isAlive_20 : decode cX0_isAlive 20 = .ok (.if_icmp .ne 7, 3) := by decide +kernel
theorem dX0_isAlive_23 : decode cX0_isAlive 23 = .ok (.iconst 1, 1) := by decide +kernel
theorem dX0_isAlive_24 : decode cX0_isAlive 24 = .ok (.goto 4, 3) := by decide +kernel
theorem dX0_isAlive_27 : decode cX0_isAlive 27 = .ok (.iconst 0, 1) := by decide +kernel
theorem dX0_isAlive_28 : decode cX0_isAlive 28 = .ok (.ireturn, 1) := by decide +kernel
theorem dX0_takesPlaces_0 : decode cX0_takesPlaces 0 = .ok (.aload_n 0, 1) := by decide +kernel
theorem dX0_takesPlaces_1 : decode cX0_takesPlaces 1 = .ok (.getfield 21, 3) := by decide +kernel
theorem dX0_takesPlaces_4 : decode cX0_takesPlaces 4 = .ok (.iconst 1, 1) := by decide +kernel
theorem dX0_takesPlaces_5 : decode cX0_takesPlaces 5 = .ok (.if_icmp .eq 20, 3) := by decide +kernel
theorem dX0_takesPlaces_8 : decode cX0_takesPlaces 8 = .ok (.aload_n 0, 1) := by decide +kernel
theorem dX0_takesPlaces_9 : decode cX0_takesPlaces 9 = .ok (.getfield 21, 3) := by decide +kernel
theorem dX0_takesPlaces_12 : decode cX0_takesPlaces 12 = .ok (.iconst 5, 1) := by decide +kernel
theorem dX0_takesPlaces_13 : decode cX0_takesPlaces 13 = .ok (.if_icmp .eq 12, 3) := by decide +kernel
theorem dX0_takesPlaces_16 : decode cX0_takesPlaces 16 = .ok (.aload_n 0, 1) := by decide +kernel
theorem dX0_takesPlaces_17 : decode cX0_takesPlaces 17 = .ok (.getfield 21, 3) := by decide +kernel
theorem dX0_takesPlaces_20 : decode cX0_takesPlaces 20 = .ok (.bipush 6, 2) := by decide +kernel
theorem dX0_takesPlaces_22 : decode cX0_takesPlaces 22 = .ok (.if_icmp .ne 7, 3) := by decide +kernel
theorem dX0_takesPlaces_25 : decode cX0_takesPlaces 25 = .ok (.iconst 1, 1) := by decide +kernel
theorem dX0_takesPlaces_26 : decode cX0_takesPlaces 26 = .ok (.goto 4, 3) := by decide +kernel
theorem dX0_takesPlaces_29 : decode cX0_takesPlaces 29 = .ok (.iconst 0, 1) := by decide +kernel
theorem dX0_takesPlaces_30 : decode cX0_takesPlaces 30 = .ok (.ireturn, 1) := by decide +kernel
theorem dX0_copyFrom_0 : decode cX0_copyFrom 0 = .ok (.aload_n 0, 1) := by decide +kernel
theorem dX0_copyFrom_1 : decode cX0_copyFrom 1 = .ok (.aload_n 1, 1) := by decide +kernel
theorem dX0_copyFrom_2 : decode cX0_copyFrom 2 = .ok (.getfield 18, 3) := by decide +kernel
theorem dX0_copyFrom_5 : decode cX0_copyFrom 5 = .ok (.putfield 18, 3) := by decide +kernel
theorem dX0_copyFrom_8 : decode cX0_copyFrom 8 = .ok (.aload_n 0, 1) := by decide +kernel
theorem dX0_copyFrom_9 : decode cX0_copyFrom 9 = .ok (.aload_n 1, 1) := by decide +kernel
theorem dX0_copyFrom_10 : decode cX0_copyFrom 10 = .ok (.getfield 15, 3) := by decide +kernel
theorem dX0_copyFrom_13 : decode cX0_copyFrom 13 = .ok (.putfield 15, 3) := by decide +kernel
theorem dX0_copyFrom_16 : decode cX0_copyFrom 16 = .ok (.aload_n 0, 1) := by decide +kernel
theorem dX0_copyFrom_17 : decode cX0_copyFrom 17 = .ok (.aload_n 1, 1) := by decide +kernel
theorem dX0_copyFrom_18 : decode cX0_copyFrom 18 = .ok (.getfield 9, 3) := by decide +kernel
theorem dX0_copyFrom_21 : decode cX0_copyFrom 21 = .ok (.putfield 9, 3) := by decide +kernel
theorem dX0_copyFrom_24 : decode cX0_copyFrom 24 = .ok (.aload_n 0, 1) := by decide +kernel
theorem dX0_copyFrom_25 : decode cX0_copyFrom 25 = .ok (.aload_n 1, 1) := by decide +kernel
theorem dX0_copyFrom_26 : decode cX0_copyFrom 26 = .ok (.getfield 24, 3) := by decide +kernel
theorem dX0_copyFrom_29 : decode cX0_copyFrom 29 = .ok (.putfield 24, 3) := by decide +kernel
theorem dX0_copyFrom_32 : decode cX0_copyFrom 32 = .ok (.aload_n 0, 1) := by decide +kernel
theorem dX0_copyFrom_33 : decode cX0_copyFrom 33 = .ok (.aload_n 1, 1) := by decide +kernel
theorem dX0_copyFrom_34 : decode cX0_copyFrom 34 = .ok (.getfield 27, 3) := by decide +kernel
theorem dX0_copyFrom_37 : decode cX0_copyFrom 37 = .ok (.putfield 27, 3) := by decide +kernel
theorem dX0_copyFrom_40 : decode cX0_copyFrom 40 = .ok (.aload_n 0, 1) := by decide +kernel
theorem dX0_copyFrom_41 : decode cX0_copyFrom 41 = .ok (.aload_n 1, 1) := by decide +kernel
theorem dX0_copyFrom_42 : decode cX0_copyFrom 42 = .ok (.getfield 21, 3) := by decide +kernel
theorem dX0_copyFrom_45 : decode cX0_copyFrom 45 = .ok (.putfield 21, 3) := by decide +kernel
theorem dX0_copyFrom_48 : decode cX0_copyFrom 48 = .ok (.aload_n 0, 1) := by decide +kernel
theorem dX0_copyFrom_49 : decode cX0_copyFrom 49 = .ok (.aload_n 1, 1) := by decide +kernel
theorem dX0_copyFrom_50 : decode cX0_copyFrom 50 = .ok (.getfield 30, 3) := by decide +kernel
theorem dX0_copyFrom_53 : decode cX0_copyFrom 53 = .ok (.putfield 30, 3) := by decide +kernel
theorem dX0_copyFrom_56 : decode cX0_copyFrom 56 = .ok (.aload_n 0, 1) := by decide +kernel
theorem dX0_copyFrom_57 : decode cX0_copyFrom 57 = .ok (.aload_n 1, 1) := by decide +kernel
theorem dX0_copyFrom_58 : decode cX0_copyFrom 58 = .ok (.getfield 33, 3) := by decide +kernel
theorem dX0_copyFrom_61 : decode cX0_copyFrom 61 = .ok (.putfield 33, 3) := by decide +kernel
theorem dX0_copyFrom_64 : decode cX0_copyFrom 64 = .ok (.aload_n 0, 1) := by decide +kernel
theorem dX0_copyFrom_65 : decode cX0_copyFrom 65 = .ok (.aload_n 1, 1) := by decide +kernel
theorem dX0_copyFrom_66 : decode cX0_copyFrom 66 = .ok (.getfield 36, 3) := by decide +kernel
theorem dX0_copyFrom_69 : decode cX0_copyFrom 69 = .ok (.putfield 36, 3) := by decide +kernel
theorem dX0_copyFrom_72 : decode cX0_copyFrom 72 = .ok (.return_, 1) := by decide +kernel
theorem dX1_init_0 : decode cX1_init 0 = .ok (.aload_n 0, 1) := by decide +kernel
theorem dX1_init_1 : decode cX1_init 1 = .ok (.invokespecial 3, 3) := by decide +kernel
theorem dX1_init_4 : decode cX1_init 4 = .ok (.aload_n 0, 1) := by decide +kernel
theorem dX1_init_5 : decode cX1_init 5 = .ok (.bipush (-6), 2) := by decide +kernel
theorem dX1_init_7 : decode cX1_init 7 = .ok (.putfield 9, 3) := by decide +kernel
theorem dX1_init_10 : decode cX1_init 10 = .ok (.return_, 1) := by decide +kernel
theorem dX1_isBarredOn_0 : decode cX1_isBarredOn 0 = .ok (.aload_n 0, 1) := by decide +kernel
theorem dX1_isBarredOn_1 : decode cX1_isBarredOn 1 = .ok (.getfield 9, 3) := by decide +kernel
theorem dX1_isBarredOn_4 : decode cX1_isBarredOn 4 = .ok (.iload_n 1, 1) := by decide +kernel
theorem dX1_isBarredOn_5 : decode cX1_isBarredOn 5 = .ok (.if_icmp .lt 7, 3) := by decide +kernel
theorem dX1_isBarredOn_8 : decode cX1_isBarredOn 8 = .ok (.iconst 1, 1) := by decide +kernel
theorem dX1_isBarredOn_9 : decode cX1_isBarredOn 9 = .ok (.goto 4, 3) := by decide +kernel
theorem dX1_isBarredOn_12 : decode cX1_isBarredOn 12 = .ok (.iconst 0, 1) := by decide +kernel
theorem dX1_isBarredOn_13 : decode cX1_isBarredOn 13 = .ok (.ireturn, 1) := by decide +kernel
theorem dX1_strike_0 : decode cX1_strike 0 = .ok (.aload_n 0, 1) := by decide +kernel
theorem dX1_strike_1 : decode cX1_strike 1 = .ok (.dup, 1) := by decide +kernel
theorem dX1_strike_2 : decode cX1_strike 2 = .ok (.getfield 15, 3) := by decide +kernel
theorem dX1_strike_5 : decode cX1_strike 5 = .ok (.iconst 1, 1) := by decide +kernel
theorem dX1_strike_6 : decode cX1_strike 6 = .ok (.iadd, 1) := by decide +kernel
theorem dX1_strike_7 : decode cX1_strike 7 = .ok (.putfield 15, 3) := by decide +kernel
theorem dX1_strike_10 : decode cX1_strike 10 = .ok (.aload_n 0, 1) := by decide +kernel
theorem dX1_strike_11 : decode cX1_strike 11 = .ok (.getfield 15, 3) := by decide +kernel
theorem dX1_strike_14 : decode cX1_strike 14 = .ok (.iload_n 1, 1) := by decide +kernel
theorem dX1_strike_15 : decode cX1_strike 15 = .ok (.if_icmp .lt 20, 3) := by decide +kernel
theorem dX1_strike_18 : decode cX1_strike 18 = .ok (.aload_n 0, 1) := by decide +kernel
theorem dX1_strike_19 : decode cX1_strike 19 = .ok (.iconst 0, 1) := by decide +kernel
theorem dX1_strike_20 : decode cX1_strike 20 = .ok (.putfield 15, 3) := by decide +kernel
theorem dX1_strike_23 : decode cX1_strike 23 = .ok (.aload_n 0, 1) := by decide +kernel
theorem dX1_strike_24 : decode cX1_strike 24 = .ok (.aload_n 0, 1) := by decide +kernel
theorem dX1_strike_25 : decode cX1_strike 25 = .ok (.getfield 9, 3) := by decide +kernel
theorem dX1_strike_28 : decode cX1_strike 28 = .ok (.iload_n 2, 1) := by decide +kernel
theorem dX1_strike_29 : decode cX1_strike 29 = .ok (.invokestatic 18, 3) := by decide +kernel
theorem dX1_strike_32 : decode cX1_strike 32 = .ok (.putfield 9, 3) := by decide +kernel
theorem dX1_strike_35 : decode cX1_strike 35 = .ok (.return_, 1) := by decide +kernel
theorem dX1_copyFrom_0 : decode cX1_copyFrom 0 = .ok (.aload_n 0, 1) := by decide +kernel
theorem dX1_copyFrom_1 : decode cX1_copyFrom 1 = .ok (.aload_n 1, 1) := by decide +kernel
theorem dX1_copyFrom_2 : decode cX1_copyFrom 2 = .ok (.getfield 24, 3) := by decide +kernel
theorem dX1_copyFrom_5 : decode cX1_copyFrom 5 = .ok (.putfield 24, 3) := by decide +kernel
theorem dX1_copyFrom_8 : decode cX1_copyFrom 8 = .ok (.aload_n 0, 1) := by decide +kernel
theorem dX1_copyFrom_9 : decode cX1_copyFrom 9 = .ok (.aload_n 1, 1) := by decide +kernel
theorem dX1_copyFrom_10 : decode cX1_copyFrom 10 = .ok (.getfield 15, 3) := by decide +kernel
theorem dX1_copyFrom_13 : decode cX1_copyFrom 13 = .ok (.putfield 15, 3) := by decide +kernel
theorem dX1_copyFrom_16 : decode cX1_copyFrom 16 = .ok (.aload_n 0, 1) := by decide +kernel
theorem dX1_copyFrom_17 : decode cX1_copyFrom 17 = .ok (.aload_n 1, 1) := by decide +kernel
theorem dX1_copyFrom_18 : decode cX1_copyFrom 18 = .ok (.getfield 9, 3) := by decide +kernel
theorem dX1_copyFrom_21 : decode cX1_copyFrom 21 = .ok (.putfield 9, 3) := by decide +kernel
theorem dX1_copyFrom_24 : decode cX1_copyFrom 24 = .ok (.return_, 1) := by decide +kernel
theorem dX2_init_0 : decode cX2_init 0 = .ok (.aload_n 0, 1) := by decide +kernel
theorem dX2_init_1 : decode cX2_init 1 = .ok (.invokespecial 3, 3) := by decide +kernel
theorem dX2_init_4 : decode cX2_init 4 = .ok (.aload_n 0, 1) := by decide +kernel
theorem dX2_init_5 : decode cX2_init 5 = .ok (.bipush 40, 2) := by decide +kernel
theorem dX2_init_7 : decode cX2_init 7 = .ok (.newarray .int, 2) := by decide +kernel
theorem dX2_init_9 : decode cX2_init 9 = .ok (.putfield 9, 3) := by decide +kernel
theorem dX2_init_12 : decode cX2_init 12 = .ok (.aload_n 0, 1) := by decide +kernel
theorem dX2_init_13 : decode cX2_init 13 = .ok (.bipush 40, 2) := by decide +kernel
theorem dX2_init_15 : decode cX2_init 15 = .ok (.newarray .int, 2) := by decide +kernel
theorem dX2_init_17 : decode cX2_init 17 = .ok (.putfield 15, 3) := by decide +kernel
theorem dX2_init_20 : decode cX2_init 20 = .ok (.aload_n 0, 1) := by decide +kernel
theorem dX2_init_21 : decode cX2_init 21 = .ok (.bipush 40, 2) := by decide +kernel
theorem dX2_init_23 : decode cX2_init 23 = .ok (.newarray .int, 2) := by decide +kernel
theorem dX2_init_25 : decode cX2_init 25 = .ok (.putfield 18, 3) := by decide +kernel
theorem dX2_init_28 : decode cX2_init 28 = .ok (.aload_n 0, 1) := by decide +kernel
theorem dX2_init_29 : decode cX2_init 29 = .ok (.bipush 40, 2) := by decide +kernel
theorem dX2_init_31 : decode cX2_init 31 = .ok (.newarray .boolean, 2) := by decide +kernel
theorem dX2_init_33 : decode cX2_init 33 = .ok (.putfield 21, 3) := by decide +kernel
theorem dX2_init_36 : decode cX2_init 36 = .ok (.aload_n 0, 1) := by decide +kernel
theorem dX2_init_37 : decode cX2_init 37 = .ok (.bipush 40, 2) := by decide +kernel
theorem dX2_init_39 : decode cX2_init 39 = .ok (.newarray .boolean, 2) := by decide +kernel
theorem dX2_init_41 : decode cX2_init 41 = .ok (.putfield 25, 3) := by decide +kernel
theorem dX2_init_44 : decode cX2_init 44 = .ok (.return_, 1) := by decide +kernel
set_option maxRecDepth 20000 in
theorem ggX2_enterAll_X0_isOf : GoodIn wsX2_enterAll wsX0_isOf := goodIn_r _ [14, 15, 16, 53, 54, 55, 56, 57, 58, 59, 60, 61] rfl (by decide +kernel)
set_option maxRecDepth 20000 in
theorem gX2_enterAll_X0_isOf : GoodIn wsX2_enterAll (wsV RX2 49 RX0 yX0_isOf wsX0_isOf) := goodIn_app (goodIn_of _ (by decide +kernel)) ggX2_enterAll_X0_isOf
set_option maxRecDepth 20000 in
theorem ggX2_enterAll_X3_isBarred : GoodIn wsX2_enterAll wsX3_isBarred := goodIn_r _ [21, 22, 23, 24, 25, 26, 27, 28, 29, 30, 44, 45, 46, 47, 48, 49, 50, 51, 52, 53, 54, 55, 56, 57, 58, 59, 60, 61, 62, 63, 64] rfl (by decide +kernel)
set_option maxRecDepth 20000 in
theorem gX2_enterAll_X3_isBarred : GoodIn wsX2_enterAll (wsV RX2 53 RX3 yX3_isBarred wsX3_isBarred) := goodIn_app (goodIn_of _ (by decide +kernel)) ggX2_enterAll_X3_isBarred
set_option maxRecDepth 20000 in
theorem ggX2_enterAll_X3_ticketsOf : GoodIn wsX2_enterAll wsX3_ticketsOf := goodIn_r _ [34, 35, 22, 23, 36, 44, 45, 46, 47, 48, 49, 50, 51, 52, 53, 54, 55, 56, 57, 58, 59, 60, 61, 62, 63, 64] rfl (by decide +kernel)
set_option maxRecDepth 20000 in
theorem gX2_enterAll_X3_ticketsOf : GoodIn wsX2_enterAll (wsV RX2 60 RX3 yX3_ticketsOf wsX3_ticketsOf) := goodIn_app (goodIn_of _ (by decide +kernel)) ggX2_enterAll_X3_ticketsOf
theorem dX2_enterAll_0 : decode cX2_enterAll 0 = .ok (.aload_n 0, 1) := by decide +kernel
theorem dX2_enterAll_1 : decode cX2_enterAll 1 = .ok (.iconst 0, 1) := by decide +kernel
theorem dX2_enterAll_2 : decode cX2_enterAll 2 = .ok (.putfield 28, 3) := by decide +kernel
theorem dX2_enterAll_5 : decode cX2_enterAll 5 = .ok (.aload_n 0, 1) := by decide +kernel
theorem dX2_enterAll_6 : decode cX2_enterAll 6 = .ok (.iconst 0, 1) := by decide +kernel
theorem dX2_enterAll_7 : decode cX2_enterAll 7 = .ok (.putfield 32, 3) := by decide +kernel
theorem dX2_enterAll_10 : decode cX2_enterAll 10 = .ok (.iconst 0, 1) := by decide +kernel
theorem dX2_enterAll_11 : decode cX2_enterAll 11 = .ok (.istore 4, 2) := by decide +kernel
theorem dX2_enterAll_13 : decode cX2_enterAll 13 = .ok (.iload 4, 2) := by decide +kernel
theorem dX2_enterAll_15 : decode cX2_enterAll 15 = .ok (.aload_n 1, 1) := by decide +kernel
theorem dX2_enterAll_16 : decode cX2_enterAll 16 = .ok (.getfield 35, 3) := by decide +kernel
theorem dX2_enterAll_19 : decode cX2_enterAll 19 = .ok (.if_icmp .ge 113, 3) := by decide +kernel
theorem dX2_enterAll_22 : decode cX2_enterAll 22 = .ok (.aload_n 1, 1) := by decide +kernel
theorem dX2_enterAll_23 : decode cX2_enterAll 23 = .ok (.getfield 40, 3) := by decide +kernel
theorem dX2_enterAll_26 : decode cX2_enterAll 26 = .ok (.iload 4, 2) := by decide +kernel
theorem dX2_enterAll_28 : decode cX2_enterAll 28 = .ok (.aaload, 1) := by decide +kernel
theorem dX2_enterAll_29 : decode cX2_enterAll 29 = .ok (.astore 5, 2) := by decide +kernel
theorem dX2_enterAll_31 : decode cX2_enterAll 31 = .ok (.aload 5, 2) := by decide +kernel
theorem dX2_enterAll_33 : decode cX2_enterAll 33 = .ok (.getfield 44, 3) := by decide +kernel
theorem dX2_enterAll_36 : decode cX2_enterAll 36 = .ok (.ifCond .ne 90, 3) := by decide +kernel
theorem dX2_enterAll_39 : decode cX2_enterAll 39 = .ok (.aload 5, 2) := by decide +kernel
theorem dX2_enterAll_41 : decode cX2_enterAll 41 = .ok (.iload_n 2, 1) := by decide +kernel
theorem dX2_enterAll_42 : decode cX2_enterAll 42 = .ok (.iload_n 3, 1) := by decide +kernel
theorem dX2_enterAll_43 : decode cX2_enterAll 43 = .ok (.invokevirtual 49, 3) := by decide +kernel
theorem dX2_enterAll_46 : decode cX2_enterAll 46 = .ok (.ifCond .eq 80, 3) := by decide +kernel
theorem dX2_enterAll_49 : decode cX2_enterAll 49 = .ok (.aload_n 1, 1) := by decide +kernel
theorem dX2_enterAll_50 : decode cX2_enterAll 50 = .ok (.aload 5, 2) := by decide +kernel
theorem dX2_enterAll_52 : decode cX2_enterAll 52 = .ok (.invokevirtual 53, 3) := by decide +kernel
theorem dX2_enterAll_55 : decode cX2_enterAll 55 = .ok (.ifCond .ne 71, 3) := by decide +kernel
theorem dX2_enterAll_58 : decode cX2_enterAll 58 = .ok (.aload_n 0, 1) := by decide +kernel
theorem dX2_enterAll_59 : decode cX2_enterAll 59 = .ok (.getfield 9, 3) := by decide +kernel
theorem dX2_enterAll_62 : decode cX2_enterAll 62 = .ok (.aload_n 0, 1) := by decide +kernel
theorem dX2_enterAll_63 : decode cX2_enterAll 63 = .ok (.getfield 28, 3) := by decide +kernel
theorem dX2_enterAll_66 : decode cX2_enterAll 66 = .ok (.iload 4, 2) := by decide +kernel
theorem dX2_enterAll_68 : decode cX2_enterAll 68 = .ok (.iastore, 1) := by decide +kernel
theorem dX2_enterAll_69 : decode cX2_enterAll 69 = .ok (.aload_n 0, 1) := by decide +kernel
theorem dX2_enterAll_70 : decode cX2_enterAll 70 = .ok (.getfield 15, 3) := by decide +kernel
theorem dX2_enterAll_73 : decode cX2_enterAll 73 = .ok (.aload_n 0, 1) := by decide +kernel
theorem dX2_enterAll_74 : decode cX2_enterAll 74 = .ok (.getfield 28, 3) := by decide +kernel
theorem dX2_enterAll_77 : decode cX2_enterAll 77 = .ok (.aload 5, 2) := by decide +kernel
theorem dX2_enterAll_79 : decode cX2_enterAll 79 = .ok (.getfield 57, 3) := by decide +kernel
theorem dX2_enterAll_82 : decode cX2_enterAll 82 = .ok (.iastore, 1) := by decide +kernel
theorem dX2_enterAll_83 : decode cX2_enterAll 83 = .ok (.aload_n 0, 1) := by decide +kernel
theorem dX2_enterAll_84 : decode cX2_enterAll 84 = .ok (.getfield 18, 3) := by decide +kernel
theorem dX2_enterAll_87 : decode cX2_enterAll 87 = .ok (.aload_n 0, 1) := by decide +kernel
theorem dX2_enterAll_88 : decode cX2_enterAll 88 = .ok (.getfield 28, 3) := by decide +kernel
theorem dX2_enterAll_91 : decode cX2_enterAll 91 = .ok (.aload_n 1, 1) := by decide +kernel
theorem dX2_enterAll_92 : decode cX2_enterAll 92 = .ok (.aload 5, 2) := by decide +kernel
theorem dX2_enterAll_94 : decode cX2_enterAll 94 = .ok (.invokevirtual 60, 3) := by decide +kernel
theorem dX2_enterAll_97 : decode cX2_enterAll 97 = .ok (.iastore, 1) := by decide +kernel
theorem dX2_enterAll_98 : decode cX2_enterAll 98 = .ok (.aload_n 0, 1) := by decide +kernel
theorem dX2_enterAll_99 : decode cX2_enterAll 99 = .ok (.dup, 1) := by decide +kernel
theorem dX2_enterAll_100 : decode cX2_enterAll 100 = .ok (.getfield 32, 3) := by decide +kernel
theorem dX2_enterAll_103 : decode cX2_enterAll 103 = .ok (.aload_n 0, 1) := by decide +kernel
theorem dX2_enterAll_104 : decode cX2_enterAll 104 = .ok (.getfield 18, 3) := by decide +kernel
theorem dX2_enterAll_107 : decode cX2_enterAll 107 = .ok (.aload_n 0, 1) := by decide +kernel
theorem dX2_enterAll_108 : decode cX2_enterAll 108 = .ok (.getfield 28, 3) := by decide +kernel
theorem dX2_enterAll_111 : decode cX2_enterAll 111 = .ok (.iaload, 1) := by decide +kernel
theorem dX2_enterAll_112 : decode cX2_enterAll 112 = .ok (.iadd, 1) := by decide +kernel
theorem dX2_enterAll_113 : decode cX2_enterAll 113 = .ok (.putfield 32, 3) := by decide +kernel
theorem dX2_enterAll_116 : decode cX2_enterAll 116 = .ok (.aload_n 0, 1) := by decide +kernel
theorem dX2_enterAll_117 : decode cX2_enterAll 117 = .ok (.dup, 1) := by decide +kernel
theorem dX2_enterAll_118 : decode cX2_enterAll 118 = .ok (.getfield 28, 3) := by decide +kernel
theorem dX2_enterAll_121 : decode cX2_enterAll 121 = .ok (.iconst 1, 1) := by decide +kernel
theorem dX2_enterAll_122 : decode cX2_enterAll 122 = .ok (.iadd, 1) := by decide +kernel
theorem dX2_enterAll_123 : decode cX2_enterAll 123 = .ok (.putfield 28, 3) := by decide +kernel
theorem dX2_enterAll_126 : decode cX2_enterAll 126 = .ok (.iinc 4 1, 3) := by decide +kernel
theorem dX2_enterAll_129 : decode cX2_enterAll 129 = .ok (.goto (-116), 3) := by decide +kernel
theorem dX2_enterAll_132 : decode cX2_enterAll 132 = .ok (.return_, 1) := by decide +kernel
theorem dX2_entryOf_0 : decode cX2_entryOf 0 = .ok (.iconst 0, 1) := by decide +kernel
theorem dX2_entryOf_1 : decode cX2_entryOf 1 = .ok (.istore_n 2, 1) := by decide +kernel
theorem dX2_entryOf_2 : decode cX2_entryOf 2 = .ok (.iload_n 2, 1) := by decide +kernel
theorem dX2_entryOf_3 : decode cX2_entryOf 3 = .ok (.aload_n 0, 1) := by decide +kernel
theorem dX2_entryOf_4 : decode cX2_entryOf 4 = .ok (.getfield 28, 3) := by decide +kernel
theorem dX2_entryOf_7 : decode cX2_entryOf 7 = .ok (.if_icmp .ge 21, 3) := by decide +kernel
theorem dX2_entryOf_10 : decode cX2_entryOf 10 = .ok (.aload_n 0, 1) := by decide +kernel
theorem dX2_entryOf_11 : decode cX2_entryOf 11 = .ok (.getfield 9, 3) := by decide +kernel
theorem dX2_entryOf_14 : decode cX2_entryOf 14 = .ok (.iload_n 2, 1) := by decide +kernel
theorem dX2_entryOf_15 : decode cX2_entryOf 15 = .ok (.iaload, 1) := by decide +kernel
theorem dX2_entryOf_16 : decode cX2_entryOf 16 = .ok (.iload_n 1, 1) := by decide +kernel
theorem dX2_entryOf_17 : decode cX2_entryOf 17 = .ok (.if_icmp .ne 5, 3) := by decide +kernel
theorem dX2_entryOf_20 : decode cX2_entryOf 20 = .ok (.iload_n 2, 1) := by decide +kernel
theorem dX2_entryOf_21 : decode cX2_entryOf 21 = .ok (.ireturn, 1) := by decide +kernel
theorem dX2_entryOf_22 : decode cX2_entryOf 22 = .ok (.iinc 2 1, 3) := by decide +kernel
theorem dX2_entryOf_25 : decode cX2_entryOf 25 = .ok (.goto (-23), 3) := by decide +kernel
theorem dX2_entryOf_28 : decode cX2_entryOf 28 = .ok (.bipush (-6), 2) := by decide +kernel
theorem dX2_entryOf_30 : decode cX2_entryOf 30 = .ok (.ireturn, 1) := by decide +kernel
set_option maxRecDepth 20000 in
theorem ggX2_hold_X2_seedBehind : GoodIn wsX2_hold wsX2_seedBehind := goodIn_r _ [10, 11, 12] rfl (by decide +kernel)
set_option maxRecDepth 20000 in
theorem gX2_hold_X2_seedBehind : GoodIn wsX2_hold (va_wsS RX2 64 yX2_seedBehind wsX2_seedBehind) := goodIn_app (goodIn_of _ (by decide +kernel)) ggX2_hold_X2_seedBehind
set_option maxRecDepth 20000 in
theorem ggX2_hold_X2_entryAt : GoodIn wsX2_hold wsX2_entryAt := goodIn_r _ [16, 2, 3, 4, 17, 18, 19, 20, 21, 22, 23] rfl (by decide +kernel)
set_option maxRecDepth 20000 in
theorem gX2_hold_X2_entryAt : GoodIn wsX2_hold (wsV RX2 68 RX2 yX2_entryAt wsX2_entryAt) := goodIn_app (goodIn_of _ (by decide +kernel)) ggX2_hold_X2_entryAt
theorem dX2_hold_0 : decode cX2_hold 0 = .ok (.iload_n 1, 1) := by decide +kernel
theorem dX2_hold_1 : decode cX2_hold 1 = .ok (.istore_n 3, 1) := by decide +kernel
theorem dX2_hold_2 : decode cX2_hold 2 = .ok (.iload_n 2, 1) := by decide +kernel
theorem dX2_hold_3 : decode cX2_hold 3 = .ok (.istore 4, 2) := by decide +kernel
theorem dX2_hold_5 : decode cX2_hold 5 = .ok (.aload_n 0, 1) := by decide +kernel
theorem dX2_hold_6 : decode cX2_hold 6 = .ok (.getfield 32, 3) := by decide +kernel
theorem dX2_hold_9 : decode cX2_hold 9 = .ok (.istore 5, 2) := by decide +kernel
theorem dX2_hold_11 : decode cX2_hold 11 = .ok (.iconst 0, 1) := by decide +kernel
theorem dX2_hold_12 : decode cX2_hold 12 = .ok (.istore 6, 2) := by decide +kernel
theorem dX2_hold_14 : decode cX2_hold 14 = .ok (.iload 6, 2) := by decide +kernel
theorem dX2_hold_16 : decode cX2_hold 16 = .ok (.aload_n 0, 1) := by decide +kernel
theorem dX2_hold_17 : decode cX2_hold 17 = .ok (.getfield 28, 3) := by decide +kernel
theorem dX2_hold_20 : decode cX2_hold 20 = .ok (.if_icmp .ge 17, 3) := by decide +kernel
theorem dX2_hold_23 : decode cX2_hold 23 = .ok (.aload_n 0, 1) := by decide +kernel
theorem dX2_hold_24 : decode cX2_hold 24 = .ok (.getfield 21, 3) := by decide +kernel
theorem dX2_hold_27 : decode cX2_hold 27 = .ok (.iload 6, 2) := by decide +kernel
theorem dX2_hold_29 : decode cX2_hold 29 = .ok (.iconst 0, 1) := by decide +kernel
theorem dX2_hold_30 : decode cX2_hold 30 = .ok (.bastore, 1) := by decide +kernel
theorem dX2_hold_31 : decode cX2_hold 31 = .ok (.iinc 6 1, 3) := by decide +kernel
theorem dX2_hold_34 : decode cX2_hold 34 = .ok (.goto (-20), 3) := by decide +kernel
theorem dX2_hold_37 : decode cX2_hold 37 = .ok (.iconst 0, 1) := by decide +kernel
theorem dX2_hold_38 : decode cX2_hold 38 = .ok (.istore 6, 2) := by decide +kernel
theorem dX2_hold_40 : decode cX2_hold 40 = .ok (.iload 6, 2) := by decide +kernel
theorem dX2_hold_42 : decode cX2_hold 42 = .ok (.aload_n 0, 1) := by decide +kernel
theorem dX2_hold_43 : decode cX2_hold 43 = .ok (.getfield 28, 3) := by decide +kernel
theorem dX2_hold_46 : decode cX2_hold 46 = .ok (.if_icmp .ge 95, 3) := by decide +kernel
theorem dX2_hold_49 : decode cX2_hold 49 = .ok (.iload 5, 2) := by decide +kernel
theorem dX2_hold_51 : decode cX2_hold 51 = .ok (.ifCond .le 90, 3) := by decide +kernel
theorem dX2_hold_54 : decode cX2_hold 54 = .ok (.iload_n 3, 1) := by decide +kernel
theorem dX2_hold_55 : decode cX2_hold 55 = .ok (.invokestatic 64, 3) := by decide +kernel
theorem dX2_hold_58 : decode cX2_hold 58 = .ok (.istore_n 3, 1) := by decide +kernel
theorem dX2_hold_59 : decode cX2_hold 59 = .ok (.aload_n 0, 1) := by decide +kernel
theorem dX2_hold_60 : decode cX2_hold 60 = .ok (.iload_n 3, 1) := by decide +kernel
theorem dX2_hold_61 : decode cX2_hold 61 = .ok (.iload 5, 2) := by decide +kernel
theorem dX2_hold_63 : decode cX2_hold 63 = .ok (.irem, 1) := by decide +kernel
theorem dX2_hold_64 : decode cX2_hold 64 = .ok (.invokevirtual 68, 3) := by decide +kernel
theorem dX2_hold_67 : decode cX2_hold 67 = .ok (.istore 7, 2) := by decide +kernel
theorem dX2_hold_69 : decode cX2_hold 69 = .ok (.aload_n 0, 1) := by decide +kernel
theorem dX2_hold_70 : decode cX2_hold 70 = .ok (.getfield 21, 3) := by decide +kernel
theorem dX2_hold_73 : decode cX2_hold 73 = .ok (.iload 7, 2) := by decide +kernel
theorem dX2_hold_75 : decode cX2_hold 75 = .ok (.iconst 1, 1) := by decide +kernel
theorem dX2_hold_76 : decode cX2_hold 76 = .ok (.bastore, 1) := by decide +kernel
theorem dX2_hold_77 : decode cX2_hold 77 = .ok (.iload 5, 2) := by decide +kernel
theorem dX2_hold_79 : decode cX2_hold 79 = .ok (.aload_n 0, 1) := by decide +kernel
theorem dX2_hold_80 : decode cX2_hold 80 = .ok (.getfield 18, 3) := by decide +kernel
theorem dX2_hold_83 : decode cX2_hold 83 = .ok (.iload 7, 2) := by decide +kernel
theorem dX2_hold_85 : decode cX2_hold 85 = .ok (.iaload, 1) := by decide +kernel
theorem dX2_hold_86 : decode cX2_hold 86 = .ok (.isub, 1) := by decide +kernel
theorem dX2_hold_87 : decode cX2_hold 87 = .ok (.istore 5, 2) := by decide +kernel
theorem dX2_hold_89 : decode cX2_hold 89 = .ok (.aload_n 0, 1) := by decide +kernel
theorem dX2_hold_90 : decode cX2_hold 90 = .ok (.getfield 25, 3) := by decide +kernel
theorem dX2_hold_93 : decode cX2_hold 93 = .ok (.iload 7, 2) := by decide +kernel
theorem dX2_hold_95 : decode cX2_hold 95 = .ok (.aload_n 0, 1) := by decide +kernel
theorem dX2_hold_96 : decode cX2_hold 96 = .ok (.getfield 15, 3) := by decide +kernel
theorem dX2_hold_99 : decode cX2_hold 99 = .ok (.iload 7, 2) := by decide +kernel
theorem dX2_hold_101 : decode cX2_hold 101 = .ok (.iaload, 1) := by decide +kernel
theorem dX2_hold_102 : decode cX2_hold 102 = .ok (.iload 4, 2) := by decide +kernel
theorem dX2_hold_104 : decode cX2_hold 104 = .ok (.if_icmp .gt 7, 3) := by decide +kernel
theorem dX2_hold_107 : decode cX2_hold 107 = .ok (.iconst 1, 1) := by decide +kernel
theorem dX2_hold_108 : decode cX2_hold 108 = .ok (.goto 4, 3) := by decide +kernel
theorem dX2_hold_111 : decode cX2_hold 111 = .ok (.iconst 0, 1) := by decide +kernel
theorem dX2_hold_112 : decode cX2_hold 112 = .ok (.bastore, 1) := by decide +kernel
theorem dX2_hold_113 : decode cX2_hold 113 = .ok (.aload_n 0, 1) := by decide +kernel
theorem dX2_hold_114 : decode cX2_hold 114 = .ok (.getfield 25, 3) := by decide +kernel
theorem dX2_hold_117 : decode cX2_hold 117 = .ok (.iload 7, 2) := by decide +kernel
theorem dX2_hold_119 : decode cX2_hold 119 = .ok (.baload, 1) := by decide +kernel
theorem dX2_hold_120 : decode cX2_hold 120 = .ok (.ifCond .eq 15, 3) := by decide +kernel
theorem dX2_hold_123 : decode cX2_hold 123 = .ok (.iload 4, 2) := by decide +kernel
theorem dX2_hold_125 : decode cX2_hold 125 = .ok (.aload_n 0, 1) := by decide +kernel
theorem dX2_hold_126 : decode cX2_hold 126 = .ok (.getfield 15, 3) := by decide +kernel
theorem dX2_hold_129 : decode cX2_hold 129 = .ok (.iload 7, 2) := by decide +kernel
theorem dX2_hold_131 : decode cX2_hold 131 = .ok (.iaload, 1) := by decide +kernel
theorem dX2_hold_132 : decode cX2_hold 132 = .ok (.isub, 1) := by decide +kernel
theorem dX2_hold_133 : decode cX2_hold 133 = .ok (.istore 4, 2) := by decide +kernel
theorem dX2_hold_135 : decode cX2_hold 135 = .ok (.iinc 6 1, 3) := by decide +kernel
theorem dX2_hold_138 : decode cX2_hold 138 = .ok (.goto (-98), 3) := by decide +kernel
theorem dX2_hold_141 : decode cX2_hold 141 = .ok (.iload_n 3, 1) := by decide +kernel
theorem dX2_hold_142 : decode cX2_hold 142 = .ok (.ireturn, 1) := by decide +kernel
theorem dX2_seedBehind_0 : decode cX2_seedBehind 0 = .ok (.bipush 75, 2) := by decide +kernel
theorem dX2_seedBehind_2 : decode cX2_seedBehind 2 = .ok (.iload_n 0, 1) := by decide +kernel
theorem dX2_seedBehind_3 : decode cX2_seedBehind 3 = .ok (.imul, 1) := by decide +kernel
theorem dX2_seedBehind_4 : decode cX2_seedBehind 4 = .ok (.bipush 74, 2) := by decide +kernel
theorem dX2_seedBehind_6 : decode cX2_seedBehind 6 = .ok (.iadd, 1) := by decide +kernel
theorem dX2_seedBehind_7 : decode cX2_seedBehind 7 = .ok (.ldc 71, 2) := by decide +kernel
theorem dX2_seedBehind_9 : decode cX2_seedBehind 9 = .ok (.irem, 1) := by decide +kernel
theorem dX2_seedBehind_10 : decode cX2_seedBehind 10 = .ok (.istore_n 1, 1) := by decide +kernel
theorem dX2_seedBehind_11 : decode cX2_seedBehind 11 = .ok (.iload_n 1, 1) := by decide +kernel
theorem dX2_seedBehind_12 : decode cX2_seedBehind 12 = .ok (.ldc 72, 2) := by decide +kernel
theorem dX2_seedBehind_14 : decode cX2_seedBehind 14 = .ok (.if_icmp .ne 7, 3) := by decide +kernel
theorem dX2_seedBehind_17 : decode cX2_seedBehind 17 = .ok (.iconst 0, 1) := by decide +kernel
theorem dX2_seedBehind_18 : decode cX2_seedBehind 18 = .ok (.goto 4, 3) := by decide +kernel
theorem dX2_seedBehind_21 : decode cX2_seedBehind 21 = .ok (.iload_n 1, 1) := by decide +kernel
theorem dX2_seedBehind_22 : decode cX2_seedBehind 22 = .ok (.ireturn, 1) := by decide +kernel
theorem dX2_entryAt_0 : decode cX2_entryAt 0 = .ok (.iconst 0, 1) := by decide +kernel
theorem dX2_entryAt_1 : decode cX2_entryAt 1 = .ok (.istore_n 2, 1) := by decide +kernel
theorem dX2_entryAt_2 : decode cX2_entryAt 2 = .ok (.iconst 0, 1) := by decide +kernel
theorem dX2_entryAt_3 : decode cX2_entryAt 3 = .ok (.istore_n 3, 1) := by decide +kernel
theorem dX2_entryAt_4 : decode cX2_entryAt 4 = .ok (.iconst 0, 1) := by decide +kernel
theorem dX2_entryAt_5 : decode cX2_entryAt 5 = .ok (.istore 4, 2) := by decide +kernel
theorem dX2_entryAt_7 : decode cX2_entryAt 7 = .ok (.iload 4, 2) := by decide +kernel
theorem dX2_entryAt_9 : decode cX2_entryAt 9 = .ok (.aload_n 0, 1) := by decide +kernel
theorem dX2_entryAt_10 : decode cX2_entryAt 10 = .ok (.getfield 28, 3) := by decide +kernel
theorem dX2_entryAt_13 : decode cX2_entryAt 13 = .ok (.if_icmp .ge 37, 3) := by decide +kernel
theorem dX2_entryAt_16 : decode cX2_entryAt 16 = .ok (.iload_n 2, 1) := by decide +kernel
theorem dX2_entryAt_17 : decode cX2_entryAt 17 = .ok (.iload_n 1, 1) := by decide +kernel
theorem dX2_entryAt_18 : decode cX2_entryAt 18 = .ok (.if_icmp .gt 32, 3) := by decide +kernel
theorem dX2_entryAt_21 : decode cX2_entryAt 21 = .ok (.aload_n 0, 1) := by decide +kernel
theorem dX2_entryAt_22 : decode cX2_entryAt 22 = .ok (.getfield 21, 3) := by decide +kernel
theorem dX2_entryAt_25 : decode cX2_entryAt 25 = .ok (.iload 4, 2) := by decide +kernel
theorem dX2_entryAt_27 : decode cX2_entryAt 27 = .ok (.baload, 1) := by decide +kernel
theorem dX2_entryAt_28 : decode cX2_entryAt 28 = .ok (.ifCond .ne 16, 3) := by decide +kernel
theorem dX2_entryAt_31 : decode cX2_entryAt 31 = .ok (.iload_n 2, 1) := by decide +kernel
theorem dX2_entryAt_32 : decode cX2_entryAt 32 = .ok (.aload_n 0, 1) := by decide +kernel
theorem dX2_entryAt_33 : decode cX2_entryAt 33 = .ok (.getfield 18, 3) := by decide +kernel
theorem dX2_entryAt_36 : decode cX2_entryAt 36 = .ok (.iload 4, 2) := by decide +kernel
theorem dX2_entryAt_38 : decode cX2_entryAt 38 = .ok (.iaload, 1) := by decide +kernel
theorem dX2_entryAt_39 : decode cX2_entryAt 39 = .ok (.iadd, 1) := by decide +kernel
theorem dX2_entryAt_40 : decode cX2_entryAt 40 = .ok (.istore_n 2, 1) := by decide +kernel
theorem dX2_entryAt_41 : decode cX2_entryAt 41 = .ok (.iload 4, 2) := by decide +kernel
theorem dX2_entryAt_43 : decode cX2_entryAt 43 = .ok (.istore_n 3, 1) := by decide +kernel
theorem dX2_entryAt_44 : decode cX2_entryAt 44 = .ok (.iinc 4 1, 3) := by decide +kernel
theorem dX2_entryAt_47 : decode cX2_entryAt 47 = .ok (.goto (-40), 3) := by decide +kernel
theorem dX2_entryAt_50 : decode cX2_entryAt 50 = .ok (.iload_n 3, 1) := by decide +kernel
theorem dX2_entryAt_51 : decode cX2_entryAt 51 = .ok (.ireturn, 1) := by decide +kernel
set_option maxRecDepth 20000 in
theorem ggX2_settle_X3_givePermit : GoodIn wsX2_settle wsX3_givePermit := goodIn_r _ [12, 13, 14, 15, 16, 33, 34, 35, 36, 37, 38, 39, 40, 41, 24, 25, 26, 27, 28, 29, 30, 31, 32] rfl (by decide +kernel)
set_option maxRecDepth 20000 in
theorem gX2_settle_X3_givePermit : GoodIn wsX2_settle (wsV RX2 73 RX3 yX3_givePermit wsX3_givePermit) := goodIn_app (goodIn_of _ (by decide +kernel)) ggX2_settle_X3_givePermit
theorem dX2_settle_0 : decode cX2_settle 0 = .ok (.iconst 0, 1) := by decide +kernel
theorem dX2_settle_1 : decode cX2_settle 1 = .ok (.istore_n 2, 1) := by decide +kernel
theorem dX2_settle_2 : decode cX2_settle 2 = .ok (.iconst 0, 1) := by decide +kernel
theorem dX2_settle_3 : decode cX2_settle 3 = .ok (.istore_n 3, 1) := by decide +kernel
theorem dX2_settle_4 : decode cX2_settle 4 = .ok (.iload_n 3, 1) := by decide +kernel
theorem dX2_settle_5 : decode cX2_settle 5 = .ok (.aload_n 0, 1) := by decide +kernel
theorem dX2_settle_6 : decode cX2_settle 6 = .ok (.getfield 28, 3) := by decide +kernel
theorem dX2_settle_9 : decode cX2_settle 9 = .ok (.if_icmp .ge 76, 3) := by decide +kernel
theorem dX2_settle_12 : decode cX2_settle 12 = .ok (.aload_n 1, 1) := by decide +kernel
theorem dX2_settle_13 : decode cX2_settle 13 = .ok (.getfield 40, 3) := by decide +kernel
theorem dX2_settle_16 : decode cX2_settle 16 = .ok (.aload_n 0, 1) := by decide +kernel
theorem dX2_settle_17 : decode cX2_settle 17 = .ok (.getfield 9, 3) := by decide +kernel
theorem dX2_settle_20 : decode cX2_settle 20 = .ok (.iload_n 3, 1) := by decide +kernel
theorem dX2_settle_21 : decode cX2_settle 21 = .ok (.iaload, 1) := by decide +kernel
theorem dX2_settle_22 : decode cX2_settle 22 = .ok (.aaload, 1) := by decide +kernel
theorem dX2_settle_23 : decode cX2_settle 23 = .ok (.astore 4, 2) := by decide +kernel
theorem dX2_settle_25 : decode cX2_settle 25 = .ok (.aload_n 0, 1) := by decide +kernel
theorem dX2_settle_26 : decode cX2_settle 26 = .ok (.getfield 25, 3) := by decide +kernel
theorem dX2_settle_29 : decode cX2_settle 29 = .ok (.iload_n 3, 1) := by decide +kernel
theorem dX2_settle_30 : decode cX2_settle 30 = .ok (.baload, 1) := by decide +kernel
theorem dX2_settle_31 : decode cX2_settle 31 = .ok (.ifCond .eq 29, 3) := by decide +kernel
theorem dX2_settle_34 : decode cX2_settle 34 = .ok (.aload_n 1, 1) := by decide +kernel
theorem dX2_settle_35 : decode cX2_settle 35 = .ok (.aload 4, 2) := by decide +kernel
theorem dX2_settle_37 : decode cX2_settle 37 = .ok (.invokevirtual 73, 3) := by decide +kernel
theorem dX2_settle_40 : decode cX2_settle 40 = .ok (.aload_n 1, 1) := by decide +kernel
theorem dX2_settle_41 : decode cX2_settle 41 = .ok (.getfield 77, 3) := by decide +kernel
theorem dX2_settle_44 : decode cX2_settle 44 = .ok (.aload 4, 2) := by decide +kernel
theorem dX2_settle_46 : decode cX2_settle 46 = .ok (.getfield 81, 3) := by decide +kernel
theorem dX2_settle_49 : decode cX2_settle 49 = .ok (.aaload, 1) := by decide +kernel
theorem dX2_settle_50 : decode cX2_settle 50 = .ok (.iconst 0, 1) := by decide +kernel
theorem dX2_settle_51 : decode cX2_settle 51 = .ok (.putfield 84, 3) := by decide +kernel
theorem dX2_settle_54 : decode cX2_settle 54 = .ok (.iinc 2 1, 3) := by decide +kernel
theorem dX2_settle_57 : decode cX2_settle 57 = .ok (.goto 22, 3) := by decide +kernel
theorem dX2_settle_60 : decode cX2_settle 60 = .ok (.aload_n 1, 1) := by decide +kernel
theorem dX2_settle_61 : decode cX2_settle 61 = .ok (.getfield 77, 3) := by decide +kernel
theorem dX2_settle_64 : decode cX2_settle 64 = .ok (.aload 4, 2) := by decide +kernel
theorem dX2_settle_66 : decode cX2_settle 66 = .ok (.getfield 81, 3) := by decide +kernel
theorem dX2_settle_69 : decode cX2_settle 69 = .ok (.aaload, 1) := by decide +kernel
theorem dX2_settle_70 : decode cX2_settle 70 = .ok (.dup, 1) := by decide +kernel
theorem dX2_settle_71 : decode cX2_settle 71 = .ok (.getfield 84, 3) := by decide +kernel
theorem dX2_settle_74 : decode cX2_settle 74 = .ok (.iconst 1, 1) := by decide +kernel
theorem dX2_settle_75 : decode cX2_settle 75 = .ok (.iadd, 1) := by decide +kernel
theorem dX2_settle_76 : decode cX2_settle 76 = .ok (.putfield 84, 3) := by decide +kernel
theorem dX2_settle_79 : decode cX2_settle 79 = .ok (.iinc 3 1, 3) := by decide +kernel
theorem dX2_settle_82 : decode cX2_settle 82 = .ok (.goto (-78), 3) := by decide +kernel
theorem dX2_settle_85 : decode cX2_settle 85 = .ok (.iload_n 2, 1) := by decide +kernel
theorem dX2_settle_86 : decode cX2_settle 86 = .ok (.ireturn, 1) := by decide +kernel
set_option maxRecDepth 20000 in
theorem ggX3_init_X5_init : GoodIn wsX3_init wsX5_init := goodIn_r _ [21, 22, 2, 3] rfl (by decide +kernel)
set_option maxRecDepth 20000 in
theorem gX3_init_X5_init_n40 : GoodIn wsX3_init (wsX5_init) := ggX3_init_X5_init
set_option maxRecDepth 20000 in
theorem ggX3_init_X1_init : GoodIn wsX3_init wsX1_init := goodIn_r _ [24, 25, 2, 3, 26, 41, 42, 43] rfl (by decide +kernel)
set_option maxRecDepth 20000 in
theorem gX3_init_X1_init_n41 : GoodIn wsX3_init (wsX1_init) := ggX3_init_X1_init
set_option maxRecDepth 20000 in
theorem ggX3_init_X0_init : GoodIn wsX3_init wsX0_init := goodIn_r _ [28, 29, 2, 3] rfl (by decide +kernel)
set_option maxRecDepth 20000 in
theorem gX3_init_X0_init_n42 : GoodIn wsX3_init (wsX0_init) := ggX3_init_X0_init
theorem dX3_init_0 : decode cX3_init 0 = .ok (.aload_n 0, 1) := by decide +kernel
theorem dX3_init_1 : decode cX3_init 1 = .ok (.invokespecial 3, 3) := by decide +kernel
theorem dX3_init_4 : decode cX3_init 4 = .ok (.aload_n 0, 1) := by decide +kernel
theorem dX3_init_5 : decode cX3_init 5 = .ok (.bipush 6, 2) := by decide +kernel
theorem dX3_init_7 : decode cX3_init 7 = .ok (.anewarray 9, 3) := by decide +kernel
theorem dX3_init_10 : decode cX3_init 10 = .ok (.putfield 11, 3) := by decide +kernel
theorem dX3_init_13 : decode cX3_init 13 = .ok (.aload_n 0, 1) := by decide +kernel
theorem dX3_init_14 : decode cX3_init 14 = .ok (.bipush 12, 2) := by decide +kernel
theorem dX3_init_16 : decode cX3_init 16 = .ok (.anewarray 17, 3) := by decide +kernel
theorem dX3_init_19 : decode cX3_init 19 = .ok (.putfield 19, 3) := by decide +kernel
theorem dX3_init_22 : decode cX3_init 22 = .ok (.aload_n 0, 1) := by decide +kernel
theorem dX3_init_23 : decode cX3_init 23 = .ok (.bipush 40, 2) := by decide +kernel
theorem dX3_init_25 : decode cX3_init 25 = .ok (.anewarray 23, 3) := by decide +kernel
theorem dX3_init_28 : decode cX3_init 28 = .ok (.putfield 25, 3) := by decide +kernel
theorem dX3_init_31 : decode cX3_init 31 = .ok (.aload_n 0, 1) := by decide +kernel
theorem dX3_init_32 : decode cX3_init 32 = .ok (.bipush 60, 2) := by decide +kernel
theorem dX3_init_34 : decode cX3_init 34 = .ok (.newarray .boolean, 2) := by decide +kernel
theorem dX3_init_36 : decode cX3_init 36 = .ok (.putfield 29, 3) := by decide +kernel
theorem dX3_init_39 : decode cX3_init 39 = .ok (.aload_n 0, 1) := by decide +kernel
theorem dX3_init_40 : decode cX3_init 40 = .ok (.getstatic 33, 3) := by decide +kernel
theorem dX3_init_43 : decode cX3_init 43 = .ok (.arraylength, 1) := by decide +kernel
theorem dX3_init_44 : decode cX3_init 44 = .ok (.newarray .int, 2) := by decide +kernel
theorem dX3_init_46 : decode cX3_init 46 = .ok (.putfield 37, 3) := by decide +kernel
theorem dX3_init_49 : decode cX3_init 49 = .ok (.iconst 0, 1) := by decide +kernel
theorem dX3_init_50 : decode cX3_init 50 = .ok (.istore_n 1, 1) := by decide +kernel
theorem dX3_init_51 : decode cX3_init 51 = .ok (.iload_n 1, 1) := by decide +kernel
theorem dX3_init_52 : decode cX3_init 52 = .ok (.aload_n 0, 1) := by decide +kernel
theorem dX3_init_53 : decode cX3_init 53 = .ok (.getfield 11, 3) := by decide +kernel
theorem dX3_init_56 : decode cX3_init 56 = .ok (.arraylength, 1) := by decide +kernel
theorem dX3_init_57 : decode cX3_init 57 = .ok (.if_icmp .ge 22, 3) := by decide +kernel
theorem dX3_init_60 : decode cX3_init 60 = .ok (.aload_n 0, 1) := by decide +kernel
theorem dX3_init_61 : decode cX3_init 61 = .ok (.getfield 11, 3) := by decide +kernel
theorem dX3_init_64 : decode cX3_init 64 = .ok (.iload_n 1, 1) := by decide +kernel
theorem dX3_init_65 : decode cX3_init 65 = .ok (.new 9, 3) := by decide +kernel
theorem dX3_init_68 : decode cX3_init 68 = .ok (.dup, 1) := by decide +kernel
theorem dX3_init_69 : decode cX3_init 69 = .ok (.invokespecial 40, 3) := by decide +kernel
theorem dX3_init_72 : decode cX3_init 72 = .ok (.aastore, 1) := by decide +kernel
theorem dX3_init_73 : decode cX3_init 73 = .ok (.iinc 1 1, 3) := by decide +kernel
theorem dX3_init_76 : decode cX3_init 76 = .ok (.goto (-25), 3) := by decide +kernel
theorem dX3_init_79 : decode cX3_init 79 = .ok (.iconst 0, 1) := by decide +kernel
theorem dX3_init_80 : decode cX3_init 80 = .ok (.istore_n 1, 1) := by decide +kernel
theorem dX3_init_81 : decode cX3_init 81 = .ok (.iload_n 1, 1) := by decide +kernel
theorem dX3_init_82 : decode cX3_init 82 = .ok (.aload_n 0, 1) := by decide +kernel
theorem dX3_init_83 : decode cX3_init 83 = .ok (.getfield 19, 3) := by decide +kernel
theorem dX3_init_86 : decode cX3_init 86 = .ok (.arraylength, 1) := by decide +kernel
theorem dX3_init_87 : decode cX3_init 87 = .ok (.if_icmp .ge 22, 3) := by decide +kernel
theorem dX3_init_90 : decode cX3_init 90 = .ok (.aload_n 0, 1) := by decide +kernel
theorem dX3_init_91 : decode cX3_init 91 = .ok (.getfield 19, 3) := by decide +kernel
theorem dX3_init_94 : decode cX3_init 94 = .ok (.iload_n 1, 1) := by decide +kernel
theorem dX3_init_95 : decode cX3_init 95 = .ok (.new 17, 3) := by decide +kernel
theorem dX3_init_98 : decode cX3_init 98 = .ok (.dup, 1) := by decide +kernel
theorem dX3_init_99 : decode cX3_init 99 = .ok (.invokespecial 41, 3) := by decide +kernel
theorem dX3_init_102 : decode cX3_init 102 = .ok (.aastore, 1) := by decide +kernel
theorem dX3_init_103 : decode cX3_init 103 = .ok (.iinc 1 1, 3) := by decide +kernel
theorem dX3_init_106 : decode cX3_init 106 = .ok (.goto (-25), 3) := by decide +kernel
theorem dX3_init_109 : decode cX3_init 109 = .ok (.iconst 0, 1) := by decide +kernel
theorem dX3_init_110 : decode cX3_init 110 = .ok (.istore_n 1, 1) := by decide +kernel
theorem dX3_init_111 : decode cX3_init 111 = .ok (.iload_n 1, 1) := by decide +kernel
theorem dX3_init_112 : decode cX3_init 112 = .ok (.aload_n 0, 1) := by decide +kernel
theorem dX3_init_113 : decode cX3_init 113 = .ok (.getfield 25, 3) := by decide +kernel
theorem dX3_init_116 : decode cX3_init 116 = .ok (.arraylength, 1) := by decide +kernel
theorem dX3_init_117 : decode cX3_init 117 = .ok (.if_icmp .ge 22, 3) := by decide +kernel
theorem dX3_init_120 : decode cX3_init 120 = .ok (.aload_n 0, 1) := by decide +kernel
theorem dX3_init_121 : decode cX3_init 121 = .ok (.getfield 25, 3) := by decide +kernel
theorem dX3_init_124 : decode cX3_init 124 = .ok (.iload_n 1, 1) := by decide +kernel
theorem dX3_init_125 : decode cX3_init 125 = .ok (.new 23, 3) := by decide +kernel
theorem dX3_init_128 : decode cX3_init 128 = .ok (.dup, 1) := by decide +kernel
theorem dX3_init_129 : decode cX3_init 129 = .ok (.invokespecial 42, 3) := by decide +kernel
theorem dX3_init_132 : decode cX3_init 132 = .ok (.aastore, 1) := by decide +kernel
theorem dX3_init_133 : decode cX3_init 133 = .ok (.iinc 1 1, 3) := by decide +kernel
theorem dX3_init_136 : decode cX3_init 136 = .ok (.goto (-25), 3) := by decide +kernel
theorem dX3_init_139 : decode cX3_init 139 = .ok (.iconst 0, 1) := by decide +kernel
theorem dX3_init_140 : decode cX3_init 140 = .ok (.istore_n 1, 1) := by decide +kernel
theorem dX3_init_141 : decode cX3_init 141 = .ok (.iload_n 1, 1) := by decide +kernel
theorem dX3_init_142 : decode cX3_init 142 = .ok (.aload_n 0, 1) := by decide +kernel
theorem dX3_init_143 : decode cX3_init 143 = .ok (.getfield 37, 3) := by decide +kernel
theorem dX3_init_146 : decode cX3_init 146 = .ok (.arraylength, 1) := by decide +kernel
theorem dX3_init_147 : decode cX3_init 147 = .ok (.if_icmp .ge 20, 3) := by decide +kernel
theorem dX3_init_150 : decode cX3_init 150 = .ok (.aload_n 0, 1) := by decide +kernel
theorem dX3_init_151 : decode cX3_init 151 = .ok (.getfield 37, 3) := by decide +kernel
theorem dX3_init_154 : decode cX3_init 154 = .ok (.iload_n 1, 1) := by decide +kernel
theorem dX3_init_155 : decode cX3_init 155 = .ok (.getstatic 33, 3) := by decide +kernel
theorem dX3_init_158 : decode cX3_init 158 = .ok (.iload_n 1, 1) := by decide +kernel
theorem dX3_init_159 : decode cX3_init 159 = .ok (.iaload, 1) := by decide +kernel
theorem dX3_init_160 : decode cX3_init 160 = .ok (.iastore, 1) := by decide +kernel
theorem dX3_init_161 : decode cX3_init 161 = .ok (.iinc 1 1, 3) := by decide +kernel
theorem dX3_init_164 : decode cX3_init 164 = .ok (.goto (-23), 3) := by decide +kernel
theorem dX3_init_167 : decode cX3_init 167 = .ok (.return_, 1) := by decide +kernel
set_option maxRecDepth 20000 in
theorem ggX3_copyFrom_X5_copyFrom : GoodIn wsX3_copyFrom wsX5_copyFrom := goodIn_r _ [14, 15, 16, 48, 49] rfl (by decide +kernel)
set_option maxRecDepth 20000 in
theorem gX3_copyFrom_X5_copyFrom : GoodIn wsX3_copyFrom (wsV RX3 56 RX5 yX5_copyFrom wsX5_copyFrom) := goodIn_app (goodIn_of _ (by decide +kernel)) ggX3_copyFrom_X5_copyFrom
set_option maxRecDepth 20000 in
theorem ggX3_copyFrom_X1_copyFrom : GoodIn wsX3_copyFrom wsX1_copyFrom := goodIn_r _ [21, 22, 23, 24, 50, 51, 52] rfl (by decide +kernel)
set_option maxRecDepth 20000 in
theorem gX3_copyFrom_X1_copyFrom : GoodIn wsX3_copyFrom (wsV RX3 60 RX1 yX1_copyFrom wsX1_copyFrom) := goodIn_app (goodIn_of _ (by decide +kernel)) ggX3_copyFrom_X1_copyFrom
set_option maxRecDepth 20000 in
theorem ggX3_copyFrom_X0_copyFrom : GoodIn wsX3_copyFrom wsX0_copyFrom := goodIn_r _ [29, 30, 31, 32, 33, 34, 35, 36, 37, 38, 53, 54, 55, 56, 57, 58, 59, 60, 61] rfl (by decide +kernel)
set_option maxRecDepth 20000 in
theorem gX3_copyFrom_X0_copyFrom : GoodIn wsX3_copyFrom (wsV RX3 63 RX0 yX0_copyFrom wsX0_copyFrom) := goodIn_app (goodIn_of _ (by decide +kernel)) ggX3_copyFrom_X0_copyFrom
theorem dX3_copyFrom_0 : decode cX3_copyFrom 0 = .ok (.aload_n 0, 1) := by decide +kernel
theorem dX3_copyFrom_1 : decode cX3_copyFrom 1 = .ok (.aload_n 1, 1) := by decide +kernel
theorem dX3_copyFrom_2 : decode cX3_copyFrom 2 = .ok (.getfield 43, 3) := by decide +kernel
theorem dX3_copyFrom_5 : decode cX3_copyFrom 5 = .ok (.putfield 43, 3) := by decide +kernel
theorem dX3_copyFrom_8 : decode cX3_copyFrom 8 = .ok (.aload_n 0, 1) := by decide +kernel
theorem dX3_copyFrom_9 : decode cX3_copyFrom 9 = .ok (.aload_n 1, 1) := by decide +kernel
theorem dX3_copyFrom_10 : decode cX3_copyFrom 10 = .ok (.getfield 47, 3) := by decide +kernel
theorem dX3_copyFrom_13 : decode cX3_copyFrom 13 = .ok (.putfield 47, 3) := by decide +kernel
theorem dX3_copyFrom_16 : decode cX3_copyFrom 16 = .ok (.aload_n 0, 1) := by decide +kernel
theorem dX3_copyFrom_17 : decode cX3_copyFrom 17 = .ok (.aload_n 1, 1) := by decide +kernel
theorem dX3_copyFrom_18 : decode cX3_copyFrom 18 = .ok (.getfield 50, 3) := by decide +kernel
theorem dX3_copyFrom_21 : decode cX3_copyFrom 21 = .ok (.putfield 50, 3) := by decide +kernel
theorem dX3_copyFrom_24 : decode cX3_copyFrom 24 = .ok (.aload_n 0, 1) := by decide +kernel
theorem dX3_copyFrom_25 : decode cX3_copyFrom 25 = .ok (.aload_n 1, 1) := by decide +kernel
theorem dX3_copyFrom_26 : decode cX3_copyFrom 26 = .ok (.getfield 53, 3) := by decide +kernel
theorem dX3_copyFrom_29 : decode cX3_copyFrom 29 = .ok (.putfield 53, 3) := by decide +kernel
theorem dX3_copyFrom_32 : decode cX3_copyFrom 32 = .ok (.iconst 0, 1) := by decide +kernel
theorem dX3_copyFrom_33 : decode cX3_copyFrom 33 = .ok (.istore_n 2, 1) := by decide +kernel
theorem dX3_copyFrom_34 : decode cX3_copyFrom 34 = .ok (.iload_n 2, 1) := by decide +kernel
theorem dX3_copyFrom_35 : decode cX3_copyFrom 35 = .ok (.aload_n 0, 1) := by decide +kernel
theorem dX3_copyFrom_36 : decode cX3_copyFrom 36 = .ok (.getfield 11, 3) := by decide +kernel
theorem dX3_copyFrom_39 : decode cX3_copyFrom 39 = .ok (.arraylength, 1) := by decide +kernel
theorem dX3_copyFrom_40 : decode cX3_copyFrom 40 = .ok (.if_icmp .ge 24, 3) := by decide +kernel
theorem dX3_copyFrom_43 : decode cX3_copyFrom 43 = .ok (.aload_n 0, 1) := by decide +kernel
theorem dX3_copyFrom_44 : decode cX3_copyFrom 44 = .ok (.getfield 11, 3) := by decide +kernel
theorem dX3_copyFrom_47 : decode cX3_copyFrom 47 = .ok (.iload_n 2, 1) := by decide +kernel
theorem dX3_copyFrom_48 : decode cX3_copyFrom 48 = .ok (.aaload, 1) := by decide +kernel
theorem dX3_copyFrom_49 : decode cX3_copyFrom 49 = .ok (.aload_n 1, 1) := by decide +kernel
theorem dX3_copyFrom_50 : decode cX3_copyFrom 50 = .ok (.getfield 11, 3) := by decide +kernel
theorem dX3_copyFrom_53 : decode cX3_copyFrom 53 = .ok (.iload_n 2, 1) := by decide +kernel
theorem dX3_copyFrom_54 : decode cX3_copyFrom 54 = .ok (.aaload, 1) := by decide +kernel
theorem dX3_copyFrom_55 : decode cX3_copyFrom 55 = .ok (.invokevirtual 56, 3) := by decide +kernel
theorem dX3_copyFrom_58 : decode cX3_copyFrom 58 = .ok (.iinc 2 1, 3) := by decide +kernel
theorem dX3_copyFrom_61 : decode cX3_copyFrom 61 = .ok (.goto (-27), 3) := by decide +kernel
theorem dX3_copyFrom_64 : decode cX3_copyFrom 64 = .ok (.iconst 0, 1) := by decide +kernel
theorem dX3_copyFrom_65 : decode cX3_copyFrom 65 = .ok (.istore_n 2, 1) := by decide +kernel
theorem dX3_copyFrom_66 : decode cX3_copyFrom 66 = .ok (.iload_n 2, 1) := by decide +kernel
theorem dX3_copyFrom_67 : decode cX3_copyFrom 67 = .ok (.aload_n 0, 1) := by decide +kernel
theorem dX3_copyFrom_68 : decode cX3_copyFrom 68 = .ok (.getfield 19, 3) := by decide +kernel
theorem dX3_copyFrom_71 : decode cX3_copyFrom 71 = .ok (.arraylength, 1) := by decide +kernel
theorem dX3_copyFrom_72 : decode cX3_copyFrom 72 = .ok (.if_icmp .ge 24, 3) := by decide +kernel
theorem dX3_copyFrom_75 : decode cX3_copyFrom 75 = .ok (.aload_n 0, 1) := by decide +kernel
theorem dX3_copyFrom_76 : decode cX3_copyFrom 76 = .ok (.getfield 19, 3) := by decide +kernel
theorem dX3_copyFrom_79 : decode cX3_copyFrom 79 = .ok (.iload_n 2, 1) := by decide +kernel
theorem dX3_copyFrom_80 : decode cX3_copyFrom 80 = .ok (.aaload, 1) := by decide +kernel
theorem dX3_copyFrom_81 : decode cX3_copyFrom 81 = .ok (.aload_n 1, 1) := by decide +kernel
theorem dX3_copyFrom_82 : decode cX3_copyFrom 82 = .ok (.getfield 19, 3) := by decide +kernel
theorem dX3_copyFrom_85 : decode cX3_copyFrom 85 = .ok (.iload_n 2, 1) := by decide +kernel
theorem dX3_copyFrom_86 : decode cX3_copyFrom 86 = .ok (.aaload, 1) := by decide +kernel
theorem dX3_copyFrom_87 : decode cX3_copyFrom 87 = .ok (.invokevirtual 60, 3) := by decide +kernel
theorem dX3_copyFrom_90 : decode cX3_copyFrom 90 = .ok (.iinc 2 1, 3) := by decide +kernel
theorem dX3_copyFrom_93 : decode cX3_copyFrom 93 = .ok (.goto (-27), 3) := by decide +kernel
theorem dX3_copyFrom_96 : decode cX3_copyFrom 96 = .ok (.iconst 0, 1) := by decide +kernel
theorem dX3_copyFrom_97 : decode cX3_copyFrom 97 = .ok (.istore_n 2, 1) := by decide +kernel
theorem dX3_copyFrom_98 : decode cX3_copyFrom 98 = .ok (.iload_n 2, 1) := by decide +kernel
theorem dX3_copyFrom_99 : decode cX3_copyFrom 99 = .ok (.aload_n 0, 1) := by decide +kernel
theorem dX3_copyFrom_100 : decode cX3_copyFrom 100 = .ok (.getfield 25, 3) := by decide +kernel
theorem dX3_copyFrom_103 : decode cX3_copyFrom 103 = .ok (.arraylength, 1) := by decide +kernel
theorem dX3_copyFrom_104 : decode cX3_copyFrom 104 = .ok (.if_icmp .ge 24, 3) := by decide +kernel
theorem dX3_copyFrom_107 : decode cX3_copyFrom 107 = .ok (.aload_n 0, 1) := by decide +kernel
theorem dX3_copyFrom_108 : decode cX3_copyFrom 108 = .ok (.getfield 25, 3) := by decide +kernel
theorem dX3_copyFrom_111 : decode cX3_copyFrom 111 = .ok (.iload_n 2, 1) := by decide +kernel
theorem dX3_copyFrom_112 : decode cX3_copyFrom 112 = .ok (.aaload, 1) := by decide +kernel
theorem dX3_copyFrom_113 : decode cX3_copyFrom 113 = .ok (.aload_n 1, 1) := by decide +kernel
theorem dX3_copyFrom_114 : decode cX3_copyFrom 114 = .ok (.getfield 25, 3) := by decide +kernel
theorem dX3_copyFrom_117 : decode cX3_copyFrom 117 = .ok (.iload_n 2, 1) := by decide +kernel
theorem dX3_copyFrom_118 : decode cX3_copyFrom 118 = .ok (.aaload, 1) := by decide +kernel
theorem dX3_copyFrom_119 : decode cX3_copyFrom 119 = .ok (.invokevirtual 63, 3) := by decide +kernel
theorem dX3_copyFrom_122 : decode cX3_copyFrom 122 = .ok (.iinc 2 1, 3) := by decide +kernel
theorem dX3_copyFrom_125 : decode cX3_copyFrom 125 = .ok (.goto (-27), 3) := by decide +kernel
theorem dX3_copyFrom_128 : decode cX3_copyFrom 128 = .ok (.iconst 0, 1) := by decide +kernel
theorem dX3_copyFrom_129 : decode cX3_copyFrom 129 = .ok (.istore_n 2, 1) := by decide +kernel
theorem dX3_copyFrom_130 : decode cX3_copyFrom 130 = .ok (.iload_n 2, 1) := by decide +kernel
theorem dX3_copyFrom_131 : decode cX3_copyFrom 131 = .ok (.aload_n 0, 1) := by decide +kernel
theorem dX3_copyFrom_132 : decode cX3_copyFrom 132 = .ok (.getfield 29, 3) := by decide +kernel
theorem dX3_copyFrom_135 : decode cX3_copyFrom 135 = .ok (.arraylength, 1) := by decide +kernel
theorem dX3_copyFrom_136 : decode cX3_copyFrom 136 = .ok (.if_icmp .ge 21, 3) := by decide +kernel
theorem dX3_copyFrom_139 : decode cX3_copyFrom 139 = .ok (.aload_n 0, 1) := by decide +kernel
theorem dX3_copyFrom_140 : decode cX3_copyFrom 140 = .ok (.getfield 29, 3) := by decide +kernel
theorem dX3_copyFrom_143 : decode cX3_copyFrom 143 = .ok (.iload_n 2, 1) := by decide +kernel
theorem dX3_copyFrom_144 : decode cX3_copyFrom 144 = .ok (.aload_n 1, 1) := by decide +kernel
theorem dX3_copyFrom_145 : decode cX3_copyFrom 145 = .ok (.getfield 29, 3) := by decide +kernel
theorem dX3_copyFrom_148 : decode cX3_copyFrom 148 = .ok (.iload_n 2, 1) := by decide +kernel
theorem dX3_copyFrom_149 : decode cX3_copyFrom 149 = .ok (.baload, 1) := by decide +kernel
theorem dX3_copyFrom_150 : decode cX3_copyFrom 150 = .ok (.bastore, 1) := by decide +kernel
theorem dX3_copyFrom_151 : decode cX3_copyFrom 151 = .ok (.iinc 2 1, 3) := by decide +kernel
theorem dX3_copyFrom_154 : decode cX3_copyFrom 154 = .ok (.goto (-24), 3) := by decide +kernel
theorem dX3_copyFrom_157 : decode cX3_copyFrom 157 = .ok (.iconst 0, 1) := by decide +kernel
theorem dX3_copyFrom_158 : decode cX3_copyFrom 158 = .ok (.istore_n 2, 1) := by decide +kernel
theorem dX3_copyFrom_159 : decode cX3_copyFrom 159 = .ok (.iload_n 2, 1) := by decide +kernel
theorem dX3_copyFrom_160 : decode cX3_copyFrom 160 = .ok (.aload_n 0, 1) := by decide +kernel
theorem dX3_copyFrom_161 : decode cX3_copyFrom 161 = .ok (.getfield 37, 3) := by decide +kernel
theorem dX3_copyFrom_164 : decode cX3_copyFrom 164 = .ok (.arraylength, 1) := by decide +kernel
theorem dX3_copyFrom_165 : decode cX3_copyFrom 165 = .ok (.if_icmp .ge 21, 3) := by decide +kernel
theorem dX3_copyFrom_168 : decode cX3_copyFrom 168 = .ok (.aload_n 0, 1) := by decide +kernel
theorem dX3_copyFrom_169 : decode cX3_copyFrom 169 = .ok (.getfield 37, 3) := by decide +kernel
theorem dX3_copyFrom_172 : decode cX3_copyFrom 172 = .ok (.iload_n 2, 1) := by decide +kernel
theorem dX3_copyFrom_173 : decode cX3_copyFrom 173 = .ok (.aload_n 1, 1) := by decide +kernel
theorem dX3_copyFrom_174 : decode cX3_copyFrom 174 = .ok (.getfield 37, 3) := by decide +kernel
theorem dX3_copyFrom_177 : decode cX3_copyFrom 177 = .ok (.iload_n 2, 1) := by decide +kernel
theorem dX3_copyFrom_178 : decode cX3_copyFrom 178 = .ok (.iaload, 1) := by decide +kernel
theorem dX3_copyFrom_179 : decode cX3_copyFrom 179 = .ok (.iastore, 1) := by decide +kernel
theorem dX3_copyFrom_180 : decode cX3_copyFrom 180 = .ok (.iinc 2 1, 3) := by decide +kernel
theorem dX3_copyFrom_183 : decode cX3_copyFrom 183 = .ok (.goto (-24), 3) := by decide +kernel
theorem dX3_copyFrom_186 : decode cX3_copyFrom 186 = .ok (.return_, 1) := by decide +kernel
theorem dX3_hasRoute_0 : decode cX3_hasRoute 0 = .ok (.iload_n 1, 1) := by decide +kernel
theorem dX3_hasRoute_1 : decode cX3_hasRoute 1 = .ok (.ifCond .lt 15, 3) := by decide +kernel
theorem dX3_hasRoute_4 : decode cX3_hasRoute 4 = .ok (.iload_n 1, 1) := by decide +kernel
theorem dX3_hasRoute_5 : decode cX3_hasRoute 5 = .ok (.aload_n 0, 1) := by decide +kernel
theorem dX3_hasRoute_6 : decode cX3_hasRoute 6 = .ok (.getfield 47, 3) := by decide +kernel
theorem dX3_hasRoute_9 : decode cX3_hasRoute 9 = .ok (.if_icmp .ge 7, 3) := by decide +kernel
theorem dX3_hasRoute_12 : decode cX3_hasRoute 12 = .ok (.iconst 1, 1) := by decide +kernel
theorem dX3_hasRoute_13 : decode cX3_hasRoute 13 = .ok (.goto 4, 3) := by decide +kernel
theorem dX3_hasRoute_16 : decode cX3_hasRoute 16 = .ok (.iconst 0, 1) := by decide +kernel
theorem dX3_hasRoute_17 : decode cX3_hasRoute 17 = .ok (.ireturn, 1) := by decide +kernel
set_option maxRecDepth 20000 in
theorem ggX3_hasRouteAndDay_X3_hasRoute : GoodIn wsX3_hasRouteAndDay wsX3_hasRoute := goodIn_r _ [5, 6, 10, 11, 12, 13, 14, 15, 16, 17, 18] rfl (by decide +kernel)
set_option maxRecDepth 20000 in
theorem gX3_hasRouteAndDay_X3_hasRoute : GoodIn wsX3_hasRouteAndDay (wsV RX3 66 RX3 yX3_hasRoute wsX3_hasRoute) := goodIn_app (goodIn_of _ (by decide +kernel)) ggX3_hasRouteAndDay_X3_hasRoute
set_option maxRecDepth 20000 in
theorem ggX3_hasRouteAndDay_X6_isDay : GoodIn wsX3_hasRouteAndDay wsX6_isDay := goodIn_r _ [9] rfl (by decide +kernel)
set_option maxRecDepth 20000 in
theorem gX3_hasRouteAndDay_X6_isDay_n70 : GoodIn wsX3_hasRouteAndDay (wsX6_isDay) := ggX3_hasRouteAndDay_X6_isDay
theorem dX3_hasRouteAndDay_0 : decode cX3_hasRouteAndDay 0 = .ok (.aload_n 0, 1) := by decide +kernel
theorem dX3_hasRouteAndDay_1 : decode cX3_hasRouteAndDay 1 = .ok (.iload_n 1, 1) := by decide +kernel
theorem dX3_hasRouteAndDay_2 : decode cX3_hasRouteAndDay 2 = .ok (.invokevirtual 66, 3) := by decide +kernel
theorem dX3_hasRouteAndDay_5 : decode cX3_hasRouteAndDay 5 = .ok (.ifCond .eq 14, 3) := by decide +kernel
theorem dX3_hasRouteAndDay_8 : decode cX3_hasRouteAndDay 8 = .ok (.iload_n 2, 1) := by decide +kernel
theorem dX3_hasRouteAndDay_9 : decode cX3_hasRouteAndDay 9 = .ok (.invokestatic 70, 3) := by decide +kernel
theorem dX3_hasRouteAndDay_12 : decode cX3_hasRouteAndDay 12 = .ok (.ifCond .eq 7, 3) := by decide +kernel
theorem dX3_hasRouteAndDay_15 : decode cX3_hasRouteAndDay 15 = .ok (.iconst 1, 1) := by decide +kernel
theorem dX3_hasRouteAndDay_16 : decode cX3_hasRouteAndDay 16 = .ok (.goto 4, 3) := by decide +kernel
theorem dX3_hasRouteAndDay_19 : decode cX3_hasRouteAndDay 19 = .ok (.iconst 0, 1) := by decide +kernel
theorem dX3_hasRouteAndDay_20 : decode cX3_hasRouteAndDay 20 = .ok (.ireturn, 1) := by decide +kernel
theorem dX3_hasClimber_0 : decode cX3_hasClimber 0 = .ok (.iload_n 1, 1) := by decide +kernel
theorem dX3_hasClimber_1 : decode cX3_hasClimber 1 = .ok (.ifCond .lt 15, 3) := by decide +kernel
theorem dX3_hasClimber_4 : decode cX3_hasClimber 4 = .ok (.iload_n 1, 1) := by decide +kernel
theorem dX3_hasClimber_5 : decode cX3_hasClimber 5 = .ok (.aload_n 0, 1) := by decide +kernel
theorem dX3_hasClimber_6 : decode cX3_hasClimber 6 = .ok (.getfield 50, 3) := by decide +kernel
theorem dX3_hasClimber_9 : decode cX3_hasClimber 9 = .ok (.if_icmp .ge 7, 3) := by decide +kernel
theorem dX3_hasClimber_12 : decode cX3_hasClimber 12 = .ok (.iconst 1, 1) := by decide +kernel
theorem dX3_hasClimber_13 : decode cX3_hasClimber 13 = .ok (.goto 4, 3) := by decide +kernel
theorem dX3_hasClimber_16 : decode cX3_hasClimber 16 = .ok (.iconst 0, 1) := by decide +kernel
theorem dX3_hasClimber_17 : decode cX3_hasClimber 17 = .ok (.ireturn, 1) := by decide +kernel
theorem dX3_hasApplication_0 : decode cX3_hasApplication 0 = .ok (.iload_n 1, 1) := by decide +kernel
theorem dX3_hasApplication_1 : decode cX3_hasApplication 1 = .ok (.ifCond .lt 15, 3) := by decide +kernel
theorem dX3_hasApplication_4 : decode cX3_hasApplication 4 = .ok (.iload_n 1, 1) := by decide +kernel
theorem dX3_hasApplication_5 : decode cX3_hasApplication 5 = .ok (.aload_n 0, 1) := by decide +kernel
theorem dX3_hasApplication_6 : decode cX3_hasApplication 6 = .ok (.getfield 53, 3) := by decide +kernel
theorem dX3_hasApplication_9 : decode cX3_hasApplication 9 = .ok (.if_icmp .ge 7, 3) := by decide +kernel
theorem dX3_hasApplication_12 : decode cX3_hasApplication 12 = .ok (.iconst 1, 1) := by decide +kernel
theorem dX3_hasApplication_13 : decode cX3_hasApplication 13 = .ok (.goto 4, 3) := by decide +kernel
theorem dX3_hasApplication_16 : decode cX3_hasApplication 16 = .ok (.iconst 0, 1) := by decide +kernel
theorem dX3_hasApplication_17 : decode cX3_hasApplication 17 = .ok (.ireturn, 1) := by decide +kernel
set_option maxRecDepth 20000 in
theorem ggX3_isOpen_X6_isDay : GoodIn wsX3_isOpen wsX6_isDay := goodIn_r _ [5] rfl (by decide +kernel)
set_option maxRecDepth 20000 in
theorem gX3_isOpen_X6_isDay_n70 : GoodIn wsX3_isOpen (wsX6_isDay) := ggX3_isOpen_X6_isDay
theorem dX3_isOpen_0 : decode cX3_isOpen 0 = .ok (.iload_n 1, 1) := by decide +kernel
theorem dX3_isOpen_1 : decode cX3_isOpen 1 = .ok (.aload_n 0, 1) := by decide +kernel
theorem dX3_isOpen_2 : decode cX3_isOpen 2 = .ok (.getfield 43, 3) := by decide +kernel
theorem dX3_isOpen_5 : decode cX3_isOpen 5 = .ok (.if_icmp .lt 23, 3) := by decide +kernel
theorem dX3_isOpen_8 : decode cX3_isOpen 8 = .ok (.iload_n 1, 1) := by decide +kernel
theorem dX3_isOpen_9 : decode cX3_isOpen 9 = .ok (.invokestatic 70, 3) := by decide +kernel
theorem dX3_isOpen_12 : decode cX3_isOpen 12 = .ok (.ifCond .eq 16, 3) := by decide +kernel
theorem dX3_isOpen_15 : decode cX3_isOpen 15 = .ok (.aload_n 0, 1) := by decide +kernel
theorem dX3_isOpen_16 : decode cX3_isOpen 16 = .ok (.getfield 29, 3) := by decide +kernel
theorem dX3_isOpen_19 : decode cX3_isOpen 19 = .ok (.iload_n 1, 1) := by decide +kernel
theorem dX3_isOpen_20 : decode cX3_isOpen 20 = .ok (.baload, 1) := by decide +kernel
theorem dX3_isOpen_21 : decode cX3_isOpen 21 = .ok (.ifCond .ne 7, 3) := by decide +kernel
theorem dX3_isOpen_24 : decode cX3_isOpen 24 = .ok (.iconst 1, 1) := by decide +kernel
theorem dX3_isOpen_25 : decode cX3_isOpen 25 = .ok (.goto 4, 3) := by decide +kernel
theorem dX3_isOpen_28 : decode cX3_isOpen 28 = .ok (.iconst 0, 1) := by decide +kernel
theorem dX3_isOpen_29 : decode cX3_isOpen 29 = .ok (.ireturn, 1) := by decide +kernel
theorem dX3_addRoute_0 : decode cX3_addRoute 0 = .ok (.aload_n 0, 1) := by decide +kernel
theorem dX3_addRoute_1 : decode cX3_addRoute 1 = .ok (.getfield 11, 3) := by decide +kernel
theorem dX3_addRoute_4 : decode cX3_addRoute 4 = .ok (.aload_n 0, 1) := by decide +kernel
theorem dX3_addRoute_5 : decode cX3_addRoute 5 = .ok (.getfield 47, 3) := by decide +kernel
theorem dX3_addRoute_8 : decode cX3_addRoute 8 = .ok (.aaload, 1) := by decide +kernel
theorem dX3_addRoute_9 : decode cX3_addRoute 9 = .ok (.astore_n 3, 1) := by decide +kernel
theorem dX3_addRoute_10 : decode cX3_addRoute 10 = .ok (.aload_n 3, 1) := by decide +kernel
theorem dX3_addRoute_11 : decode cX3_addRoute 11 = .ok (.iload_n 1, 1) := by decide +kernel
theorem dX3_addRoute_12 : decode cX3_addRoute 12 = .ok (.putfield 73, 3) := by decide +kernel
theorem dX3_addRoute_15 : decode cX3_addRoute 15 = .ok (.aload_n 3, 1) := by decide +kernel
theorem dX3_addRoute_16 : decode cX3_addRoute 16 = .ok (.iload_n 2, 1) := by decide +kernel
theorem dX3_addRoute_17 : decode cX3_addRoute 17 = .ok (.putfield 76, 3) := by decide +kernel
theorem dX3_addRoute_20 : decode cX3_addRoute 20 = .ok (.aload_n 0, 1) := by decide +kernel
theorem dX3_addRoute_21 : decode cX3_addRoute 21 = .ok (.dup, 1) := by decide +kernel
theorem dX3_addRoute_22 : decode cX3_addRoute 22 = .ok (.getfield 47, 3) := by decide +kernel
theorem dX3_addRoute_25 : decode cX3_addRoute 25 = .ok (.iconst 1, 1) := by decide +kernel
theorem dX3_addRoute_26 : decode cX3_addRoute 26 = .ok (.iadd, 1) := by decide +kernel
theorem dX3_addRoute_27 : decode cX3_addRoute 27 = .ok (.putfield 47, 3) := by decide +kernel
theorem dX3_addRoute_30 : decode cX3_addRoute 30 = .ok (.aload_n 0, 1) := by decide +kernel
theorem dX3_addRoute_31 : decode cX3_addRoute 31 = .ok (.getfield 47, 3) := by decide +kernel
theorem dX3_addRoute_34 : decode cX3_addRoute 34 = .ok (.iconst 1, 1) := by decide +kernel
theorem dX3_addRoute_35 : decode cX3_addRoute 35 = .ok (.isub, 1) := by decide +kernel
theorem dX3_addRoute_36 : decode cX3_addRoute 36 = .ok (.ireturn, 1) := by decide +kernel
theorem dX3_addClimber_0 : decode cX3_addClimber 0 = .ok (.aload_n 0, 1) := by decide +kernel
theorem dX3_addClimber_1 : decode cX3_addClimber 1 = .ok (.dup, 1) := by decide +kernel
theorem dX3_addClimber_2 : decode cX3_addClimber 2 = .ok (.getfield 50, 3) := by decide +kernel
theorem dX3_addClimber_5 : decode cX3_addClimber 5 = .ok (.iconst 1, 1) := by decide +kernel
theorem dX3_addClimber_6 : decode cX3_addClimber 6 = .ok (.iadd, 1) := by decide +kernel
theorem dX3_addClimber_7 : decode cX3_addClimber 7 = .ok (.putfield 50, 3) := by decide +kernel
theorem dX3_addClimber_10 : decode cX3_addClimber 10 = .ok (.aload_n 0, 1) := by decide +kernel
theorem dX3_addClimber_11 : decode cX3_addClimber 11 = .ok (.getfield 50, 3) := by decide +kernel
theorem dX3_addClimber_14 : decode cX3_addClimber 14 = .ok (.iconst 1, 1) := by decide +kernel
theorem dX3_addClimber_15 : decode cX3_addClimber 15 = .ok (.isub, 1) := by decide +kernel
theorem dX3_addClimber_16 : decode cX3_addClimber 16 = .ok (.ireturn, 1) := by decide +kernel
theorem dX3_addApplication_0 : decode cX3_addApplication 0 = .ok (.aload_n 0, 1) := by decide +kernel
theorem dX3_addApplication_1 : decode cX3_addApplication 1 = .ok (.getfield 25, 3) := by decide +kernel
theorem dX3_addApplication_4 : decode cX3_addApplication 4 = .ok (.aload_n 0, 1) := by decide +kernel
theorem dX3_addApplication_5 : decode cX3_addApplication 5 = .ok (.getfield 53, 3) := by decide +kernel
theorem dX3_addApplication_8 : decode cX3_addApplication 8 = .ok (.aaload, 1) := by decide +kernel
theorem dX3_addApplication_9 : decode cX3_addApplication 9 = .ok (.astore 5, 2) := by decide +kernel
theorem dX3_addApplication_11 : decode cX3_addApplication 11 = .ok (.aload 5, 2) := by decide +kernel
theorem dX3_addApplication_13 : decode cX3_addApplication 13 = .ok (.iload_n 1, 1) := by decide +kernel
theorem dX3_addApplication_14 : decode cX3_addApplication 14 = .ok (.putfield 79, 3) := by decide +kernel
theorem dX3_addApplication_17 : decode cX3_addApplication 17 = .ok (.aload 5, 2) := by decide +kernel
theorem dX3_addApplication_19 : decode cX3_addApplication 19 = .ok (.iload_n 2, 1) := by decide +kernel
theorem dX3_addApplication_20 : decode cX3_addApplication 20 = .ok (.putfield 82, 3) := by decide +kernel
theorem dX3_addApplication_23 : decode cX3_addApplication 23 = .ok (.aload 5, 2) := by decide +kernel
theorem dX3_addApplication_25 : decode cX3_addApplication 25 = .ok (.iload_n 3, 1) := by decide +kernel
theorem dX3_addApplication_26 : decode cX3_addApplication 26 = .ok (.putfield 85, 3) := by decide +kernel
theorem dX3_addApplication_29 : decode cX3_addApplication 29 = .ok (.aload 5, 2) := by decide +kernel
theorem dX3_addApplication_31 : decode cX3_addApplication 31 = .ok (.iload_n 3, 1) := by decide +kernel
theorem dX3_addApplication_32 : decode cX3_addApplication 32 = .ok (.putfield 88, 3) := by decide +kernel
theorem dX3_addApplication_35 : decode cX3_addApplication 35 = .ok (.aload 5, 2) := by decide +kernel
theorem dX3_addApplication_37 : decode cX3_addApplication 37 = .ok (.iload 4, 2) := by decide +kernel
theorem dX3_addApplication_39 : decode cX3_addApplication 39 = .ok (.putfield 91, 3) := by decide +kernel
theorem dX3_addApplication_42 : decode cX3_addApplication 42 = .ok (.aload_n 0, 1) := by decide +kernel
theorem dX3_addApplication_43 : decode cX3_addApplication 43 = .ok (.dup, 1) := by decide +kernel
theorem dX3_addApplication_44 : decode cX3_addApplication 44 = .ok (.getfield 53, 3) := by decide +kernel
theorem dX3_addApplication_47 : decode cX3_addApplication 47 = .ok (.iconst 1, 1) := by decide +kernel
theorem dX3_addApplication_48 : decode cX3_addApplication 48 = .ok (.iadd, 1) := by decide +kernel
theorem dX3_addApplication_49 : decode cX3_addApplication 49 = .ok (.putfield 53, 3) := by decide +kernel
theorem dX3_addApplication_52 : decode cX3_addApplication 52 = .ok (.aload_n 0, 1) := by decide +kernel
theorem dX3_addApplication_53 : decode cX3_addApplication 53 = .ok (.getfield 53, 3) := by decide +kernel
theorem dX3_addApplication_56 : decode cX3_addApplication 56 = .ok (.iconst 1, 1) := by decide +kernel
theorem dX3_addApplication_57 : decode cX3_addApplication 57 = .ok (.isub, 1) := by decide +kernel
theorem dX3_addApplication_58 : decode cX3_addApplication 58 = .ok (.ireturn, 1) := by decide +kernel
set_option maxRecDepth 20000 in
theorem ggX3_stillHas_X0_isBy : GoodIn wsX3_stillHas wsX0_isBy := goodIn_r _ [7, 8, 29, 30, 31, 32, 33, 34, 35, 36, 37] rfl (by decide +kernel)
set_option maxRecDepth 20000 in
theorem gX3_stillHas_X0_isBy : GoodIn wsX3_stillHas (wsV RX3 94 RX0 yX0_isBy wsX0_isBy) := goodIn_app (goodIn_of _ (by decide +kernel)) ggX3_stillHas_X0_isBy
set_option maxRecDepth 20000 in
theorem ggX3_stillHas_X0_isOf : GoodIn wsX3_stillHas wsX0_isOf := goodIn_r _ [12, 13, 14, 29, 30, 31, 32, 33, 34, 35, 36, 37] rfl (by decide +kernel)
set_option maxRecDepth 20000 in
theorem gX3_stillHas_X0_isOf : GoodIn wsX3_stillHas (wsV RX3 97 RX0 yX0_isOf wsX0_isOf) := goodIn_app (goodIn_of _ (by decide +kernel)) ggX3_stillHas_X0_isOf
set_option maxRecDepth 20000 in
theorem ggX3_stillHas_X0_isAlive : GoodIn wsX3_stillHas wsX0_isAlive := goodIn_r _ [18, 19, 29, 30, 31, 32, 33, 34, 35, 36, 37] rfl (by decide +kernel)
set_option maxRecDepth 20000 in
theorem gX3_stillHas_X0_isAlive : GoodIn wsX3_stillHas (wsV RX3 101 RX0 yX0_isAlive wsX0_isAlive) := goodIn_app (goodIn_of _ (by decide +kernel)) ggX3_stillHas_X0_isAlive
theorem dX3_stillHas_0 : decode cX3_stillHas 0 = .ok (.iconst 0, 1) := by decide +kernel
theorem dX3_stillHas_1 : decode cX3_stillHas 1 = .ok (.istore 4, 2) := by decide +kernel
theorem dX3_stillHas_3 : decode cX3_stillHas 3 = .ok (.iload 4, 2) := by decide +kernel
theorem dX3_stillHas_5 : decode cX3_stillHas 5 = .ok (.aload_n 0, 1) := by decide +kernel
theorem dX3_stillHas_6 : decode cX3_stillHas 6 = .ok (.getfield 53, 3) := by decide +kernel
theorem dX3_stillHas_9 : decode cX3_stillHas 9 = .ok (.if_icmp .ge 47, 3) := by decide +kernel
theorem dX3_stillHas_12 : decode cX3_stillHas 12 = .ok (.aload_n 0, 1) := by decide +kernel
theorem dX3_stillHas_13 : decode cX3_stillHas 13 = .ok (.getfield 25, 3) := by decide +kernel
theorem dX3_stillHas_16 : decode cX3_stillHas 16 = .ok (.iload 4, 2) := by decide +kernel
theorem dX3_stillHas_18 : decode cX3_stillHas 18 = .ok (.aaload, 1) := by decide +kernel
theorem dX3_stillHas_19 : decode cX3_stillHas 19 = .ok (.astore 5, 2) := by decide +kernel
theorem dX3_stillHas_21 : decode cX3_stillHas 21 = .ok (.aload 5, 2) := by decide +kernel
theorem dX3_stillHas_23 : decode cX3_stillHas 23 = .ok (.iload_n 1, 1) := by decide +kernel
theorem dX3_stillHas_24 : decode cX3_stillHas 24 = .ok (.invokevirtual 94, 3) := by decide +kernel
theorem dX3_stillHas_27 : decode cX3_stillHas 27 = .ok (.ifCond .eq 23, 3) := by decide +kernel
theorem dX3_stillHas_30 : decode cX3_stillHas 30 = .ok (.aload 5, 2) := by decide +kernel
theorem dX3_stillHas_32 : decode cX3_stillHas 32 = .ok (.iload_n 2, 1) := by decide +kernel
theorem dX3_stillHas_33 : decode cX3_stillHas 33 = .ok (.iload_n 3, 1) := by decide +kernel
theorem dX3_stillHas_34 : decode cX3_stillHas 34 = .ok (.invokevirtual 97, 3) := by decide +kernel
theorem dX3_stillHas_37 : decode cX3_stillHas 37 = .ok (.ifCond .eq 13, 3) := by decide +kernel
theorem dX3_stillHas_40 : decode cX3_stillHas 40 = .ok (.aload 5, 2) := by decide +kernel
theorem dX3_stillHas_42 : decode cX3_stillHas 42 = .ok (.invokevirtual 101, 3) := by decide +kernel
theorem dX3_stillHas_45 : decode cX3_stillHas 45 = .ok (.ifCond .eq 5, 3) := by decide +kernel
theorem dX3_stillHas_48 : decode cX3_stillHas 48 = .ok (.iconst 1, 1) := by decide +kernel
theorem dX3_stillHas_49 : decode cX3_stillHas 49 = .ok (.ireturn, 1) := by decide +kernel
theorem dX3_stillHas_50 : decode cX3_stillHas 50 = .ok (.iinc 4 1, 3) := by decide +kernel
theorem dX3_stillHas_53 : decode cX3_stillHas 53 = .ok (.goto (-50), 3) := by decide +kernel
theorem dX3_stillHas_56 : decode cX3_stillHas 56 = .ok (.iconst 0, 1) := by decide +kernel
theorem dX3_stillHas_57 : decode cX3_stillHas 57 = .ok (.ireturn, 1) := by decide +kernel
set_option maxRecDepth 20000 in
theorem ggX3_countOf_X0_isOf : GoodIn wsX3_countOf wsX0_isOf := goodIn_r _ [8, 9, 10, 20, 21, 22, 23, 24, 25, 26, 27, 28] rfl (by decide +kernel)
set_option maxRecDepth 20000 in
theorem gX3_countOf_X0_isOf : GoodIn wsX3_countOf (wsV RX3 97 RX0 yX0_isOf wsX0_isOf) := goodIn_app (goodIn_of _ (by decide +kernel)) ggX3_countOf_X0_isOf
theorem dX3_countOf_0 : decode cX3_countOf 0 = .ok (.iconst 0, 1) := by decide +kernel
theorem dX3_countOf_1 : decode cX3_countOf 1 = .ok (.istore 4, 2) := by decide +kernel
theorem dX3_countOf_3 : decode cX3_countOf 3 = .ok (.iconst 0, 1) := by decide +kernel
theorem dX3_countOf_4 : decode cX3_countOf 4 = .ok (.istore 5, 2) := by decide +kernel
theorem dX3_countOf_6 : decode cX3_countOf 6 = .ok (.iload 5, 2) := by decide +kernel
theorem dX3_countOf_8 : decode cX3_countOf 8 = .ok (.aload_n 0, 1) := by decide +kernel
theorem dX3_countOf_9 : decode cX3_countOf 9 = .ok (.getfield 53, 3) := by decide +kernel
theorem dX3_countOf_12 : decode cX3_countOf 12 = .ok (.if_icmp .ge 41, 3) := by decide +kernel
theorem dX3_countOf_15 : decode cX3_countOf 15 = .ok (.aload_n 0, 1) := by decide +kernel
theorem dX3_countOf_16 : decode cX3_countOf 16 = .ok (.getfield 25, 3) := by decide +kernel
theorem dX3_countOf_19 : decode cX3_countOf 19 = .ok (.iload 5, 2) := by decide +kernel
theorem dX3_countOf_21 : decode cX3_countOf 21 = .ok (.aaload, 1) := by decide +kernel
theorem dX3_countOf_22 : decode cX3_countOf 22 = .ok (.getfield 105, 3) := by decide +kernel
theorem dX3_countOf_25 : decode cX3_countOf 25 = .ok (.iload_n 3, 1) := by decide +kernel
theorem dX3_countOf_26 : decode cX3_countOf 26 = .ok (.if_icmp .ne 21, 3) := by decide +kernel
theorem dX3_countOf_29 : decode cX3_countOf 29 = .ok (.aload_n 0, 1) := by decide +kernel
theorem dX3_countOf_30 : decode cX3_countOf 30 = .ok (.getfield 25, 3) := by decide +kernel
theorem dX3_countOf_33 : decode cX3_countOf 33 = .ok (.iload 5, 2) := by decide +kernel
theorem dX3_countOf_35 : decode cX3_countOf 35 = .ok (.aaload, 1) := by decide +kernel
theorem dX3_countOf_36 : decode cX3_countOf 36 = .ok (.iload_n 1, 1) := by decide +kernel
theorem dX3_countOf_37 : decode cX3_countOf 37 = .ok (.iload_n 2, 1) := by decide +kernel
theorem dX3_countOf_38 : decode cX3_countOf 38 = .ok (.invokevirtual 97, 3) := by decide +kernel
theorem dX3_countOf_41 : decode cX3_countOf 41 = .ok (.ifCond .eq 6, 3) := by decide +kernel
theorem dX3_countOf_44 : decode cX3_countOf 44 = .ok (.iinc 4 1, 3) := by decide +kernel
theorem dX3_countOf_47 : decode cX3_countOf 47 = .ok (.iinc 5 1, 3) := by decide +kernel
theorem dX3_countOf_50 : decode cX3_countOf 50 = .ok (.goto (-44), 3) := by decide +kernel
theorem dX3_countOf_53 : decode cX3_countOf 53 = .ok (.iload 4, 2) := by decide +kernel
theorem dX3_countOf_55 : decode cX3_countOf 55 = .ok (.ireturn, 1) := by decide +kernel
set_option maxRecDepth 20000 in
theorem ggX3_countIn_X0_isBy : GoodIn wsX3_countIn wsX0_isBy := goodIn_r _ [8, 9, 19, 20, 21, 22, 23, 24, 25, 26, 27] rfl (by decide +kernel)
set_option maxRecDepth 20000 in
theorem gX3_countIn_X0_isBy : GoodIn wsX3_countIn (wsV RX3 94 RX0 yX0_isBy wsX0_isBy) := goodIn_app (goodIn_of _ (by decide +kernel)) ggX3_countIn_X0_isBy
theorem dX3_countIn_0 : decode cX3_countIn 0 = .ok (.iconst 0, 1) := by decide +kernel
theorem dX3_countIn_1 : decode cX3_countIn 1 = .ok (.istore_n 3, 1) := by decide +kernel
theorem dX3_countIn_2 : decode cX3_countIn 2 = .ok (.iconst 0, 1) := by decide +kernel
theorem dX3_countIn_3 : decode cX3_countIn 3 = .ok (.istore 4, 2) := by decide +kernel
theorem dX3_countIn_5 : decode cX3_countIn 5 = .ok (.iload 4, 2) := by decide +kernel
theorem dX3_countIn_7 : decode cX3_countIn 7 = .ok (.aload_n 0, 1) := by decide +kernel
theorem dX3_countIn_8 : decode cX3_countIn 8 = .ok (.getfield 53, 3) := by decide +kernel
theorem dX3_countIn_11 : decode cX3_countIn 11 = .ok (.if_icmp .ge 40, 3) := by decide +kernel
theorem dX3_countIn_14 : decode cX3_countIn 14 = .ok (.aload_n 0, 1) := by decide +kernel
theorem dX3_countIn_15 : decode cX3_countIn 15 = .ok (.getfield 25, 3) := by decide +kernel
theorem dX3_countIn_18 : decode cX3_countIn 18 = .ok (.iload 4, 2) := by decide +kernel
theorem dX3_countIn_20 : decode cX3_countIn 20 = .ok (.aaload, 1) := by decide +kernel
theorem dX3_countIn_21 : decode cX3_countIn 21 = .ok (.getfield 105, 3) := by decide +kernel
theorem dX3_countIn_24 : decode cX3_countIn 24 = .ok (.iload_n 2, 1) := by decide +kernel
theorem dX3_countIn_25 : decode cX3_countIn 25 = .ok (.if_icmp .ne 20, 3) := by decide +kernel
theorem dX3_countIn_28 : decode cX3_countIn 28 = .ok (.aload_n 0, 1) := by decide +kernel
theorem dX3_countIn_29 : decode cX3_countIn 29 = .ok (.getfield 25, 3) := by decide +kernel
theorem dX3_countIn_32 : decode cX3_countIn 32 = .ok (.iload 4, 2) := by decide +kernel
theorem dX3_countIn_34 : decode cX3_countIn 34 = .ok (.aaload, 1) := by decide +kernel
theorem dX3_countIn_35 : decode cX3_countIn 35 = .ok (.iload_n 1, 1) := by decide +kernel
theorem dX3_countIn_36 : decode cX3_countIn 36 = .ok (.invokevirtual 94, 3) := by decide +kernel
theorem dX3_countIn_39 : decode cX3_countIn 39 = .ok (.ifCond .eq 6, 3) := by decide +kernel
theorem dX3_countIn_42 : decode cX3_countIn 42 = .ok (.iinc 3 1, 3) := by decide +kernel
theorem dX3_countIn_45 : decode cX3_countIn 45 = .ok (.iinc 4 1, 3) := by decide +kernel
theorem dX3_countIn_48 : decode cX3_countIn 48 = .ok (.goto (-43), 3) := by decide +kernel
theorem dX3_countIn_51 : decode cX3_countIn 51 = .ok (.iload_n 3, 1) := by decide +kernel
theorem dX3_countIn_52 : decode cX3_countIn 52 = .ok (.ireturn, 1) := by decide +kernel
set_option maxRecDepth 20000 in
theorem ggX3_countBy_X0_isBy : GoodIn wsX3_countBy wsX0_isBy := goodIn_r _ [7, 8, 18, 19, 20, 21, 22, 23, 24, 25, 26] rfl (by decide +kernel)
set_option maxRecDepth 20000 in
theorem gX3_countBy_X0_isBy : GoodIn wsX3_countBy (wsV RX3 94 RX0 yX0_isBy wsX0_isBy) := goodIn_app (goodIn_of _ (by decide +kernel)) ggX3_countBy_X0_isBy
theorem dX3_countBy_0 : decode cX3_countBy 0 = .ok (.iconst 0, 1) := by decide +kernel
theorem dX3_countBy_1 : decode cX3_countBy 1 = .ok (.istore_n 2, 1) := by decide +kernel
theorem dX3_countBy_2 : decode cX3_countBy 2 = .ok (.iconst 0, 1) := by decide +kernel
theorem dX3_countBy_3 : decode cX3_countBy 3 = .ok (.istore_n 3, 1) := by decide +kernel
theorem dX3_countBy_4 : decode cX3_countBy 4 = .ok (.iload_n 3, 1) := by decide +kernel
theorem dX3_countBy_5 : decode cX3_countBy 5 = .ok (.aload_n 0, 1) := by decide +kernel
theorem dX3_countBy_6 : decode cX3_countBy 6 = .ok (.getfield 53, 3) := by decide +kernel
theorem dX3_countBy_9 : decode cX3_countBy 9 = .ok (.if_icmp .ge 25, 3) := by decide +kernel
theorem dX3_countBy_12 : decode cX3_countBy 12 = .ok (.aload_n 0, 1) := by decide +kernel
theorem dX3_countBy_13 : decode cX3_countBy 13 = .ok (.getfield 25, 3) := by decide +kernel
theorem dX3_countBy_16 : decode cX3_countBy 16 = .ok (.iload_n 3, 1) := by decide +kernel
theorem dX3_countBy_17 : decode cX3_countBy 17 = .ok (.aaload, 1) := by decide +kernel
theorem dX3_countBy_18 : decode cX3_countBy 18 = .ok (.iload_n 1, 1) := by decide +kernel
theorem dX3_countBy_19 : decode cX3_countBy 19 = .ok (.invokevirtual 94, 3) := by decide +kernel
theorem dX3_countBy_22 : decode cX3_countBy 22 = .ok (.ifCond .eq 6, 3) := by decide +kernel
theorem dX3_countBy_25 : decode cX3_countBy 25 = .ok (.iinc 2 1, 3) := by decide +kernel
theorem dX3_countBy_28 : decode cX3_countBy 28 = .ok (.iinc 3 1, 3) := by decide +kernel
theorem dX3_countBy_31 : decode cX3_countBy 31 = .ok (.goto (-27), 3) := by decide +kernel
theorem dX3_countBy_34 : decode cX3_countBy 34 = .ok (.iload_n 2, 1) := by decide +kernel
theorem dX3_countBy_35 : decode cX3_countBy 35 = .ok (.ireturn, 1) := by decide +kernel
set_option maxRecDepth 20000 in
theorem ggX3_paidBy_X0_isBy : GoodIn wsX3_paidBy wsX0_isBy := goodIn_r _ [8, 9, 19, 20, 21, 22, 23, 24, 25, 26, 27] rfl (by decide +kernel)
set_option maxRecDepth 20000 in
theorem gX3_paidBy_X0_isBy : GoodIn wsX3_paidBy (wsV RX3 94 RX0 yX0_isBy wsX0_isBy) := goodIn_app (goodIn_of _ (by decide +kernel)) ggX3_paidBy_X0_isBy
theorem dX3_paidBy_0 : decode cX3_paidBy 0 = .ok (.iconst 0, 1) := by decide +kernel
theorem dX3_paidBy_1 : decode cX3_paidBy 1 = .ok (.istore_n 2, 1) := by decide +kernel
theorem dX3_paidBy_2 : decode cX3_paidBy 2 = .ok (.iconst 0, 1) := by decide +kernel
theorem dX3_paidBy_3 : decode cX3_paidBy 3 = .ok (.istore_n 3, 1) := by decide +kernel
theorem dX3_paidBy_4 : decode cX3_paidBy 4 = .ok (.iload_n 3, 1) := by decide +kernel
theorem dX3_paidBy_5 : decode cX3_paidBy 5 = .ok (.aload_n 0, 1) := by decide +kernel
theorem dX3_paidBy_6 : decode cX3_paidBy 6 = .ok (.getfield 53, 3) := by decide +kernel
theorem dX3_paidBy_9 : decode cX3_paidBy 9 = .ok (.if_icmp .ge 34, 3) := by decide +kernel
theorem dX3_paidBy_12 : decode cX3_paidBy 12 = .ok (.aload_n 0, 1) := by decide +kernel
theorem dX3_paidBy_13 : decode cX3_paidBy 13 = .ok (.getfield 25, 3) := by decide +kernel
theorem dX3_paidBy_16 : decode cX3_paidBy 16 = .ok (.iload_n 3, 1) := by decide +kernel
theorem dX3_paidBy_17 : decode cX3_paidBy 17 = .ok (.aaload, 1) := by decide +kernel
theorem dX3_paidBy_18 : decode cX3_paidBy 18 = .ok (.iload_n 1, 1) := by decide +kernel
theorem dX3_paidBy_19 : decode cX3_paidBy 19 = .ok (.invokevirtual 94, 3) := by decide +kernel
theorem dX3_paidBy_22 : decode cX3_paidBy 22 = .ok (.ifCond .eq 15, 3) := by decide +kernel
theorem dX3_paidBy_25 : decode cX3_paidBy 25 = .ok (.iload_n 2, 1) := by decide +kernel
theorem dX3_paidBy_26 : decode cX3_paidBy 26 = .ok (.aload_n 0, 1) := by decide +kernel
theorem dX3_paidBy_27 : decode cX3_paidBy 27 = .ok (.getfield 25, 3) := by decide +kernel
theorem dX3_paidBy_30 : decode cX3_paidBy 30 = .ok (.iload_n 3, 1) := by decide +kernel
theorem dX3_paidBy_31 : decode cX3_paidBy 31 = .ok (.aaload, 1) := by decide +kernel
theorem dX3_paidBy_32 : decode cX3_paidBy 32 = .ok (.getfield 108, 3) := by decide +kernel
theorem dX3_paidBy_35 : decode cX3_paidBy 35 = .ok (.iadd, 1) := by decide +kernel
theorem dX3_paidBy_36 : decode cX3_paidBy 36 = .ok (.istore_n 2, 1) := by decide +kernel
theorem dX3_paidBy_37 : decode cX3_paidBy 37 = .ok (.iinc 3 1, 3) := by decide +kernel
theorem dX3_paidBy_40 : decode cX3_paidBy 40 = .ok (.goto (-36), 3) := by decide +kernel
theorem dX3_paidBy_43 : decode cX3_paidBy 43 = .ok (.iload_n 2, 1) := by decide +kernel
theorem dX3_paidBy_44 : decode cX3_paidBy 44 = .ok (.ireturn, 1) := by decide +kernel
set_option maxRecDepth 20000 in
theorem ggX3_refundedTo_X0_isBy : GoodIn wsX3_refundedTo wsX0_isBy := goodIn_r _ [8, 9, 19, 20, 21, 22, 23, 24, 25, 26, 27] rfl (by decide +kernel)
set_option maxRecDepth 20000 in
theorem gX3_refundedTo_X0_isBy : GoodIn wsX3_refundedTo (wsV RX3 94 RX0 yX0_isBy wsX0_isBy) := goodIn_app (goodIn_of _ (by decide +kernel)) ggX3_refundedTo_X0_isBy
theorem dX3_refundedTo_0 : decode cX3_refundedTo 0 = .ok (.iconst 0, 1) := by decide +kernel
theorem dX3_refundedTo_1 : decode cX3_refundedTo 1 = .ok (.istore_n 2, 1) := by decide +kernel
theorem dX3_refundedTo_2 : decode cX3_refundedTo 2 = .ok (.iconst 0, 1) := by decide +kernel
theorem dX3_refundedTo_3 : decode cX3_refundedTo 3 = .ok (.istore_n 3, 1) := by decide +kernel
theorem dX3_refundedTo_4 : decode cX3_refundedTo 4 = .ok (.iload_n 3, 1) := by decide +kernel
theorem dX3_refundedTo_5 : decode cX3_refundedTo 5 = .ok (.aload_n 0, 1) := by decide +kernel
theorem dX3_refundedTo_6 : decode cX3_refundedTo 6 = .ok (.getfield 53, 3) := by decide +kernel
theorem dX3_refundedTo_9 : decode cX3_refundedTo 9 = .ok (.if_icmp .ge 34, 3) := by decide +kernel
theorem dX3_refundedTo_12 : decode cX3_refundedTo 12 = .ok (.aload_n 0, 1) := by decide +kernel
theorem dX3_refundedTo_13 : decode cX3_refundedTo 13 = .ok (.getfield 25, 3) := by decide +kernel
theorem dX3_refundedTo_16 : decode cX3_refundedTo 16 = .ok (.iload_n 3, 1) := by decide +kernel
theorem dX3_refundedTo_17 : decode cX3_refundedTo 17 = .ok (.aaload, 1) := by decide +kernel
theorem dX3_refundedTo_18 : decode cX3_refundedTo 18 = .ok (.iload_n 1, 1) := by decide +kernel
theorem dX3_refundedTo_19 : decode cX3_refundedTo 19 = .ok (.invokevirtual 94, 3) := by decide +kernel
theorem dX3_refundedTo_22 : decode cX3_refundedTo 22 = .ok (.ifCond .eq 15, 3) := by decide +kernel
theorem dX3_refundedTo_25 : decode cX3_refundedTo 25 = .ok (.iload_n 2, 1) := by decide +kernel
theorem dX3_refundedTo_26 : decode cX3_refundedTo 26 = .ok (.aload_n 0, 1) := by decide +kernel
theorem dX3_refundedTo_27 : decode cX3_refundedTo 27 = .ok (.getfield 25, 3) := by decide +kernel
theorem dX3_refundedTo_30 : decode cX3_refundedTo 30 = .ok (.iload_n 3, 1) := by decide +kernel
theorem dX3_refundedTo_31 : decode cX3_refundedTo 31 = .ok (.aaload, 1) := by decide +kernel
theorem dX3_refundedTo_32 : decode cX3_refundedTo 32 = .ok (.getfield 111, 3) := by decide +kernel
theorem dX3_refundedTo_35 : decode cX3_refundedTo 35 = .ok (.iadd, 1) := by decide +kernel
theorem dX3_refundedTo_36 : decode cX3_refundedTo 36 = .ok (.istore_n 2, 1) := by decide +kernel
theorem dX3_refundedTo_37 : decode cX3_refundedTo 37 = .ok (.iinc 3 1, 3) := by decide +kernel
theorem dX3_refundedTo_40 : decode cX3_refundedTo 40 = .ok (.goto (-36), 3) := by decide +kernel
theorem dX3_refundedTo_43 : decode cX3_refundedTo 43 = .ok (.iload_n 2, 1) := by decide +kernel
theorem dX3_refundedTo_44 : decode cX3_refundedTo 44 = .ok (.ireturn, 1) := by decide +kernel
theorem dX3_closedDays_0 : decode cX3_closedDays 0 = .ok (.iconst 0, 1) := by decide +kernel
theorem dX3_closedDays_1 : decode cX3_closedDays 1 = .ok (.istore_n 1, 1) := by decide +kernel
theorem dX3_closedDays_2 : decode cX3_closedDays 2 = .ok (.iconst 0, 1) := by decide +kernel
theorem dX3_closedDays_3 : decode cX3_closedDays 3 = .ok (.istore_n 2, 1) := by decide +kernel
theorem dX3_closedDays_4 : decode cX3_closedDays 4 = .ok (.iload_n 2, 1) := by decide +kernel
theorem dX3_closedDays_5 : decode cX3_closedDays 5 = .ok (.aload_n 0, 1) := by decide +kernel
theorem dX3_closedDays_6 : decode cX3_closedDays 6 = .ok (.getfield 29, 3) := by decide +kernel
theorem dX3_closedDays_9 : decode cX3_closedDays 9 = .ok (.arraylength, 1) := by decide +kernel
theorem dX3_closedDays_10 : decode cX3_closedDays 10 = .ok (.if_icmp .ge 21, 3) := by decide +kernel
theorem dX3_closedDays_13 : decode cX3_closedDays 13 = .ok (.aload_n 0, 1) := by decide +kernel
theorem dX3_closedDays_14 : decode cX3_closedDays 14 = .ok (.getfield 29, 3) := by decide +kernel
theorem dX3_closedDays_17 : decode cX3_closedDays 17 = .ok (.iload_n 2, 1) := by decide +kernel
theorem dX3_closedDays_18 : decode cX3_closedDays 18 = .ok (.baload, 1) := by decide +kernel
theorem dX3_closedDays_19 : decode cX3_closedDays 19 = .ok (.ifCond .eq 6, 3) := by decide +kernel
theorem dX3_closedDays_22 : decode cX3_closedDays 22 = .ok (.iinc 1 1, 3) := by decide +kernel
theorem dX3_closedDays_25 : decode cX3_closedDays 25 = .ok (.iinc 2 1, 3) := by decide +kernel
theorem dX3_closedDays_28 : decode cX3_closedDays 28 = .ok (.goto (-24), 3) := by decide +kernel
theorem dX3_closedDays_31 : decode cX3_closedDays 31 = .ok (.iload_n 1, 1) := by decide +kernel
theorem dX3_closedDays_32 : decode cX3_closedDays 32 = .ok (.ireturn, 1) := by decide +kernel
set_option maxRecDepth 20000 in
theorem ggX3_placesTaken_X0_takesPlaces : GoodIn wsX3_placesTaken wsX0_takesPlaces := goodIn_r _ [8, 9, 25, 26, 27, 28, 29, 30, 31, 32, 33] rfl (by decide +kernel)
set_option maxRecDepth 20000 in
theorem gX3_placesTaken_X0_takesPlaces : GoodIn wsX3_placesTaken (wsV RX3 114 RX0 yX0_takesPlaces wsX0_takesPlaces) := goodIn_app (goodIn_of _ (by decide +kernel)) ggX3_placesTaken_X0_takesPlaces
set_option maxRecDepth 20000 in
theorem ggX3_placesTaken_X0_isOf : GoodIn wsX3_placesTaken wsX0_isOf := goodIn_r _ [13, 14, 15, 25, 26, 27, 28, 29, 30, 31, 32, 33] rfl (by decide +kernel)
set_option maxRecDepth 20000 in
theorem gX3_placesTaken_X0_isOf : GoodIn wsX3_placesTaken (wsV RX3 97 RX0 yX0_isOf wsX0_isOf) := goodIn_app (goodIn_of _ (by decide +kernel)) ggX3_placesTaken_X0_isOf
theorem dX3_placesTaken_0 : decode cX3_placesTaken 0 = .ok (.iconst 0, 1) := by decide +kernel
theorem dX3_placesTaken_1 : decode cX3_placesTaken 1 = .ok (.istore_n 3, 1) := by decide +kernel
theorem dX3_placesTaken_2 : decode cX3_placesTaken 2 = .ok (.iconst 0, 1) := by decide +kernel
theorem dX3_placesTaken_3 : decode cX3_placesTaken 3 = .ok (.istore 4, 2) := by decide +kernel
theorem dX3_placesTaken_5 : decode cX3_placesTaken 5 = .ok (.iload 4, 2) := by decide +kernel
theorem dX3_placesTaken_7 : decode cX3_placesTaken 7 = .ok (.aload_n 0, 1) := by decide +kernel
theorem dX3_placesTaken_8 : decode cX3_placesTaken 8 = .ok (.getfield 53, 3) := by decide +kernel
theorem dX3_placesTaken_11 : decode cX3_placesTaken 11 = .ok (.if_icmp .ge 50, 3) := by decide +kernel
theorem dX3_placesTaken_14 : decode cX3_placesTaken 14 = .ok (.aload_n 0, 1) := by decide +kernel
theorem dX3_placesTaken_15 : decode cX3_placesTaken 15 = .ok (.getfield 25, 3) := by decide +kernel
theorem dX3_placesTaken_18 : decode cX3_placesTaken 18 = .ok (.iload 4, 2) := by decide +kernel
theorem dX3_placesTaken_20 : decode cX3_placesTaken 20 = .ok (.aaload, 1) := by decide +kernel
theorem dX3_placesTaken_21 : decode cX3_placesTaken 21 = .ok (.invokevirtual 114, 3) := by decide +kernel
theorem dX3_placesTaken_24 : decode cX3_placesTaken 24 = .ok (.ifCond .eq 31, 3) := by decide +kernel
theorem dX3_placesTaken_27 : decode cX3_placesTaken 27 = .ok (.aload_n 0, 1) := by decide +kernel
theorem dX3_placesTaken_28 : decode cX3_placesTaken 28 = .ok (.getfield 25, 3) := by decide +kernel
theorem dX3_placesTaken_31 : decode cX3_placesTaken 31 = .ok (.iload 4, 2) := by decide +kernel
theorem dX3_placesTaken_33 : decode cX3_placesTaken 33 = .ok (.aaload, 1) := by decide +kernel
theorem dX3_placesTaken_34 : decode cX3_placesTaken 34 = .ok (.iload_n 1, 1) := by decide +kernel
theorem dX3_placesTaken_35 : decode cX3_placesTaken 35 = .ok (.iload_n 2, 1) := by decide +kernel
theorem dX3_placesTaken_36 : decode cX3_placesTaken 36 = .ok (.invokevirtual 97, 3) := by decide +kernel
theorem dX3_placesTaken_39 : decode cX3_placesTaken 39 = .ok (.ifCond .eq 16, 3) := by decide +kernel
theorem dX3_placesTaken_42 : decode cX3_placesTaken 42 = .ok (.iload_n 3, 1) := by decide +kernel
theorem dX3_placesTaken_43 : decode cX3_placesTaken 43 = .ok (.aload_n 0, 1) := by decide +kernel
theorem dX3_placesTaken_44 : decode cX3_placesTaken 44 = .ok (.getfield 25, 3) := by decide +kernel
theorem dX3_placesTaken_47 : decode cX3_placesTaken 47 = .ok (.iload 4, 2) := by decide +kernel
theorem dX3_placesTaken_49 : decode cX3_placesTaken 49 = .ok (.aaload, 1) := by decide +kernel
theorem dX3_placesTaken_50 : decode cX3_placesTaken 50 = .ok (.getfield 91, 3) := by decide +kernel
theorem dX3_placesTaken_53 : decode cX3_placesTaken 53 = .ok (.iadd, 1) := by decide +kernel
theorem dX3_placesTaken_54 : decode cX3_placesTaken 54 = .ok (.istore_n 3, 1) := by decide +kernel
theorem dX3_placesTaken_55 : decode cX3_placesTaken 55 = .ok (.iinc 4 1, 3) := by decide +kernel
theorem dX3_placesTaken_58 : decode cX3_placesTaken 58 = .ok (.goto (-53), 3) := by decide +kernel
theorem dX3_placesTaken_61 : decode cX3_placesTaken 61 = .ok (.iload_n 3, 1) := by decide +kernel
theorem dX3_placesTaken_62 : decode cX3_placesTaken 62 = .ok (.ireturn, 1) := by decide +kernel
set_option maxRecDepth 20000 in
theorem ggX3_placesFree_X3_placesTaken : GoodIn wsX3_placesFree wsX3_placesTaken := goodIn_r _ [7, 8, 9, 10, 11, 12, 13, 14, 15, 16, 17, 18, 19, 20, 21, 22, 23, 24, 25, 26, 27, 28, 29, 30, 31, 34, 35, 36, 37, 38, 39, 40, 41, 42] rfl (by decide +kernel)
set_option maxRecDepth 20000 in
theorem gX3_placesFree_X3_placesTaken : GoodIn wsX3_placesFree (wsV RX3 117 RX3 yX3_placesTaken wsX3_placesTaken) := goodIn_app (goodIn_of _ (by decide +kernel)) ggX3_placesFree_X3_placesTaken
theorem dX3_placesFree_0 : decode cX3_placesFree 0 = .ok (.aload_n 0, 1) := by decide +kernel
theorem dX3_placesFree_1 : decode cX3_placesFree 1 = .ok (.getfield 11, 3) := by decide +kernel
theorem dX3_placesFree_4 : decode cX3_placesFree 4 = .ok (.iload_n 1, 1) := by decide +kernel
theorem dX3_placesFree_5 : decode cX3_placesFree 5 = .ok (.aaload, 1) := by decide +kernel
theorem dX3_placesFree_6 : decode cX3_placesFree 6 = .ok (.getfield 73, 3) := by decide +kernel
theorem dX3_placesFree_9 : decode cX3_placesFree 9 = .ok (.aload_n 0, 1) := by decide +kernel
theorem dX3_placesFree_10 : decode cX3_placesFree 10 = .ok (.iload_n 1, 1) := by decide +kernel
theorem dX3_placesFree_11 : decode cX3_placesFree 11 = .ok (.iload_n 2, 1) := by decide +kernel
theorem dX3_placesFree_12 : decode cX3_placesFree 12 = .ok (.invokevirtual 117, 3) := by decide +kernel
theorem dX3_placesFree_15 : decode cX3_placesFree 15 = .ok (.isub, 1) := by decide +kernel
theorem dX3_placesFree_16 : decode cX3_placesFree 16 = .ok (.ireturn, 1) := by decide +kernel
set_option maxRecDepth 20000 in
theorem ggX3_placesForLottery_X3_placesFree : GoodIn wsX3_placesForLottery wsX3_placesFree := goodIn_r _ [7, 1, 8, 9, 10, 11, 6, 12, 13, 14, 15, 16, 17, 18, 19, 20, 21, 22, 23, 24, 25, 26, 27, 28, 29, 30, 31, 32, 33, 34, 35, 36, 37, 38, 39, 40, 41, 42, 43, 44, 45, 46, 47] rfl (by decide +kernel)
set_option maxRecDepth 20000 in
theorem gX3_placesForLottery_X3_placesFree : GoodIn wsX3_placesForLottery (wsV RX3 121 RX3 yX3_placesFree wsX3_placesFree) := goodIn_app (goodIn_of _ (by decide +kernel)) ggX3_placesForLottery_X3_placesFree
theorem dX3_placesForLottery_0 : decode cX3_placesForLottery 0 = .ok (.aload_n 0, 1) := by decide +kernel
theorem dX3_placesForLottery_1 : decode cX3_placesForLottery 1 = .ok (.iload_n 1, 1) := by decide +kernel
theorem dX3_placesForLottery_2 : decode cX3_placesForLottery 2 = .ok (.iload_n 2, 1) := by decide +kernel
theorem dX3_placesForLottery_3 : decode cX3_placesForLottery 3 = .ok (.invokevirtual 121, 3) := by decide +kernel
theorem dX3_placesForLottery_6 : decode cX3_placesForLottery 6 = .ok (.aload_n 0, 1) := by decide +kernel
theorem dX3_placesForLottery_7 : decode cX3_placesForLottery 7 = .ok (.getfield 11, 3) := by decide +kernel
theorem dX3_placesForLottery_10 : decode cX3_placesForLottery 10 = .ok (.iload_n 1, 1) := by decide +kernel
theorem dX3_placesForLottery_11 : decode cX3_placesForLottery 11 = .ok (.aaload, 1) := by decide +kernel
theorem dX3_placesForLottery_12 : decode cX3_placesForLottery 12 = .ok (.getfield 76, 3) := by decide +kernel
theorem dX3_placesForLottery_15 : decode cX3_placesForLottery 15 = .ok (.isub, 1) := by decide +kernel
theorem dX3_placesForLottery_16 : decode cX3_placesForLottery 16 = .ok (.ireturn, 1) := by decide +kernel
set_option maxRecDepth 20000 in
theorem ggX3_isBarred_X1_isBarredOn : GoodIn wsX3_isBarred wsX1_isBarredOn := goodIn_r _ [8, 9, 28, 29, 30] rfl (by decide +kernel)
set_option maxRecDepth 20000 in
theorem gX3_isBarred_X1_isBarredOn : GoodIn wsX3_isBarred (wsV RX3 124 RX1 yX1_isBarredOn wsX1_isBarredOn) := goodIn_app (goodIn_of _ (by decide +kernel)) ggX3_isBarred_X1_isBarredOn
theorem dX3_isBarred_0 : decode cX3_isBarred 0 = .ok (.aload_n 0, 1) := by decide +kernel
theorem dX3_isBarred_1 : decode cX3_isBarred 1 = .ok (.getfield 19, 3) := by decide +kernel
theorem dX3_isBarred_4 : decode cX3_isBarred 4 = .ok (.aload_n 1, 1) := by decide +kernel
theorem dX3_isBarred_5 : decode cX3_isBarred 5 = .ok (.getfield 79, 3) := by decide +kernel
theorem dX3_isBarred_8 : decode cX3_isBarred 8 = .ok (.aaload, 1) := by decide +kernel
theorem dX3_isBarred_9 : decode cX3_isBarred 9 = .ok (.aload_n 1, 1) := by decide +kernel
theorem dX3_isBarred_10 : decode cX3_isBarred 10 = .ok (.getfield 85, 3) := by decide +kernel
theorem dX3_isBarred_13 : decode cX3_isBarred 13 = .ok (.invokevirtual 124, 3) := by decide +kernel
theorem dX3_isBarred_16 : decode cX3_isBarred 16 = .ok (.ireturn, 1) := by decide +kernel
theorem dX3_ticketsOf_0 : decode cX3_ticketsOf 0 = .ok (.iconst 1, 1) := by decide +kernel
theorem dX3_ticketsOf_1 : decode cX3_ticketsOf 1 = .ok (.aload_n 0, 1) := by decide +kernel
theorem dX3_ticketsOf_2 : decode cX3_ticketsOf 2 = .ok (.getfield 37, 3) := by decide +kernel
theorem dX3_ticketsOf_5 : decode cX3_ticketsOf 5 = .ok (.iconst 1, 1) := by decide +kernel
theorem dX3_ticketsOf_6 : decode cX3_ticketsOf 6 = .ok (.iaload, 1) := by decide +kernel
theorem dX3_ticketsOf_7 : decode cX3_ticketsOf 7 = .ok (.aload_n 0, 1) := by decide +kernel
theorem dX3_ticketsOf_8 : decode cX3_ticketsOf 8 = .ok (.getfield 19, 3) := by decide +kernel
theorem dX3_ticketsOf_11 : decode cX3_ticketsOf 11 = .ok (.aload_n 1, 1) := by decide +kernel
theorem dX3_ticketsOf_12 : decode cX3_ticketsOf 12 = .ok (.getfield 79, 3) := by decide +kernel
theorem dX3_ticketsOf_15 : decode cX3_ticketsOf 15 = .ok (.aaload, 1) := by decide +kernel
theorem dX3_ticketsOf_16 : decode cX3_ticketsOf 16 = .ok (.getfield 127, 3) := by decide +kernel
theorem dX3_ticketsOf_19 : decode cX3_ticketsOf 19 = .ok (.imul, 1) := by decide +kernel
theorem dX3_ticketsOf_20 : decode cX3_ticketsOf 20 = .ok (.iadd, 1) := by decide +kernel
theorem dX3_ticketsOf_21 : decode cX3_ticketsOf 21 = .ok (.ireturn, 1) := by decide +kernel
theorem dX3_givePermit_0 : decode cX3_givePermit 0 = .ok (.aload_n 1, 1) := by decide +kernel
theorem dX3_givePermit_1 : decode cX3_givePermit 1 = .ok (.iconst 1, 1) := by decide +kernel
theorem dX3_givePermit_2 : decode cX3_givePermit 2 = .ok (.putfield 105, 3) := by decide +kernel
theorem dX3_givePermit_5 : decode cX3_givePermit 5 = .ok (.aload_n 1, 1) := by decide +kernel
theorem dX3_givePermit_6 : decode cX3_givePermit 6 = .ok (.aload_n 0, 1) := by decide +kernel
theorem dX3_givePermit_7 : decode cX3_givePermit 7 = .ok (.getfield 37, 3) := by decide +kernel
theorem dX3_givePermit_10 : decode cX3_givePermit 10 = .ok (.iconst 0, 1) := by decide +kernel
theorem dX3_givePermit_11 : decode cX3_givePermit 11 = .ok (.iaload, 1) := by decide +kernel
theorem dX3_givePermit_12 : decode cX3_givePermit 12 = .ok (.aload_n 1, 1) := by decide +kernel
theorem dX3_givePermit_13 : decode cX3_givePermit 13 = .ok (.getfield 91, 3) := by decide +kernel
theorem dX3_givePermit_16 : decode cX3_givePermit 16 = .ok (.imul, 1) := by decide +kernel
theorem dX3_givePermit_17 : decode cX3_givePermit 17 = .ok (.putfield 108, 3) := by decide +kernel
theorem dX3_givePermit_20 : decode cX3_givePermit 20 = .ok (.return_, 1) := by decide +kernel
set_option maxRecDepth 20000 in
theorem ggX3_loseApplied_X0_isOf : GoodIn wsX3_loseApplied wsX0_isOf := goodIn_r _ [8, 9, 10, 20, 21, 22, 23, 24, 25, 26, 27, 28] rfl (by decide +kernel)
set_option maxRecDepth 20000 in
theorem gX3_loseApplied_X0_isOf : GoodIn wsX3_loseApplied (wsV RX3 97 RX0 yX0_isOf wsX0_isOf) := goodIn_app (goodIn_of _ (by decide +kernel)) ggX3_loseApplied_X0_isOf
theorem dX3_loseApplied_0 : decode cX3_loseApplied 0 = .ok (.iconst 0, 1) := by decide +kernel
theorem dX3_loseApplied_1 : decode cX3_loseApplied 1 = .ok (.istore_n 3, 1) := by decide +kernel
theorem dX3_loseApplied_2 : decode cX3_loseApplied 2 = .ok (.iload_n 3, 1) := by decide +kernel
theorem dX3_loseApplied_3 : decode cX3_loseApplied 3 = .ok (.aload_n 0, 1) := by decide +kernel
theorem dX3_loseApplied_4 : decode cX3_loseApplied 4 = .ok (.getfield 53, 3) := by decide +kernel
theorem dX3_loseApplied_7 : decode cX3_loseApplied 7 = .ok (.if_icmp .ge 45, 3) := by decide +kernel
theorem dX3_loseApplied_10 : decode cX3_loseApplied 10 = .ok (.aload_n 0, 1) := by decide +kernel
theorem dX3_loseApplied_11 : decode cX3_loseApplied 11 = .ok (.getfield 25, 3) := by decide +kernel
theorem dX3_loseApplied_14 : decode cX3_loseApplied 14 = .ok (.iload_n 3, 1) := by decide +kernel
theorem dX3_loseApplied_15 : decode cX3_loseApplied 15 = .ok (.aaload, 1) := by decide +kernel
theorem dX3_loseApplied_16 : decode cX3_loseApplied 16 = .ok (.getfield 105, 3) := by decide +kernel
theorem dX3_loseApplied_19 : decode cX3_loseApplied 19 = .ok (.ifCond .ne 27, 3) := by decide +kernel
theorem dX3_loseApplied_22 : decode cX3_loseApplied 22 = .ok (.aload_n 0, 1) := by decide +kernel
theorem dX3_loseApplied_23 : decode cX3_loseApplied 23 = .ok (.getfield 25, 3) := by decide +kernel
theorem dX3_loseApplied_26 : decode cX3_loseApplied 26 = .ok (.iload_n 3, 1) := by decide +kernel
theorem dX3_loseApplied_27 : decode cX3_loseApplied 27 = .ok (.aaload, 1) := by decide +kernel
theorem dX3_loseApplied_28 : decode cX3_loseApplied 28 = .ok (.iload_n 1, 1) := by decide +kernel
theorem dX3_loseApplied_29 : decode cX3_loseApplied 29 = .ok (.iload_n 2, 1) := by decide +kernel
theorem dX3_loseApplied_30 : decode cX3_loseApplied 30 = .ok (.invokevirtual 97, 3) := by decide +kernel
theorem dX3_loseApplied_33 : decode cX3_loseApplied 33 = .ok (.ifCond .eq 13, 3) := by decide +kernel
theorem dX3_loseApplied_36 : decode cX3_loseApplied 36 = .ok (.aload_n 0, 1) := by decide +kernel
theorem dX3_loseApplied_37 : decode cX3_loseApplied 37 = .ok (.getfield 25, 3) := by decide +kernel
theorem dX3_loseApplied_40 : decode cX3_loseApplied 40 = .ok (.iload_n 3, 1) := by decide +kernel
theorem dX3_loseApplied_41 : decode cX3_loseApplied 41 = .ok (.aaload, 1) := by decide +kernel
theorem dX3_loseApplied_42 : decode cX3_loseApplied 42 = .ok (.iconst 2, 1) := by decide +kernel
theorem dX3_loseApplied_43 : decode cX3_loseApplied 43 = .ok (.putfield 105, 3) := by decide +kernel
theorem dX3_loseApplied_46 : decode cX3_loseApplied 46 = .ok (.iinc 3 1, 3) := by decide +kernel
theorem dX3_loseApplied_49 : decode cX3_loseApplied 49 = .ok (.goto (-47), 3) := by decide +kernel
theorem dX3_loseApplied_52 : decode cX3_loseApplied 52 = .ok (.return_, 1) := by decide +kernel
theorem dX3_refundNow_0 : decode cX3_refundNow 0 = .ok (.aload_n 1, 1) := by decide +kernel
theorem dX3_refundNow_1 : decode cX3_refundNow 1 = .ok (.getfield 85, 3) := by decide +kernel
theorem dX3_refundNow_4 : decode cX3_refundNow 4 = .ok (.aload_n 0, 1) := by decide +kernel
theorem dX3_refundNow_5 : decode cX3_refundNow 5 = .ok (.getfield 43, 3) := by decide +kernel
theorem dX3_refundNow_8 : decode cX3_refundNow 8 = .ok (.isub, 1) := by decide +kernel
theorem dX3_refundNow_9 : decode cX3_refundNow 9 = .ok (.istore_n 2, 1) := by decide +kernel
theorem dX3_refundNow_10 : decode cX3_refundNow 10 = .ok (.iload_n 2, 1) := by decide +kernel
theorem dX3_refundNow_11 : decode cX3_refundNow 11 = .ok (.bipush 7, 2) := by decide +kernel
theorem dX3_refundNow_13 : decode cX3_refundNow 13 = .ok (.if_icmp .lt 8, 3) := by decide +kernel
theorem dX3_refundNow_16 : decode cX3_refundNow 16 = .ok (.aload_n 1, 1) := by decide +kernel
theorem dX3_refundNow_17 : decode cX3_refundNow 17 = .ok (.getfield 108, 3) := by decide +kernel
theorem dX3_refundNow_20 : decode cX3_refundNow 20 = .ok (.ireturn, 1) := by decide +kernel
theorem dX3_refundNow_21 : decode cX3_refundNow 21 = .ok (.iload_n 2, 1) := by decide +kernel
theorem dX3_refundNow_22 : decode cX3_refundNow 22 = .ok (.iconst 3, 1) := by decide +kernel
theorem dX3_refundNow_23 : decode cX3_refundNow 23 = .ok (.if_icmp .lt 12, 3) := by decide +kernel
theorem dX3_refundNow_26 : decode cX3_refundNow 26 = .ok (.aload_n 1, 1) := by decide +kernel
theorem dX3_refundNow_27 : decode cX3_refundNow 27 = .ok (.getfield 108, 3) := by decide +kernel
theorem dX3_refundNow_30 : decode cX3_refundNow 30 = .ok (.iconst 2, 1) := by decide +kernel
theorem dX3_refundNow_31 : decode cX3_refundNow 31 = .ok (.idiv, 1) := by decide +kernel
theorem dX3_refundNow_32 : decode cX3_refundNow 32 = .ok (.goto 4, 3) := by decide +kernel
theorem dX3_refundNow_35 : decode cX3_refundNow 35 = .ok (.iconst 0, 1) := by decide +kernel
theorem dX3_refundNow_36 : decode cX3_refundNow 36 = .ok (.ireturn, 1) := by decide +kernel
set_option maxRecDepth 20000 in
theorem ggX3_firstWaiting_X0_isOf : GoodIn wsX3_firstWaiting wsX0_isOf := goodIn_r _ [12, 13, 14, 36, 37, 38, 39, 40, 41, 42, 43, 44] rfl (by decide +kernel)
set_option maxRecDepth 20000 in
theorem gX3_firstWaiting_X0_isOf : GoodIn wsX3_firstWaiting (wsV RX3 97 RX0 yX0_isOf wsX0_isOf) := goodIn_app (goodIn_of _ (by decide +kernel)) ggX3_firstWaiting_X0_isOf
set_option maxRecDepth 20000 in
theorem ggX3_firstWaiting_X3_isBarred : GoodIn wsX3_firstWaiting wsX3_isBarred := goodIn_r _ [19, 5, 6, 20, 21, 22, 23, 24, 25, 26, 27, 28, 29, 30, 31, 32, 33, 34, 35, 36, 37, 38, 39, 40, 41, 42, 43, 44, 45, 46, 47] rfl (by decide +kernel)
set_option maxRecDepth 20000 in
theorem gX3_firstWaiting_X3_isBarred : GoodIn wsX3_firstWaiting (wsV RX3 130 RX3 yX3_isBarred wsX3_isBarred) := goodIn_app (goodIn_of _ (by decide +kernel)) ggX3_firstWaiting_X3_isBarred
theorem dX3_firstWaiting_0 : decode cX3_firstWaiting 0 = .ok (.bipush (-6), 2) := by decide +kernel
theorem dX3_firstWaiting_2 : decode cX3_firstWaiting 2 = .ok (.istore 4, 2) := by decide +kernel
theorem dX3_firstWaiting_4 : decode cX3_firstWaiting 4 = .ok (.iconst (-1), 1) := by decide +kernel
theorem dX3_firstWaiting_5 : decode cX3_firstWaiting 5 = .ok (.istore 5, 2) := by decide +kernel
theorem dX3_firstWaiting_7 : decode cX3_firstWaiting 7 = .ok (.iconst 0, 1) := by decide +kernel
theorem dX3_firstWaiting_8 : decode cX3_firstWaiting 8 = .ok (.istore 6, 2) := by decide +kernel
theorem dX3_firstWaiting_10 : decode cX3_firstWaiting 10 = .ok (.iload 6, 2) := by decide +kernel
theorem dX3_firstWaiting_12 : decode cX3_firstWaiting 12 = .ok (.aload_n 0, 1) := by decide +kernel
theorem dX3_firstWaiting_13 : decode cX3_firstWaiting 13 = .ok (.getfield 53, 3) := by decide +kernel
theorem dX3_firstWaiting_16 : decode cX3_firstWaiting 16 = .ok (.if_icmp .ge 92, 3) := by decide +kernel
theorem dX3_firstWaiting_19 : decode cX3_firstWaiting 19 = .ok (.aload_n 0, 1) := by decide +kernel
theorem dX3_firstWaiting_20 : decode cX3_firstWaiting 20 = .ok (.getfield 25, 3) := by decide +kernel
theorem dX3_firstWaiting_23 : decode cX3_firstWaiting 23 = .ok (.iload 6, 2) := by decide +kernel
theorem dX3_firstWaiting_25 : decode cX3_firstWaiting 25 = .ok (.aaload, 1) := by decide +kernel
theorem dX3_firstWaiting_26 : decode cX3_firstWaiting 26 = .ok (.astore 7, 2) := by decide +kernel
theorem dX3_firstWaiting_28 : decode cX3_firstWaiting 28 = .ok (.aload 7, 2) := by decide +kernel
theorem dX3_firstWaiting_30 : decode cX3_firstWaiting 30 = .ok (.getfield 105, 3) := by decide +kernel
theorem dX3_firstWaiting_33 : decode cX3_firstWaiting 33 = .ok (.iconst 2, 1) := by decide +kernel
theorem dX3_firstWaiting_34 : decode cX3_firstWaiting 34 = .ok (.if_icmp .ne 68, 3) := by decide +kernel
theorem dX3_firstWaiting_37 : decode cX3_firstWaiting 37 = .ok (.aload 7, 2) := by decide +kernel
theorem dX3_firstWaiting_39 : decode cX3_firstWaiting 39 = .ok (.iload_n 1, 1) := by decide +kernel
theorem dX3_firstWaiting_40 : decode cX3_firstWaiting 40 = .ok (.iload_n 2, 1) := by decide +kernel
theorem dX3_firstWaiting_41 : decode cX3_firstWaiting 41 = .ok (.invokevirtual 97, 3) := by decide +kernel
theorem dX3_firstWaiting_44 : decode cX3_firstWaiting 44 = .ok (.ifCond .eq 58, 3) := by decide +kernel
theorem dX3_firstWaiting_47 : decode cX3_firstWaiting 47 = .ok (.aload 7, 2) := by decide +kernel
theorem dX3_firstWaiting_49 : decode cX3_firstWaiting 49 = .ok (.getfield 91, 3) := by decide +kernel
theorem dX3_firstWaiting_52 : decode cX3_firstWaiting 52 = .ok (.iload_n 3, 1) := by decide +kernel
theorem dX3_firstWaiting_53 : decode cX3_firstWaiting 53 = .ok (.if_icmp .gt 49, 3) := by decide +kernel
theorem dX3_firstWaiting_56 : decode cX3_firstWaiting 56 = .ok (.aload_n 0, 1) := by decide +kernel
theorem dX3_firstWaiting_57 : decode cX3_firstWaiting 57 = .ok (.aload 7, 2) := by decide +kernel
theorem dX3_firstWaiting_59 : decode cX3_firstWaiting 59 = .ok (.invokevirtual 130, 3) := by decide +kernel
theorem dX3_firstWaiting_62 : decode cX3_firstWaiting 62 = .ok (.ifCond .ne 40, 3) := by decide +kernel
theorem dX3_firstWaiting_65 : decode cX3_firstWaiting 65 = .ok (.aload_n 0, 1) := by decide +kernel
theorem dX3_firstWaiting_66 : decode cX3_firstWaiting 66 = .ok (.getfield 19, 3) := by decide +kernel
theorem dX3_firstWaiting_69 : decode cX3_firstWaiting 69 = .ok (.aload 7, 2) := by decide +kernel
theorem dX3_firstWaiting_71 : decode cX3_firstWaiting 71 = .ok (.getfield 79, 3) := by decide +kernel
theorem dX3_firstWaiting_74 : decode cX3_firstWaiting 74 = .ok (.aaload, 1) := by decide +kernel
theorem dX3_firstWaiting_75 : decode cX3_firstWaiting 75 = .ok (.getfield 127, 3) := by decide +kernel
theorem dX3_firstWaiting_78 : decode cX3_firstWaiting 78 = .ok (.iload 5, 2) := by decide +kernel
theorem dX3_firstWaiting_80 : decode cX3_firstWaiting 80 = .ok (.if_icmp .le 22, 3) := by decide +kernel
theorem dX3_firstWaiting_83 : decode cX3_firstWaiting 83 = .ok (.iload 6, 2) := by decide +kernel
theorem dX3_firstWaiting_85 : decode cX3_firstWaiting 85 = .ok (.istore 4, 2) := by decide +kernel
theorem dX3_firstWaiting_87 : decode cX3_firstWaiting 87 = .ok (.aload_n 0, 1) := by decide +kernel
theorem dX3_firstWaiting_88 : decode cX3_firstWaiting 88 = .ok (.getfield 19, 3) := by decide +kernel
theorem dX3_firstWaiting_91 : decode cX3_firstWaiting 91 = .ok (.aload 7, 2) := by decide +kernel
theorem dX3_firstWaiting_93 : decode cX3_firstWaiting 93 = .ok (.getfield 79, 3) := by decide +kernel
theorem dX3_firstWaiting_96 : decode cX3_firstWaiting 96 = .ok (.aaload, 1) := by decide +kernel
theorem dX3_firstWaiting_97 : decode cX3_firstWaiting 97 = .ok (.getfield 127, 3) := by decide +kernel
theorem dX3_firstWaiting_100 : decode cX3_firstWaiting 100 = .ok (.istore 5, 2) := by decide +kernel
theorem dX3_firstWaiting_102 : decode cX3_firstWaiting 102 = .ok (.iinc 6 1, 3) := by decide +kernel
theorem dX3_firstWaiting_105 : decode cX3_firstWaiting 105 = .ok (.goto (-95), 3) := by decide +kernel
theorem dX3_firstWaiting_108 : decode cX3_firstWaiting 108 = .ok (.iload 4, 2) := by decide +kernel
theorem dX3_firstWaiting_110 : decode cX3_firstWaiting 110 = .ok (.ireturn, 1) := by decide +kernel
set_option maxRecDepth 20000 in
theorem ggX3_serveWaiting_X3_isOpen : GoodIn wsX3_serveWaiting wsX3_isOpen := goodIn_r _ [10, 11, 12, 13, 14, 15, 66, 67, 68, 69, 70, 71, 72, 73, 74] rfl (by decide +kernel)
set_option maxRecDepth 20000 in
theorem gX3_serveWaiting_X3_isOpen : GoodIn wsX3_serveWaiting (wsV RX3 134 RX3 yX3_isOpen wsX3_isOpen) := goodIn_app (goodIn_of _ (by decide +kernel)) ggX3_serveWaiting_X3_isOpen
set_option maxRecDepth 20000 in
theorem ggX3_serveWaiting_X3_placesForLottery : GoodIn wsX3_serveWaiting wsX3_placesForLottery := goodIn_r _ [19, 20, 21, 22, 23, 24, 9, 25, 26, 27, 28, 29, 30, 1, 2, 31, 32, 33, 34, 35, 36, 37, 38, 39, 40, 41, 42, 43, 66, 67, 68, 69, 70, 71, 72, 73, 74, 87, 88, 75, 76, 77, 78, 79, 80, 81, 82, 83] rfl (by decide +kernel)
set_option maxRecDepth 20000 in
theorem gX3_serveWaiting_X3_placesForLottery : GoodIn wsX3_serveWaiting (wsV RX3 137 RX3 yX3_placesForLottery wsX3_placesForLottery) := goodIn_app (goodIn_of _ (by decide +kernel)) ggX3_serveWaiting_X3_placesForLottery
set_option maxRecDepth 20000 in
theorem ggX3_serveWaiting_X3_firstWaiting : GoodIn wsX3_serveWaiting wsX3_firstWaiting := goodIn_r _ [47, 1, 2, 48, 31, 3, 4, 5, 38, 39, 40, 35, 41, 42, 43, 49, 50, 51, 9, 52, 53, 54, 55, 56, 57, 58, 59, 66, 67, 68, 69, 70, 71, 72, 73, 74, 75, 76, 77, 78, 79, 80, 81, 82, 83, 84, 85, 86] rfl (by decide +kernel)
set_option maxRecDepth 20000 in
theorem gX3_serveWaiting_X3_firstWaiting : GoodIn wsX3_serveWaiting (wsV RX3 140 RX3 yX3_firstWaiting wsX3_firstWaiting) := goodIn_app (goodIn_of _ (by decide +kernel)) ggX3_serveWaiting_X3_firstWaiting
set_option maxRecDepth 20000 in
theorem ggX3_serveWaiting_X3_givePermit : GoodIn wsX3_serveWaiting wsX3_givePermit := goodIn_r _ [63, 48, 64, 31, 65, 75, 76, 77, 78, 79, 80, 81, 82, 83, 66, 67, 68, 69, 70, 71, 72, 73, 74] rfl (by decide +kernel)
set_option maxRecDepth 20000 in
theorem gX3_serveWaiting_X3_givePermit : GoodIn wsX3_serveWaiting (wsV RX3 144 RX3 yX3_givePermit wsX3_givePermit) := goodIn_app (goodIn_of _ (by decide +kernel)) ggX3_serveWaiting_X3_givePermit
theorem dX3_serveWaiting_0 : decode cX3_serveWaiting 0 = .ok (.aload_n 0, 1) := by decide +kernel
theorem dX3_serveWaiting_1 : decode cX3_serveWaiting 1 = .ok (.iload_n 2, 1) := by decide +kernel
theorem dX3_serveWaiting_2 : decode cX3_serveWaiting 2 = .ok (.invokevirtual 134, 3) := by decide +kernel
theorem dX3_serveWaiting_5 : decode cX3_serveWaiting 5 = .ok (.ifCond .ne 4, 3) := by decide +kernel
theorem dX3_serveWaiting_8 : decode cX3_serveWaiting 8 = .ok (.return_, 1) := by decide +kernel
theorem dX3_serveWaiting_9 : decode cX3_serveWaiting 9 = .ok (.iconst 0, 1) := by decide +kernel
theorem dX3_serveWaiting_10 : decode cX3_serveWaiting 10 = .ok (.istore_n 3, 1) := by decide +kernel
theorem dX3_serveWaiting_11 : decode cX3_serveWaiting 11 = .ok (.iload_n 3, 1) := by decide +kernel
theorem dX3_serveWaiting_12 : decode cX3_serveWaiting 12 = .ok (.aload_n 0, 1) := by decide +kernel
theorem dX3_serveWaiting_13 : decode cX3_serveWaiting 13 = .ok (.getfield 53, 3) := by decide +kernel
theorem dX3_serveWaiting_16 : decode cX3_serveWaiting 16 = .ok (.if_icmp .ge 59, 3) := by decide +kernel
theorem dX3_serveWaiting_19 : decode cX3_serveWaiting 19 = .ok (.aload_n 0, 1) := by decide +kernel
theorem dX3_serveWaiting_20 : decode cX3_serveWaiting 20 = .ok (.iload_n 1, 1) := by decide +kernel
theorem dX3_serveWaiting_21 : decode cX3_serveWaiting 21 = .ok (.iload_n 2, 1) := by decide +kernel
theorem dX3_serveWaiting_22 : decode cX3_serveWaiting 22 = .ok (.aload_n 0, 1) := by decide +kernel
theorem dX3_serveWaiting_23 : decode cX3_serveWaiting 23 = .ok (.iload_n 1, 1) := by decide +kernel
theorem dX3_serveWaiting_24 : decode cX3_serveWaiting 24 = .ok (.iload_n 2, 1) := by decide +kernel
theorem dX3_serveWaiting_25 : decode cX3_serveWaiting 25 = .ok (.invokevirtual 137, 3) := by decide +kernel
theorem dX3_serveWaiting_28 : decode cX3_serveWaiting 28 = .ok (.invokevirtual 140, 3) := by decide +kernel
theorem dX3_serveWaiting_31 : decode cX3_serveWaiting 31 = .ok (.istore 4, 2) := by decide +kernel
theorem dX3_serveWaiting_33 : decode cX3_serveWaiting 33 = .ok (.iload 4, 2) := by decide +kernel
theorem dX3_serveWaiting_35 : decode cX3_serveWaiting 35 = .ok (.ifCond .ge 4, 3) := by decide +kernel
theorem dX3_serveWaiting_38 : decode cX3_serveWaiting 38 = .ok (.return_, 1) := by decide +kernel
theorem dX3_serveWaiting_39 : decode cX3_serveWaiting 39 = .ok (.aload_n 0, 1) := by decide +kernel
theorem dX3_serveWaiting_40 : decode cX3_serveWaiting 40 = .ok (.aload_n 0, 1) := by decide +kernel
theorem dX3_serveWaiting_41 : decode cX3_serveWaiting 41 = .ok (.getfield 25, 3) := by decide +kernel
theorem dX3_serveWaiting_44 : decode cX3_serveWaiting 44 = .ok (.iload 4, 2) := by decide +kernel
theorem dX3_serveWaiting_46 : decode cX3_serveWaiting 46 = .ok (.aaload, 1) := by decide +kernel
theorem dX3_serveWaiting_47 : decode cX3_serveWaiting 47 = .ok (.invokevirtual 144, 3) := by decide +kernel
theorem dX3_serveWaiting_50 : decode cX3_serveWaiting 50 = .ok (.aload_n 0, 1) := by decide +kernel
theorem dX3_serveWaiting_51 : decode cX3_serveWaiting 51 = .ok (.getfield 19, 3) := by decide +kernel
theorem dX3_serveWaiting_54 : decode cX3_serveWaiting 54 = .ok (.aload_n 0, 1) := by decide +kernel
theorem dX3_serveWaiting_55 : decode cX3_serveWaiting 55 = .ok (.getfield 25, 3) := by decide +kernel
theorem dX3_serveWaiting_58 : decode cX3_serveWaiting 58 = .ok (.iload 4, 2) := by decide +kernel
theorem dX3_serveWaiting_60 : decode cX3_serveWaiting 60 = .ok (.aaload, 1) := by decide +kernel
theorem dX3_serveWaiting_61 : decode cX3_serveWaiting 61 = .ok (.getfield 79, 3) := by decide +kernel
theorem dX3_serveWaiting_64 : decode cX3_serveWaiting 64 = .ok (.aaload, 1) := by decide +kernel
theorem dX3_serveWaiting_65 : decode cX3_serveWaiting 65 = .ok (.iconst 0, 1) := by decide +kernel
theorem dX3_serveWaiting_66 : decode cX3_serveWaiting 66 = .ok (.putfield 127, 3) := by decide +kernel
theorem dX3_serveWaiting_69 : decode cX3_serveWaiting 69 = .ok (.iinc 3 1, 3) := by decide +kernel
theorem dX3_serveWaiting_72 : decode cX3_serveWaiting 72 = .ok (.goto (-61), 3) := by decide +kernel
theorem dX3_serveWaiting_75 : decode cX3_serveWaiting 75 = .ok (.return_, 1) := by decide +kernel
set_option maxRecDepth 20000 in
theorem ggX3_movePermits_X3_laterDayFor : GoodIn wsX3_movePermits wsX3_laterDayFor := goodIn_r _ [15, 4, 16, 17, 18, 19, 20, 21, 22, 23, 24, 25, 14, 26, 27, 28, 29, 30, 31, 32, 33, 34, 35, 36, 37, 38, 39, 40, 41, 1, 2, 42, 43, 44, 45, 46, 47, 48, 49, 50, 51, 52, 53, 63, 64, 65, 66, 67, 68, 69, 70, 71, 54, 55, 56, 57, 58, 59, 60, 61, 62, 75, 76] rfl (by decide +kernel)
set_option maxRecDepth 20000 in
theorem gX3_movePermits_X3_laterDayFor : GoodIn wsX3_movePermits (wsV RX3 147 RX3 yX3_laterDayFor wsX3_laterDayFor) := goodIn_app (goodIn_of _ (by decide +kernel)) ggX3_movePermits_X3_laterDayFor
theorem dX3_movePermits_0 : decode cX3_movePermits 0 = .ok (.iconst 0, 1) := by decide +kernel
theorem dX3_movePermits_1 : decode cX3_movePermits 1 = .ok (.istore_n 2, 1) := by decide +kernel
theorem dX3_movePermits_2 : decode cX3_movePermits 2 = .ok (.iconst 0, 1) := by decide +kernel
theorem dX3_movePermits_3 : decode cX3_movePermits 3 = .ok (.istore_n 3, 1) := by decide +kernel
theorem dX3_movePermits_4 : decode cX3_movePermits 4 = .ok (.iload_n 3, 1) := by decide +kernel
theorem dX3_movePermits_5 : decode cX3_movePermits 5 = .ok (.aload_n 0, 1) := by decide +kernel
theorem dX3_movePermits_6 : decode cX3_movePermits 6 = .ok (.getfield 53, 3) := by decide +kernel
theorem dX3_movePermits_9 : decode cX3_movePermits 9 = .ok (.if_icmp .ge 102, 3) := by decide +kernel
theorem dX3_movePermits_12 : decode cX3_movePermits 12 = .ok (.aload_n 0, 1) := by decide +kernel
theorem dX3_movePermits_13 : decode cX3_movePermits 13 = .ok (.getfield 25, 3) := by decide +kernel
theorem dX3_movePermits_16 : decode cX3_movePermits 16 = .ok (.iload_n 3, 1) := by decide +kernel
theorem dX3_movePermits_17 : decode cX3_movePermits 17 = .ok (.aaload, 1) := by decide +kernel
theorem dX3_movePermits_18 : decode cX3_movePermits 18 = .ok (.astore 4, 2) := by decide +kernel
theorem dX3_movePermits_20 : decode cX3_movePermits 20 = .ok (.aload 4, 2) := by decide +kernel
theorem dX3_movePermits_22 : decode cX3_movePermits 22 = .ok (.getfield 105, 3) := by decide +kernel
theorem dX3_movePermits_25 : decode cX3_movePermits 25 = .ok (.iconst 1, 1) := by decide +kernel
theorem dX3_movePermits_26 : decode cX3_movePermits 26 = .ok (.if_icmp .ne 79, 3) := by decide +kernel
theorem dX3_movePermits_29 : decode cX3_movePermits 29 = .ok (.aload 4, 2) := by decide +kernel
theorem dX3_movePermits_31 : decode cX3_movePermits 31 = .ok (.getfield 85, 3) := by decide +kernel
theorem dX3_movePermits_34 : decode cX3_movePermits 34 = .ok (.iload_n 1, 1) := by decide +kernel
theorem dX3_movePermits_35 : decode cX3_movePermits 35 = .ok (.if_icmp .ne 70, 3) := by decide +kernel
theorem dX3_movePermits_38 : decode cX3_movePermits 38 = .ok (.aload_n 0, 1) := by decide +kernel
theorem dX3_movePermits_39 : decode cX3_movePermits 39 = .ok (.aload 4, 2) := by decide +kernel
theorem dX3_movePermits_41 : decode cX3_movePermits 41 = .ok (.invokevirtual 147, 3) := by decide +kernel
theorem dX3_movePermits_44 : decode cX3_movePermits 44 = .ok (.istore 5, 2) := by decide +kernel
theorem dX3_movePermits_46 : decode cX3_movePermits 46 = .ok (.iload 5, 2) := by decide +kernel
theorem dX3_movePermits_48 : decode cX3_movePermits 48 = .ok (.ifCond .ge 41, 3) := by decide +kernel
theorem dX3_movePermits_51 : decode cX3_movePermits 51 = .ok (.aload 4, 2) := by decide +kernel
theorem dX3_movePermits_53 : decode cX3_movePermits 53 = .ok (.iconst 4, 1) := by decide +kernel
theorem dX3_movePermits_54 : decode cX3_movePermits 54 = .ok (.putfield 105, 3) := by decide +kernel
theorem dX3_movePermits_57 : decode cX3_movePermits 57 = .ok (.aload 4, 2) := by decide +kernel
theorem dX3_movePermits_59 : decode cX3_movePermits 59 = .ok (.aload 4, 2) := by decide +kernel
theorem dX3_movePermits_61 : decode cX3_movePermits 61 = .ok (.getfield 108, 3) := by decide +kernel
theorem dX3_movePermits_64 : decode cX3_movePermits 64 = .ok (.putfield 111, 3) := by decide +kernel
theorem dX3_movePermits_67 : decode cX3_movePermits 67 = .ok (.aload_n 0, 1) := by decide +kernel
theorem dX3_movePermits_68 : decode cX3_movePermits 68 = .ok (.getfield 19, 3) := by decide +kernel
theorem dX3_movePermits_71 : decode cX3_movePermits 71 = .ok (.aload 4, 2) := by decide +kernel
theorem dX3_movePermits_73 : decode cX3_movePermits 73 = .ok (.getfield 79, 3) := by decide +kernel
theorem dX3_movePermits_76 : decode cX3_movePermits 76 = .ok (.aaload, 1) := by decide +kernel
theorem dX3_movePermits_77 : decode cX3_movePermits 77 = .ok (.dup, 1) := by decide +kernel
theorem dX3_movePermits_78 : decode cX3_movePermits 78 = .ok (.getfield 127, 3) := by decide +kernel
theorem dX3_movePermits_81 : decode cX3_movePermits 81 = .ok (.iconst 2, 1) := by decide +kernel
theorem dX3_movePermits_82 : decode cX3_movePermits 82 = .ok (.iadd, 1) := by decide +kernel
theorem dX3_movePermits_83 : decode cX3_movePermits 83 = .ok (.putfield 127, 3) := by decide +kernel
theorem dX3_movePermits_86 : decode cX3_movePermits 86 = .ok (.goto 19, 3) := by decide +kernel
theorem dX3_movePermits_89 : decode cX3_movePermits 89 = .ok (.aload 4, 2) := by decide +kernel
theorem dX3_movePermits_91 : decode cX3_movePermits 91 = .ok (.iload 5, 2) := by decide +kernel
theorem dX3_movePermits_93 : decode cX3_movePermits 93 = .ok (.putfield 85, 3) := by decide +kernel
theorem dX3_movePermits_96 : decode cX3_movePermits 96 = .ok (.aload 4, 2) := by decide +kernel
theorem dX3_movePermits_98 : decode cX3_movePermits 98 = .ok (.iconst 0, 1) := by decide +kernel
theorem dX3_movePermits_99 : decode cX3_movePermits 99 = .ok (.putfield 151, 3) := by decide +kernel
theorem dX3_movePermits_102 : decode cX3_movePermits 102 = .ok (.iinc 2 1, 3) := by decide +kernel
theorem dX3_movePermits_105 : decode cX3_movePermits 105 = .ok (.iinc 3 1, 3) := by decide +kernel
theorem dX3_movePermits_108 : decode cX3_movePermits 108 = .ok (.goto (-104), 3) := by decide +kernel
theorem dX3_movePermits_111 : decode cX3_movePermits 111 = .ok (.iload_n 2, 1) := by decide +kernel
theorem dX3_movePermits_112 : decode cX3_movePermits 112 = .ok (.ireturn, 1) := by decide +kernel
set_option maxRecDepth 20000 in
theorem ggX3_laterDayFor_X3_isOpen : GoodIn wsX3_laterDayFor wsX3_isOpen := goodIn_r _ [13, 14, 15, 16, 17, 18, 52, 53, 54, 55, 56, 57, 58, 59, 60] rfl (by decide +kernel)
set_option maxRecDepth 20000 in
theorem gX3_laterDayFor_X3_isOpen : GoodIn wsX3_laterDayFor (wsV RX3 134 RX3 yX3_isOpen wsX3_isOpen) := goodIn_app (goodIn_of _ (by decide +kernel)) ggX3_laterDayFor_X3_isOpen
set_option maxRecDepth 20000 in
theorem ggX3_laterDayFor_X3_placesFree : GoodIn wsX3_laterDayFor wsX3_placesFree := goodIn_r _ [22, 23, 24, 25, 26, 27, 12, 28, 29, 30, 7, 31, 32, 33, 34, 35, 36, 37, 38, 39, 40, 41, 42, 52, 53, 54, 55, 56, 57, 58, 59, 60, 61, 62, 43, 44, 45, 46, 47, 48, 49, 50, 51] rfl (by decide +kernel)
set_option maxRecDepth 20000 in
theorem gX3_laterDayFor_X3_placesFree : GoodIn wsX3_laterDayFor (wsV RX3 121 RX3 yX3_placesFree wsX3_placesFree) := goodIn_app (goodIn_of _ (by decide +kernel)) ggX3_laterDayFor_X3_placesFree
theorem dX3_laterDayFor_0 : decode cX3_laterDayFor 0 = .ok (.aload_n 1, 1) := by decide +kernel
theorem dX3_laterDayFor_1 : decode cX3_laterDayFor 1 = .ok (.getfield 85, 3) := by decide +kernel
theorem dX3_laterDayFor_4 : decode cX3_laterDayFor 4 = .ok (.aload_n 0, 1) := by decide +kernel
theorem dX3_laterDayFor_5 : decode cX3_laterDayFor 5 = .ok (.getfield 37, 3) := by decide +kernel
theorem dX3_laterDayFor_8 : decode cX3_laterDayFor 8 = .ok (.iconst 4, 1) := by decide +kernel
theorem dX3_laterDayFor_9 : decode cX3_laterDayFor 9 = .ok (.iaload, 1) := by decide +kernel
theorem dX3_laterDayFor_10 : decode cX3_laterDayFor 10 = .ok (.iadd, 1) := by decide +kernel
theorem dX3_laterDayFor_11 : decode cX3_laterDayFor 11 = .ok (.bipush 59, 2) := by decide +kernel
theorem dX3_laterDayFor_13 : decode cX3_laterDayFor 13 = .ok (.invokestatic 155, 3) := by decide +kernel
theorem dX3_laterDayFor_16 : decode cX3_laterDayFor 16 = .ok (.istore_n 2, 1) := by decide +kernel
theorem dX3_laterDayFor_17 : decode cX3_laterDayFor 17 = .ok (.aload_n 1, 1) := by decide +kernel
theorem dX3_laterDayFor_18 : decode cX3_laterDayFor 18 = .ok (.getfield 85, 3) := by decide +kernel
theorem dX3_laterDayFor_21 : decode cX3_laterDayFor 21 = .ok (.iconst 1, 1) := by decide +kernel
theorem dX3_laterDayFor_22 : decode cX3_laterDayFor 22 = .ok (.iadd, 1) := by decide +kernel
theorem dX3_laterDayFor_23 : decode cX3_laterDayFor 23 = .ok (.istore_n 3, 1) := by decide +kernel
theorem dX3_laterDayFor_24 : decode cX3_laterDayFor 24 = .ok (.iload_n 3, 1) := by decide +kernel
theorem dX3_laterDayFor_25 : decode cX3_laterDayFor 25 = .ok (.iload_n 2, 1) := by decide +kernel
theorem dX3_laterDayFor_26 : decode cX3_laterDayFor 26 = .ok (.if_icmp .gt 35, 3) := by decide +kernel
theorem dX3_laterDayFor_29 : decode cX3_laterDayFor 29 = .ok (.aload_n 0, 1) := by decide +kernel
theorem dX3_laterDayFor_30 : decode cX3_laterDayFor 30 = .ok (.iload_n 3, 1) := by decide +kernel
theorem dX3_laterDayFor_31 : decode cX3_laterDayFor 31 = .ok (.invokevirtual 134, 3) := by decide +kernel
theorem dX3_laterDayFor_34 : decode cX3_laterDayFor 34 = .ok (.ifCond .eq 21, 3) := by decide +kernel
theorem dX3_laterDayFor_37 : decode cX3_laterDayFor 37 = .ok (.aload_n 1, 1) := by decide +kernel
theorem dX3_laterDayFor_38 : decode cX3_laterDayFor 38 = .ok (.getfield 91, 3) := by decide +kernel
theorem dX3_laterDayFor_41 : decode cX3_laterDayFor 41 = .ok (.aload_n 0, 1) := by decide +kernel
theorem dX3_laterDayFor_42 : decode cX3_laterDayFor 42 = .ok (.aload_n 1, 1) := by decide +kernel
theorem dX3_laterDayFor_43 : decode cX3_laterDayFor 43 = .ok (.getfield 82, 3) := by decide +kernel
theorem dX3_laterDayFor_46 : decode cX3_laterDayFor 46 = .ok (.iload_n 3, 1) := by decide +kernel
theorem dX3_laterDayFor_47 : decode cX3_laterDayFor 47 = .ok (.invokevirtual 121, 3) := by decide +kernel
theorem dX3_laterDayFor_50 : decode cX3_laterDayFor 50 = .ok (.if_icmp .gt 5, 3) := by decide +kernel
theorem dX3_laterDayFor_53 : decode cX3_laterDayFor 53 = .ok (.iload_n 3, 1) := by decide +kernel
theorem dX3_laterDayFor_54 : decode cX3_laterDayFor 54 = .ok (.ireturn, 1) := by decide +kernel
theorem dX3_laterDayFor_55 : decode cX3_laterDayFor 55 = .ok (.iinc 3 1, 3) := by decide +kernel
theorem dX3_laterDayFor_58 : decode cX3_laterDayFor 58 = .ok (.goto (-34), 3) := by decide +kernel
theorem dX3_laterDayFor_61 : decode cX3_laterDayFor 61 = .ok (.bipush (-6), 2) := by decide +kernel
theorem dX3_laterDayFor_63 : decode cX3_laterDayFor 63 = .ok (.ireturn, 1) := by decide +kernel
set_option maxRecDepth 20000 in
theorem ggX3_judgePermits_X1_strike : GoodIn wsX3_judgePermits wsX1_strike := goodIn_r _ [14, 15, 16, 17, 18, 19, 20, 39, 40, 41] rfl (by decide +kernel)
set_option maxRecDepth 20000 in
theorem gX3_judgePermits_X1_strike : GoodIn wsX3_judgePermits (wsV RX3 160 RX1 yX1_strike wsX1_strike) := goodIn_app (goodIn_of _ (by decide +kernel)) ggX3_judgePermits_X1_strike
theorem dX3_judgePermits_0 : decode cX3_judgePermits 0 = .ok (.iconst 0, 1) := by decide +kernel
theorem dX3_judgePermits_1 : decode cX3_judgePermits 1 = .ok (.istore_n 1, 1) := by decide +kernel
theorem dX3_judgePermits_2 : decode cX3_judgePermits 2 = .ok (.iconst 0, 1) := by decide +kernel
theorem dX3_judgePermits_3 : decode cX3_judgePermits 3 = .ok (.istore_n 2, 1) := by decide +kernel
theorem dX3_judgePermits_4 : decode cX3_judgePermits 4 = .ok (.iload_n 2, 1) := by decide +kernel
theorem dX3_judgePermits_5 : decode cX3_judgePermits 5 = .ok (.aload_n 0, 1) := by decide +kernel
theorem dX3_judgePermits_6 : decode cX3_judgePermits 6 = .ok (.getfield 53, 3) := by decide +kernel
theorem dX3_judgePermits_9 : decode cX3_judgePermits 9 = .ok (.if_icmp .ge 88, 3) := by decide +kernel
theorem dX3_judgePermits_12 : decode cX3_judgePermits 12 = .ok (.aload_n 0, 1) := by decide +kernel
theorem dX3_judgePermits_13 : decode cX3_judgePermits 13 = .ok (.getfield 25, 3) := by decide +kernel
theorem dX3_judgePermits_16 : decode cX3_judgePermits 16 = .ok (.iload_n 2, 1) := by decide +kernel
theorem dX3_judgePermits_17 : decode cX3_judgePermits 17 = .ok (.aaload, 1) := by decide +kernel
theorem dX3_judgePermits_18 : decode cX3_judgePermits 18 = .ok (.astore_n 3, 1) := by decide +kernel
theorem dX3_judgePermits_19 : decode cX3_judgePermits 19 = .ok (.aload_n 3, 1) := by decide +kernel
theorem dX3_judgePermits_20 : decode cX3_judgePermits 20 = .ok (.getfield 105, 3) := by decide +kernel
theorem dX3_judgePermits_23 : decode cX3_judgePermits 23 = .ok (.iconst 1, 1) := by decide +kernel
theorem dX3_judgePermits_24 : decode cX3_judgePermits 24 = .ok (.if_icmp .ne 67, 3) := by decide +kernel
theorem dX3_judgePermits_27 : decode cX3_judgePermits 27 = .ok (.aload_n 3, 1) := by decide +kernel
theorem dX3_judgePermits_28 : decode cX3_judgePermits 28 = .ok (.getfield 85, 3) := by decide +kernel
theorem dX3_judgePermits_31 : decode cX3_judgePermits 31 = .ok (.aload_n 0, 1) := by decide +kernel
theorem dX3_judgePermits_32 : decode cX3_judgePermits 32 = .ok (.getfield 43, 3) := by decide +kernel
theorem dX3_judgePermits_35 : decode cX3_judgePermits 35 = .ok (.if_icmp .ne 56, 3) := by decide +kernel
theorem dX3_judgePermits_38 : decode cX3_judgePermits 38 = .ok (.aload_n 3, 1) := by decide +kernel
theorem dX3_judgePermits_39 : decode cX3_judgePermits 39 = .ok (.getfield 151, 3) := by decide +kernel
theorem dX3_judgePermits_42 : decode cX3_judgePermits 42 = .ok (.ifCond .eq 11, 3) := by decide +kernel
theorem dX3_judgePermits_45 : decode cX3_judgePermits 45 = .ok (.aload_n 3, 1) := by decide +kernel
theorem dX3_judgePermits_46 : decode cX3_judgePermits 46 = .ok (.iconst 5, 1) := by decide +kernel
theorem dX3_judgePermits_47 : decode cX3_judgePermits 47 = .ok (.putfield 105, 3) := by decide +kernel
theorem dX3_judgePermits_50 : decode cX3_judgePermits 50 = .ok (.goto 41, 3) := by decide +kernel
theorem dX3_judgePermits_53 : decode cX3_judgePermits 53 = .ok (.aload_n 3, 1) := by decide +kernel
theorem dX3_judgePermits_54 : decode cX3_judgePermits 54 = .ok (.bipush 6, 2) := by decide +kernel
theorem dX3_judgePermits_56 : decode cX3_judgePermits 56 = .ok (.putfield 105, 3) := by decide +kernel
theorem dX3_judgePermits_59 : decode cX3_judgePermits 59 = .ok (.aload_n 0, 1) := by decide +kernel
theorem dX3_judgePermits_60 : decode cX3_judgePermits 60 = .ok (.getfield 19, 3) := by decide +kernel
theorem dX3_judgePermits_63 : decode cX3_judgePermits 63 = .ok (.aload_n 3, 1) := by decide +kernel
theorem dX3_judgePermits_64 : decode cX3_judgePermits 64 = .ok (.getfield 79, 3) := by decide +kernel
theorem dX3_judgePermits_67 : decode cX3_judgePermits 67 = .ok (.aaload, 1) := by decide +kernel
theorem dX3_judgePermits_68 : decode cX3_judgePermits 68 = .ok (.aload_n 0, 1) := by decide +kernel
theorem dX3_judgePermits_69 : decode cX3_judgePermits 69 = .ok (.getfield 37, 3) := by decide +kernel
theorem dX3_judgePermits_72 : decode cX3_judgePermits 72 = .ok (.iconst 2, 1) := by decide +kernel
theorem dX3_judgePermits_73 : decode cX3_judgePermits 73 = .ok (.iaload, 1) := by decide +kernel
theorem dX3_judgePermits_74 : decode cX3_judgePermits 74 = .ok (.aload_n 0, 1) := by decide +kernel
theorem dX3_judgePermits_75 : decode cX3_judgePermits 75 = .ok (.getfield 43, 3) := by decide +kernel
theorem dX3_judgePermits_78 : decode cX3_judgePermits 78 = .ok (.aload_n 0, 1) := by decide +kernel
theorem dX3_judgePermits_79 : decode cX3_judgePermits 79 = .ok (.getfield 37, 3) := by decide +kernel
theorem dX3_judgePermits_82 : decode cX3_judgePermits 82 = .ok (.iconst 3, 1) := by decide +kernel
theorem dX3_judgePermits_83 : decode cX3_judgePermits 83 = .ok (.iaload, 1) := by decide +kernel
theorem dX3_judgePermits_84 : decode cX3_judgePermits 84 = .ok (.iadd, 1) := by decide +kernel
theorem dX3_judgePermits_85 : decode cX3_judgePermits 85 = .ok (.invokevirtual 160, 3) := by decide +kernel
theorem dX3_judgePermits_88 : decode cX3_judgePermits 88 = .ok (.iinc 1 1, 3) := by decide +kernel
theorem dX3_judgePermits_91 : decode cX3_judgePermits 91 = .ok (.iinc 2 1, 3) := by decide +kernel
theorem dX3_judgePermits_94 : decode cX3_judgePermits 94 = .ok (.goto (-90), 3) := by decide +kernel
theorem dX3_judgePermits_97 : decode cX3_judgePermits 97 = .ok (.iload_n 1, 1) := by decide +kernel
theorem dX3_judgePermits_98 : decode cX3_judgePermits 98 = .ok (.ireturn, 1) := by decide +kernel
theorem dX4_init_0 : decode cX4_init 0 = .ok (.aload_n 0, 1) := by decide +kernel
theorem dX4_init_1 : decode cX4_init 1 = .ok (.invokespecial 3, 3) := by decide +kernel
theorem dX4_init_4 : decode cX4_init 4 = .ok (.aload_n 0, 1) := by decide +kernel
theorem dX4_init_5 : decode cX4_init 5 = .ok (.bipush 60, 2) := by decide +kernel
theorem dX4_init_7 : decode cX4_init 7 = .ok (.newarray .char, 2) := by decide +kernel
theorem dX4_init_9 : decode cX4_init 9 = .ok (.putfield 9, 3) := by decide +kernel
theorem dX4_init_12 : decode cX4_init 12 = .ok (.return_, 1) := by decide +kernel
theorem dX4_sizeOf_0 : decode cX4_sizeOf 0 = .ok (.lload_n 0, 1) := by decide +kernel
theorem dX4_sizeOf_1 : decode cX4_sizeOf 1 = .ok (.lstore_n 2, 1) := by decide +kernel
theorem dX4_sizeOf_2 : decode cX4_sizeOf 2 = .ok (.iconst 0, 1) := by decide +kernel
theorem dX4_sizeOf_3 : decode cX4_sizeOf 3 = .ok (.istore 4, 2) := by decide +kernel
theorem dX4_sizeOf_5 : decode cX4_sizeOf 5 = .ok (.iload 4, 2) := by decide +kernel
theorem dX4_sizeOf_7 : decode cX4_sizeOf 7 = .ok (.bipush 8, 2) := by decide +kernel
theorem dX4_sizeOf_9 : decode cX4_sizeOf 9 = .ok (.if_icmp .ge 50, 3) := by decide +kernel
theorem dX4_sizeOf_12 : decode cX4_sizeOf 12 = .ok (.lload_n 2, 1) := by decide +kernel
theorem dX4_sizeOf_13 : decode cX4_sizeOf 13 = .ok (.lconst 0, 1) := by decide +kernel
theorem dX4_sizeOf_14 : decode cX4_sizeOf 14 = .ok (.lcmp, 1) := by decide +kernel
theorem dX4_sizeOf_15 : decode cX4_sizeOf 15 = .ok (.ifCond .ne 6, 3) := by decide +kernel
theorem dX4_sizeOf_18 : decode cX4_sizeOf 18 = .ok (.iload 4, 2) := by decide +kernel
theorem dX4_sizeOf_20 : decode cX4_sizeOf 20 = .ok (.ireturn, 1) := by decide +kernel
theorem dX4_sizeOf_21 : decode cX4_sizeOf 21 = .ok (.lload_n 2, 1) := by decide +kernel
theorem dX4_sizeOf_22 : decode cX4_sizeOf 22 = .ok (.ldc2_w 15, 3) := by decide +kernel
theorem dX4_sizeOf_25 : decode cX4_sizeOf 25 = .ok (.land, 1) := by decide +kernel
theorem dX4_sizeOf_26 : decode cX4_sizeOf 26 = .ok (.lstore 5, 2) := by decide +kernel
theorem dX4_sizeOf_28 : decode cX4_sizeOf 28 = .ok (.lload 5, 2) := by decide +kernel
theorem dX4_sizeOf_30 : decode cX4_sizeOf 30 = .ok (.ldc2_w 17, 3) := by decide +kernel
theorem dX4_sizeOf_33 : decode cX4_sizeOf 33 = .ok (.lcmp, 1) := by decide +kernel
theorem dX4_sizeOf_34 : decode cX4_sizeOf 34 = .ok (.ifCond .lt 12, 3) := by decide +kernel
theorem dX4_sizeOf_37 : decode cX4_sizeOf 37 = .ok (.lload 5, 2) := by decide +kernel
theorem dX4_sizeOf_39 : decode cX4_sizeOf 39 = .ok (.ldc2_w 19, 3) := by decide +kernel
theorem dX4_sizeOf_42 : decode cX4_sizeOf 42 = .ok (.lcmp, 1) := by decide +kernel
theorem dX4_sizeOf_43 : decode cX4_sizeOf 43 = .ok (.ifCond .le 5, 3) := by decide +kernel
theorem dX4_sizeOf_46 : decode cX4_sizeOf 46 = .ok (.iconst 0, 1) := by decide +kernel
theorem dX4_sizeOf_47 : decode cX4_sizeOf 47 = .ok (.ireturn, 1) := by decide +kernel
theorem dX4_sizeOf_48 : decode cX4_sizeOf 48 = .ok (.lload_n 2, 1) := by decide +kernel
theorem dX4_sizeOf_49 : decode cX4_sizeOf 49 = .ok (.bipush 8, 2) := by decide +kernel
theorem dX4_sizeOf_51 : decode cX4_sizeOf 51 = .ok (.lushr, 1) := by decide +kernel
theorem dX4_sizeOf_52 : decode cX4_sizeOf 52 = .ok (.lstore_n 2, 1) := by decide +kernel
theorem dX4_sizeOf_53 : decode cX4_sizeOf 53 = .ok (.iinc 4 1, 3) := by decide +kernel
theorem dX4_sizeOf_56 : decode cX4_sizeOf 56 = .ok (.goto (-51), 3) := by decide +kernel
theorem dX4_sizeOf_59 : decode cX4_sizeOf 59 = .ok (.bipush 8, 2) := by decide +kernel
theorem dX4_sizeOf_61 : decode cX4_sizeOf 61 = .ok (.ireturn, 1) := by decide +kernel
theorem dX4_append_0 : decode cX4_append 0 = .ok (.iload_n 3, 1) := by decide +kernel
theorem dX4_append_1 : decode cX4_append 1 = .ok (.iconst 1, 1) := by decide +kernel
theorem dX4_append_2 : decode cX4_append 2 = .ok (.isub, 1) := by decide +kernel
theorem dX4_append_3 : decode cX4_append 3 = .ok (.istore 4, 2) := by decide +kernel
theorem dX4_append_5 : decode cX4_append 5 = .ok (.iload 4, 2) := by decide +kernel
theorem dX4_append_7 : decode cX4_append 7 = .ok (.ifCond .lt 41, 3) := by decide +kernel
theorem dX4_append_10 : decode cX4_append 10 = .ok (.aload_n 0, 1) := by decide +kernel
theorem dX4_append_11 : decode cX4_append 11 = .ok (.getfield 9, 3) := by decide +kernel
theorem dX4_append_14 : decode cX4_append 14 = .ok (.aload_n 0, 1) := by decide +kernel
theorem dX4_append_15 : decode cX4_append 15 = .ok (.getfield 21, 3) := by decide +kernel
theorem dX4_append_18 : decode cX4_append 18 = .ok (.lload_n 1, 1) := by decide +kernel
theorem dX4_append_19 : decode cX4_append 19 = .ok (.bipush 8, 2) := by decide +kernel
theorem dX4_append_21 : decode cX4_append 21 = .ok (.iload 4, 2) := by decide +kernel
theorem dX4_append_23 : decode cX4_append 23 = .ok (.imul, 1) := by decide +kernel
theorem dX4_append_24 : decode cX4_append 24 = .ok (.lushr, 1) := by decide +kernel
theorem dX4_append_25 : decode cX4_append 25 = .ok (.ldc2_w 15, 3) := by decide +kernel
theorem dX4_append_28 : decode cX4_append 28 = .ok (.land, 1) := by decide +kernel
theorem dX4_append_29 : decode cX4_append 29 = .ok (.l2i, 1) := by decide +kernel
theorem dX4_append_30 : decode cX4_append 30 = .ok (.i2c, 1) := by decide +kernel
theorem dX4_append_31 : decode cX4_append 31 = .ok (.castore, 1) := by decide +kernel
theorem dX4_append_32 : decode cX4_append 32 = .ok (.aload_n 0, 1) := by decide +kernel
theorem dX4_append_33 : decode cX4_append 33 = .ok (.dup, 1) := by decide +kernel
theorem dX4_append_34 : decode cX4_append 34 = .ok (.getfield 21, 3) := by decide +kernel
theorem dX4_append_37 : decode cX4_append 37 = .ok (.iconst 1, 1) := by decide +kernel
theorem dX4_append_38 : decode cX4_append 38 = .ok (.iadd, 1) := by decide +kernel
theorem dX4_append_39 : decode cX4_append 39 = .ok (.putfield 21, 3) := by decide +kernel
theorem dX4_append_42 : decode cX4_append 42 = .ok (.iinc 4 (-1), 3) := by decide +kernel
theorem dX4_append_45 : decode cX4_append 45 = .ok (.goto (-40), 3) := by decide +kernel
theorem dX4_append_48 : decode cX4_append 48 = .ok (.return_, 1) := by decide +kernel
set_option maxRecDepth 20000 in
theorem ggX4_findFault_X4_readApplication : GoodIn wsX4_findFault wsX4_readApplication := goodIn_r _ [7, 8, 9, 10, 11, 12, 13, 14, 6, 15, 1, 2, 16, 17, 18, 19, 20, 21, 22, 23, 24, 25, 26, 27, 28, 29, 30, 31] rfl (by decide +kernel)
set_option maxRecDepth 20000 in
theorem gX4_findFault_X4_readApplication : GoodIn wsX4_findFault (wsV RX4 28 RX4 yX4_readApplication wsX4_readApplication) := goodIn_app (goodIn_of _ (by decide +kernel)) ggX4_findFault_X4_readApplication
set_option maxRecDepth 20000 in
theorem ggX4_findFault_X4_readSign : GoodIn wsX4_findFault wsX4_readSign := goodIn_r _ [15, 1, 2, 16, 25, 26, 27, 28, 29, 30, 31] rfl (by decide +kernel)
set_option maxRecDepth 20000 in
theorem gX4_findFault_X4_readSign : GoodIn wsX4_findFault (wsV RX4 32 RX4 yX4_readSign wsX4_readSign) := goodIn_app (goodIn_of _ (by decide +kernel)) ggX4_findFault_X4_readSign
theorem dX4_findFault_0 : decode cX4_findFault 0 = .ok (.aload_n 0, 1) := by decide +kernel
theorem dX4_findFault_1 : decode cX4_findFault 1 = .ok (.iconst 0, 1) := by decide +kernel
theorem dX4_findFault_2 : decode cX4_findFault 2 = .ok (.putfield 25, 3) := by decide +kernel
theorem dX4_findFault_5 : decode cX4_findFault 5 = .ok (.iconst 0, 1) := by decide +kernel
theorem dX4_findFault_6 : decode cX4_findFault 6 = .ok (.istore_n 1, 1) := by decide +kernel
theorem dX4_findFault_7 : decode cX4_findFault 7 = .ok (.iload_n 1, 1) := by decide +kernel
theorem dX4_findFault_8 : decode cX4_findFault 8 = .ok (.aload_n 0, 1) := by decide +kernel
theorem dX4_findFault_9 : decode cX4_findFault 9 = .ok (.getfield 21, 3) := by decide +kernel
theorem dX4_findFault_12 : decode cX4_findFault 12 = .ok (.if_icmp .gt 49, 3) := by decide +kernel
theorem dX4_findFault_15 : decode cX4_findFault 15 = .ok (.aload_n 0, 1) := by decide +kernel
theorem dX4_findFault_16 : decode cX4_findFault 16 = .ok (.invokevirtual 28, 3) := by decide +kernel
theorem dX4_findFault_19 : decode cX4_findFault 19 = .ok (.ifCond .ne 8, 3) := by decide +kernel
theorem dX4_findFault_22 : decode cX4_findFault 22 = .ok (.aload_n 0, 1) := by decide +kernel
theorem dX4_findFault_23 : decode cX4_findFault 23 = .ok (.getfield 25, 3) := by decide +kernel
theorem dX4_findFault_26 : decode cX4_findFault 26 = .ok (.ireturn, 1) := by decide +kernel
theorem dX4_findFault_27 : decode cX4_findFault 27 = .ok (.aload_n 0, 1) := by decide +kernel
theorem dX4_findFault_28 : decode cX4_findFault 28 = .ok (.getfield 25, 3) := by decide +kernel
theorem dX4_findFault_31 : decode cX4_findFault 31 = .ok (.aload_n 0, 1) := by decide +kernel
theorem dX4_findFault_32 : decode cX4_findFault 32 = .ok (.getfield 21, 3) := by decide +kernel
theorem dX4_findFault_35 : decode cX4_findFault 35 = .ok (.if_icmp .ne 6, 3) := by decide +kernel
theorem dX4_findFault_38 : decode cX4_findFault 38 = .ok (.bipush (-6), 2) := by decide +kernel
theorem dX4_findFault_40 : decode cX4_findFault 40 = .ok (.ireturn, 1) := by decide +kernel
theorem dX4_findFault_41 : decode cX4_findFault 41 = .ok (.aload_n 0, 1) := by decide +kernel
theorem dX4_findFault_42 : decode cX4_findFault 42 = .ok (.bipush 59, 2) := by decide +kernel
theorem dX4_findFault_44 : decode cX4_findFault 44 = .ok (.invokevirtual 32, 3) := by decide +kernel
theorem dX4_findFault_47 : decode cX4_findFault 47 = .ok (.ifCond .ne 8, 3) := by decide +kernel
theorem dX4_findFault_50 : decode cX4_findFault 50 = .ok (.aload_n 0, 1) := by decide +kernel
theorem dX4_findFault_51 : decode cX4_findFault 51 = .ok (.getfield 25, 3) := by decide +kernel
theorem dX4_findFault_54 : decode cX4_findFault 54 = .ok (.ireturn, 1) := by decide +kernel
theorem dX4_findFault_55 : decode cX4_findFault 55 = .ok (.iinc 1 1, 3) := by decide +kernel
theorem dX4_findFault_58 : decode cX4_findFault 58 = .ok (.goto (-51), 3) := by decide +kernel
theorem dX4_findFault_61 : decode cX4_findFault 61 = .ok (.aload_n 0, 1) := by decide +kernel
theorem dX4_findFault_62 : decode cX4_findFault 62 = .ok (.getfield 25, 3) := by decide +kernel
theorem dX4_findFault_65 : decode cX4_findFault 65 = .ok (.ireturn, 1) := by decide +kernel
set_option maxRecDepth 20000 in
theorem ggX4_readApplication_X4_readSign : GoodIn wsX4_readApplication wsX4_readSign := goodIn_r _ [9, 10, 11, 12, 21, 22, 23, 24, 25, 26, 27] rfl (by decide +kernel)
set_option maxRecDepth 20000 in
theorem gX4_readApplication_X4_readSign : GoodIn wsX4_readApplication (wsV RX4 32 RX4 yX4_readSign wsX4_readSign) := goodIn_app (goodIn_of _ (by decide +kernel)) ggX4_readApplication_X4_readSign
set_option maxRecDepth 20000 in
theorem ggX4_readApplication_X4_readNumber : GoodIn wsX4_readApplication wsX4_readNumber := goodIn_r _ [16, 10, 11, 17, 18, 19, 8, 20, 12, 21, 22, 23, 24, 25, 26, 27] rfl (by decide +kernel)
set_option maxRecDepth 20000 in
theorem gX4_readApplication_X4_readNumber : GoodIn wsX4_readApplication (wsV RX4 36 RX4 yX4_readNumber wsX4_readNumber) := goodIn_app (goodIn_of _ (by decide +kernel)) ggX4_readApplication_X4_readNumber
theorem dX4_readApplication_0 : decode cX4_readApplication 0 = .ok (.aload_n 0, 1) := by decide +kernel
theorem dX4_readApplication_1 : decode cX4_readApplication 1 = .ok (.bipush 99, 2) := by decide +kernel
theorem dX4_readApplication_3 : decode cX4_readApplication 3 = .ok (.invokevirtual 32, 3) := by decide +kernel
theorem dX4_readApplication_6 : decode cX4_readApplication 6 = .ok (.ifCond .ne 5, 3) := by decide +kernel
theorem dX4_readApplication_9 : decode cX4_readApplication 9 = .ok (.iconst 0, 1) := by decide +kernel
theorem dX4_readApplication_10 : decode cX4_readApplication 10 = .ok (.ireturn, 1) := by decide +kernel
theorem dX4_readApplication_11 : decode cX4_readApplication 11 = .ok (.aload_n 0, 1) := by decide +kernel
theorem dX4_readApplication_12 : decode cX4_readApplication 12 = .ok (.aload_n 0, 1) := by decide +kernel
theorem dX4_readApplication_13 : decode cX4_readApplication 13 = .ok (.iconst 0, 1) := by decide +kernel
theorem dX4_readApplication_14 : decode cX4_readApplication 14 = .ok (.bipush 11, 2) := by decide +kernel
theorem dX4_readApplication_16 : decode cX4_readApplication 16 = .ok (.invokevirtual 36, 3) := by decide +kernel
theorem dX4_readApplication_19 : decode cX4_readApplication 19 = .ok (.putfield 40, 3) := by decide +kernel
theorem dX4_readApplication_22 : decode cX4_readApplication 22 = .ok (.aload_n 0, 1) := by decide +kernel
theorem dX4_readApplication_23 : decode cX4_readApplication 23 = .ok (.getfield 40, 3) := by decide +kernel
theorem dX4_readApplication_26 : decode cX4_readApplication 26 = .ok (.iconst (-1), 1) := by decide +kernel
theorem dX4_readApplication_27 : decode cX4_readApplication 27 = .ok (.if_icmp .eq 12, 3) := by decide +kernel
theorem dX4_readApplication_30 : decode cX4_readApplication 30 = .ok (.aload_n 0, 1) := by decide +kernel
theorem dX4_readApplication_31 : decode cX4_readApplication 31 = .ok (.bipush 114, 2) := by decide +kernel
theorem dX4_readApplication_33 : decode cX4_readApplication 33 = .ok (.invokevirtual 32, 3) := by decide +kernel
theorem dX4_readApplication_36 : decode cX4_readApplication 36 = .ok (.ifCond .ne 5, 3) := by decide +kernel
theorem dX4_readApplication_39 : decode cX4_readApplication 39 = .ok (.iconst 0, 1) := by decide +kernel
theorem dX4_readApplication_40 : decode cX4_readApplication 40 = .ok (.ireturn, 1) := by decide +kernel
theorem dX4_readApplication_41 : decode cX4_readApplication 41 = .ok (.aload_n 0, 1) := by decide +kernel
theorem dX4_readApplication_42 : decode cX4_readApplication 42 = .ok (.aload_n 0, 1) := by decide +kernel
theorem dX4_readApplication_43 : decode cX4_readApplication 43 = .ok (.iconst 0, 1) := by decide +kernel
theorem dX4_readApplication_44 : decode cX4_readApplication 44 = .ok (.iconst 5, 1) := by decide +kernel
theorem dX4_readApplication_45 : decode cX4_readApplication 45 = .ok (.invokevirtual 36, 3) := by decide +kernel
theorem dX4_readApplication_48 : decode cX4_readApplication 48 = .ok (.putfield 43, 3) := by decide +kernel
theorem dX4_readApplication_51 : decode cX4_readApplication 51 = .ok (.aload_n 0, 1) := by decide +kernel
theorem dX4_readApplication_52 : decode cX4_readApplication 52 = .ok (.getfield 43, 3) := by decide +kernel
theorem dX4_readApplication_55 : decode cX4_readApplication 55 = .ok (.iconst (-1), 1) := by decide +kernel
theorem dX4_readApplication_56 : decode cX4_readApplication 56 = .ok (.if_icmp .eq 12, 3) := by decide +kernel
theorem dX4_readApplication_59 : decode cX4_readApplication 59 = .ok (.aload_n 0, 1) := by decide +kernel
theorem dX4_readApplication_60 : decode cX4_readApplication 60 = .ok (.bipush 100, 2) := by decide +kernel
theorem dX4_readApplication_62 : decode cX4_readApplication 62 = .ok (.invokevirtual 32, 3) := by decide +kernel
theorem dX4_readApplication_65 : decode cX4_readApplication 65 = .ok (.ifCond .ne 5, 3) := by decide +kernel
theorem dX4_readApplication_68 : decode cX4_readApplication 68 = .ok (.iconst 0, 1) := by decide +kernel
theorem dX4_readApplication_69 : decode cX4_readApplication 69 = .ok (.ireturn, 1) := by decide +kernel
theorem dX4_readApplication_70 : decode cX4_readApplication 70 = .ok (.aload_n 0, 1) := by decide +kernel
theorem dX4_readApplication_71 : decode cX4_readApplication 71 = .ok (.aload_n 0, 1) := by decide +kernel
theorem dX4_readApplication_72 : decode cX4_readApplication 72 = .ok (.iconst 0, 1) := by decide +kernel
theorem dX4_readApplication_73 : decode cX4_readApplication 73 = .ok (.bipush 59, 2) := by decide +kernel
theorem dX4_readApplication_75 : decode cX4_readApplication 75 = .ok (.invokevirtual 36, 3) := by decide +kernel
theorem dX4_readApplication_78 : decode cX4_readApplication 78 = .ok (.putfield 46, 3) := by decide +kernel
theorem dX4_readApplication_81 : decode cX4_readApplication 81 = .ok (.aload_n 0, 1) := by decide +kernel
theorem dX4_readApplication_82 : decode cX4_readApplication 82 = .ok (.getfield 46, 3) := by decide +kernel
theorem dX4_readApplication_85 : decode cX4_readApplication 85 = .ok (.iconst (-1), 1) := by decide +kernel
theorem dX4_readApplication_86 : decode cX4_readApplication 86 = .ok (.if_icmp .ne 5, 3) := by decide +kernel
theorem dX4_readApplication_89 : decode cX4_readApplication 89 = .ok (.iconst 0, 1) := by decide +kernel
theorem dX4_readApplication_90 : decode cX4_readApplication 90 = .ok (.ireturn, 1) := by decide +kernel
theorem dX4_readApplication_91 : decode cX4_readApplication 91 = .ok (.aload_n 0, 1) := by decide +kernel
theorem dX4_readApplication_92 : decode cX4_readApplication 92 = .ok (.aload_n 0, 1) := by decide +kernel
theorem dX4_readApplication_93 : decode cX4_readApplication 93 = .ok (.bipush 120, 2) := by decide +kernel
theorem dX4_readApplication_95 : decode cX4_readApplication 95 = .ok (.invokevirtual 32, 3) := by decide +kernel
theorem dX4_readApplication_98 : decode cX4_readApplication 98 = .ok (.ifCond .eq 12, 3) := by decide +kernel
theorem dX4_readApplication_101 : decode cX4_readApplication 101 = .ok (.aload_n 0, 1) := by decide +kernel
theorem dX4_readApplication_102 : decode cX4_readApplication 102 = .ok (.iconst 1, 1) := by decide +kernel
theorem dX4_readApplication_103 : decode cX4_readApplication 103 = .ok (.iconst 4, 1) := by decide +kernel
theorem dX4_readApplication_104 : decode cX4_readApplication 104 = .ok (.invokevirtual 36, 3) := by decide +kernel
theorem dX4_readApplication_107 : decode cX4_readApplication 107 = .ok (.goto 4, 3) := by decide +kernel
theorem dX4_readApplication_110 : decode cX4_readApplication 110 = .ok (.iconst 1, 1) := by decide +kernel
theorem dX4_readApplication_111 : decode cX4_readApplication 111 = .ok (.putfield 49, 3) := by decide +kernel
theorem dX4_readApplication_114 : decode cX4_readApplication 114 = .ok (.aload_n 0, 1) := by decide +kernel
theorem dX4_readApplication_115 : decode cX4_readApplication 115 = .ok (.getfield 49, 3) := by decide +kernel
theorem dX4_readApplication_118 : decode cX4_readApplication 118 = .ok (.iconst (-1), 1) := by decide +kernel
theorem dX4_readApplication_119 : decode cX4_readApplication 119 = .ok (.if_icmp .eq 7, 3) := by decide +kernel
theorem dX4_readApplication_122 : decode cX4_readApplication 122 = .ok (.iconst 1, 1) := by decide +kernel
theorem dX4_readApplication_123 : decode cX4_readApplication 123 = .ok (.goto 4, 3) := by decide +kernel
theorem dX4_readApplication_126 : decode cX4_readApplication 126 = .ok (.iconst 0, 1) := by decide +kernel
theorem dX4_readApplication_127 : decode cX4_readApplication 127 = .ok (.ireturn, 1) := by decide +kernel
theorem dX4_readSign_0 : decode cX4_readSign 0 = .ok (.aload_n 0, 1) := by decide +kernel
theorem dX4_readSign_1 : decode cX4_readSign 1 = .ok (.getfield 25, 3) := by decide +kernel
theorem dX4_readSign_4 : decode cX4_readSign 4 = .ok (.aload_n 0, 1) := by decide +kernel
theorem dX4_readSign_5 : decode cX4_readSign 5 = .ok (.getfield 21, 3) := by decide +kernel
theorem dX4_readSign_8 : decode cX4_readSign 8 = .ok (.if_icmp .ge 16, 3) := by decide +kernel
theorem dX4_readSign_11 : decode cX4_readSign 11 = .ok (.aload_n 0, 1) := by decide +kernel
theorem dX4_readSign_12 : decode cX4_readSign 12 = .ok (.getfield 9, 3) := by decide +kernel
theorem dX4_readSign_15 : decode cX4_readSign 15 = .ok (.aload_n 0, 1) := by decide +kernel
theorem dX4_readSign_16 : decode cX4_readSign 16 = .ok (.getfield 25, 3) := by decide +kernel
theorem dX4_readSign_19 : decode cX4_readSign 19 = .ok (.caload, 1) := by decide +kernel
theorem dX4_readSign_20 : decode cX4_readSign 20 = .ok (.iload_n 1, 1) := by decide +kernel
theorem dX4_readSign_21 : decode cX4_readSign 21 = .ok (.if_icmp .eq 5, 3) := by decide +kernel
theorem dX4_readSign_24 : decode cX4_readSign 24 = .ok (.iconst 0, 1) := by decide +kernel
theorem dX4_readSign_25 : decode cX4_readSign 25 = .ok (.ireturn, 1) := by decide +kernel
theorem dX4_readSign_26 : decode cX4_readSign 26 = .ok (.aload_n 0, 1) := by decide +kernel
theorem dX4_readSign_27 : decode cX4_readSign 27 = .ok (.dup, 1) := by decide +kernel
theorem dX4_readSign_28 : decode cX4_readSign 28 = .ok (.getfield 25, 3) := by decide +kernel
theorem dX4_readSign_31 : decode cX4_readSign 31 = .ok (.iconst 1, 1) := by decide +kernel
theorem dX4_readSign_32 : decode cX4_readSign 32 = .ok (.iadd, 1) := by decide +kernel
theorem dX4_readSign_33 : decode cX4_readSign 33 = .ok (.putfield 25, 3) := by decide +kernel
theorem dX4_readSign_36 : decode cX4_readSign 36 = .ok (.iconst 1, 1) := by decide +kernel
theorem dX4_readSign_37 : decode cX4_readSign 37 = .ok (.ireturn, 1) := by decide +kernel
set_option maxRecDepth 20000 in
theorem ggX4_readNumber_X4_digitHere : GoodIn wsX4_readNumber wsX4_digitHere := goodIn_r _ [7, 1, 2, 8, 9, 10, 11, 12, 13, 14, 15] rfl (by decide +kernel)
set_option maxRecDepth 20000 in
theorem gX4_readNumber_X4_digitHere : GoodIn wsX4_readNumber (wsV RX4 52 RX4 yX4_digitHere wsX4_digitHere) := goodIn_app (goodIn_of _ (by decide +kernel)) ggX4_readNumber_X4_digitHere
theorem dX4_readNumber_0 : decode cX4_readNumber 0 = .ok (.aload_n 0, 1) := by decide +kernel
theorem dX4_readNumber_1 : decode cX4_readNumber 1 = .ok (.invokevirtual 52, 3) := by decide +kernel
theorem dX4_readNumber_4 : decode cX4_readNumber 4 = .ok (.istore_n 3, 1) := by decide +kernel
theorem dX4_readNumber_5 : decode cX4_readNumber 5 = .ok (.iload_n 3, 1) := by decide +kernel
theorem dX4_readNumber_6 : decode cX4_readNumber 6 = .ok (.iconst (-1), 1) := by decide +kernel
theorem dX4_readNumber_7 : decode cX4_readNumber 7 = .ok (.if_icmp .eq 13, 3) := by decide +kernel
theorem dX4_readNumber_10 : decode cX4_readNumber 10 = .ok (.iload_n 3, 1) := by decide +kernel
theorem dX4_readNumber_11 : decode cX4_readNumber 11 = .ok (.iload_n 1, 1) := by decide +kernel
theorem dX4_readNumber_12 : decode cX4_readNumber 12 = .ok (.if_icmp .lt 8, 3) := by decide +kernel
theorem dX4_readNumber_15 : decode cX4_readNumber 15 = .ok (.iload_n 3, 1) := by decide +kernel
theorem dX4_readNumber_16 : decode cX4_readNumber 16 = .ok (.iload_n 2, 1) := by decide +kernel
theorem dX4_readNumber_17 : decode cX4_readNumber 17 = .ok (.if_icmp .le 5, 3) := by decide +kernel
theorem dX4_readNumber_20 : decode cX4_readNumber 20 = .ok (.iconst (-1), 1) := by decide +kernel
theorem dX4_readNumber_21 : decode cX4_readNumber 21 = .ok (.ireturn, 1) := by decide +kernel
theorem dX4_readNumber_22 : decode cX4_readNumber 22 = .ok (.aload_n 0, 1) := by decide +kernel
theorem dX4_readNumber_23 : decode cX4_readNumber 23 = .ok (.dup, 1) := by decide +kernel
theorem dX4_readNumber_24 : decode cX4_readNumber 24 = .ok (.getfield 25, 3) := by decide +kernel
theorem dX4_readNumber_27 : decode cX4_readNumber 27 = .ok (.iconst 1, 1) := by decide +kernel
theorem dX4_readNumber_28 : decode cX4_readNumber 28 = .ok (.iadd, 1) := by decide +kernel
theorem dX4_readNumber_29 : decode cX4_readNumber 29 = .ok (.putfield 25, 3) := by decide +kernel
theorem dX4_readNumber_32 : decode cX4_readNumber 32 = .ok (.aload_n 0, 1) := by decide +kernel
theorem dX4_readNumber_33 : decode cX4_readNumber 33 = .ok (.getfield 25, 3) := by decide +kernel
theorem dX4_readNumber_36 : decode cX4_readNumber 36 = .ok (.istore 4, 2) := by decide +kernel
theorem dX4_readNumber_38 : decode cX4_readNumber 38 = .ok (.iload_n 3, 1) := by decide +kernel
theorem dX4_readNumber_39 : decode cX4_readNumber 39 = .ok (.ifCond .le 63, 3) := by decide +kernel
theorem dX4_readNumber_42 : decode cX4_readNumber 42 = .ok (.iload 4, 2) := by decide +kernel
theorem dX4_readNumber_44 : decode cX4_readNumber 44 = .ok (.aload_n 0, 1) := by decide +kernel
theorem dX4_readNumber_45 : decode cX4_readNumber 45 = .ok (.getfield 21, 3) := by decide +kernel
theorem dX4_readNumber_48 : decode cX4_readNumber 48 = .ok (.if_icmp .ge 54, 3) := by decide +kernel
theorem dX4_readNumber_51 : decode cX4_readNumber 51 = .ok (.aload_n 0, 1) := by decide +kernel
theorem dX4_readNumber_52 : decode cX4_readNumber 52 = .ok (.invokevirtual 52, 3) := by decide +kernel
theorem dX4_readNumber_55 : decode cX4_readNumber 55 = .ok (.istore 5, 2) := by decide +kernel
theorem dX4_readNumber_57 : decode cX4_readNumber 57 = .ok (.iload 5, 2) := by decide +kernel
theorem dX4_readNumber_59 : decode cX4_readNumber 59 = .ok (.iconst (-1), 1) := by decide +kernel
theorem dX4_readNumber_60 : decode cX4_readNumber 60 = .ok (.if_icmp .ne 5, 3) := by decide +kernel
theorem dX4_readNumber_63 : decode cX4_readNumber 63 = .ok (.iload_n 3, 1) := by decide +kernel
theorem dX4_readNumber_64 : decode cX4_readNumber 64 = .ok (.ireturn, 1) := by decide +kernel
theorem dX4_readNumber_65 : decode cX4_readNumber 65 = .ok (.bipush 10, 2) := by decide +kernel
theorem dX4_readNumber_67 : decode cX4_readNumber 67 = .ok (.iload_n 3, 1) := by decide +kernel
theorem dX4_readNumber_68 : decode cX4_readNumber 68 = .ok (.imul, 1) := by decide +kernel
theorem dX4_readNumber_69 : decode cX4_readNumber 69 = .ok (.iload 5, 2) := by decide +kernel
theorem dX4_readNumber_71 : decode cX4_readNumber 71 = .ok (.iadd, 1) := by decide +kernel
theorem dX4_readNumber_72 : decode cX4_readNumber 72 = .ok (.iload_n 2, 1) := by decide +kernel
theorem dX4_readNumber_73 : decode cX4_readNumber 73 = .ok (.if_icmp .le 5, 3) := by decide +kernel
theorem dX4_readNumber_76 : decode cX4_readNumber 76 = .ok (.iconst (-1), 1) := by decide +kernel
theorem dX4_readNumber_77 : decode cX4_readNumber 77 = .ok (.ireturn, 1) := by decide +kernel
theorem dX4_readNumber_78 : decode cX4_readNumber 78 = .ok (.bipush 10, 2) := by decide +kernel
theorem dX4_readNumber_80 : decode cX4_readNumber 80 = .ok (.iload_n 3, 1) := by decide +kernel
theorem dX4_readNumber_81 : decode cX4_readNumber 81 = .ok (.imul, 1) := by decide +kernel
theorem dX4_readNumber_82 : decode cX4_readNumber 82 = .ok (.iload 5, 2) := by decide +kernel
theorem dX4_readNumber_84 : decode cX4_readNumber 84 = .ok (.iadd, 1) := by decide +kernel
theorem dX4_readNumber_85 : decode cX4_readNumber 85 = .ok (.istore_n 3, 1) := by decide +kernel
theorem dX4_readNumber_86 : decode cX4_readNumber 86 = .ok (.aload_n 0, 1) := by decide +kernel
theorem dX4_readNumber_87 : decode cX4_readNumber 87 = .ok (.dup, 1) := by decide +kernel
theorem dX4_readNumber_88 : decode cX4_readNumber 88 = .ok (.getfield 25, 3) := by decide +kernel
theorem dX4_readNumber_91 : decode cX4_readNumber 91 = .ok (.iconst 1, 1) := by decide +kernel
theorem dX4_readNumber_92 : decode cX4_readNumber 92 = .ok (.iadd, 1) := by decide +kernel
theorem dX4_readNumber_93 : decode cX4_readNumber 93 = .ok (.putfield 25, 3) := by decide +kernel
theorem dX4_readNumber_96 : decode cX4_readNumber 96 = .ok (.iinc 4 1, 3) := by decide +kernel
theorem dX4_readNumber_99 : decode cX4_readNumber 99 = .ok (.goto (-61), 3) := by decide +kernel
theorem dX4_readNumber_102 : decode cX4_readNumber 102 = .ok (.iload_n 3, 1) := by decide +kernel
theorem dX4_readNumber_103 : decode cX4_readNumber 103 = .ok (.ireturn, 1) := by decide +kernel
theorem dX4_digitHere_0 : decode cX4_digitHere 0 = .ok (.aload_n 0, 1) := by decide +kernel
theorem dX4_digitHere_1 : decode cX4_digitHere 1 = .ok (.getfield 25, 3) := by decide +kernel
theorem dX4_digitHere_4 : decode cX4_digitHere 4 = .ok (.aload_n 0, 1) := by decide +kernel
theorem dX4_digitHere_5 : decode cX4_digitHere 5 = .ok (.getfield 21, 3) := by decide +kernel
theorem dX4_digitHere_8 : decode cX4_digitHere 8 = .ok (.if_icmp .ge 31, 3) := by decide +kernel
theorem dX4_digitHere_11 : decode cX4_digitHere 11 = .ok (.aload_n 0, 1) := by decide +kernel
theorem dX4_digitHere_12 : decode cX4_digitHere 12 = .ok (.getfield 9, 3) := by decide +kernel
theorem dX4_digitHere_15 : decode cX4_digitHere 15 = .ok (.aload_n 0, 1) := by decide +kernel
theorem dX4_digitHere_16 : decode cX4_digitHere 16 = .ok (.getfield 25, 3) := by decide +kernel
theorem dX4_digitHere_19 : decode cX4_digitHere 19 = .ok (.caload, 1) := by decide +kernel
theorem dX4_digitHere_20 : decode cX4_digitHere 20 = .ok (.bipush 48, 2) := by decide +kernel
theorem dX4_digitHere_22 : decode cX4_digitHere 22 = .ok (.if_icmp .lt 17, 3) := by decide +kernel
theorem dX4_digitHere_25 : decode cX4_digitHere 25 = .ok (.aload_n 0, 1) := by decide +kernel
theorem dX4_digitHere_26 : decode cX4_digitHere 26 = .ok (.getfield 9, 3) := by decide +kernel
theorem dX4_digitHere_29 : decode cX4_digitHere 29 = .ok (.aload_n 0, 1) := by decide +kernel
theorem dX4_digitHere_30 : decode cX4_digitHere 30 = .ok (.getfield 25, 3) := by decide +kernel
theorem dX4_digitHere_33 : decode cX4_digitHere 33 = .ok (.caload, 1) := by decide +kernel
theorem dX4_digitHere_34 : decode cX4_digitHere 34 = .ok (.bipush 57, 2) := by decide +kernel
theorem dX4_digitHere_36 : decode cX4_digitHere 36 = .ok (.if_icmp .le 5, 3) := by decide +kernel
theorem dX4_digitHere_39 : decode cX4_digitHere 39 = .ok (.iconst (-1), 1) := by decide +kernel
theorem dX4_digitHere_40 : decode cX4_digitHere 40 = .ok (.ireturn, 1) := by decide +kernel
theorem dX4_digitHere_41 : decode cX4_digitHere 41 = .ok (.aload_n 0, 1) := by decide +kernel
theorem dX4_digitHere_42 : decode cX4_digitHere 42 = .ok (.getfield 9, 3) := by decide +kernel
theorem dX4_digitHere_45 : decode cX4_digitHere 45 = .ok (.aload_n 0, 1) := by decide +kernel
theorem dX4_digitHere_46 : decode cX4_digitHere 46 = .ok (.getfield 25, 3) := by decide +kernel
theorem dX4_digitHere_49 : decode cX4_digitHere 49 = .ok (.caload, 1) := by decide +kernel
theorem dX4_digitHere_50 : decode cX4_digitHere 50 = .ok (.bipush 48, 2) := by decide +kernel
theorem dX4_digitHere_52 : decode cX4_digitHere 52 = .ok (.isub, 1) := by decide +kernel
theorem dX4_digitHere_53 : decode cX4_digitHere 53 = .ok (.ireturn, 1) := by decide +kernel
theorem dX5_init_0 : decode cX5_init 0 = .ok (.aload_n 0, 1) := by decide +kernel
theorem dX5_init_1 : decode cX5_init 1 = .ok (.invokespecial 1, 3) := by decide +kernel
theorem dX5_init_4 : decode cX5_init 4 = .ok (.return_, 1) := by decide +kernel
theorem dX5_copyFrom_0 : decode cX5_copyFrom 0 = .ok (.aload_n 0, 1) := by decide +kernel
theorem dX5_copyFrom_1 : decode cX5_copyFrom 1 = .ok (.aload_n 1, 1) := by decide +kernel
theorem dX5_copyFrom_2 : decode cX5_copyFrom 2 = .ok (.getfield 7, 3) := by decide +kernel
theorem dX5_copyFrom_5 : decode cX5_copyFrom 5 = .ok (.putfield 7, 3) := by decide +kernel
theorem dX5_copyFrom_8 : decode cX5_copyFrom 8 = .ok (.aload_n 0, 1) := by decide +kernel
theorem dX5_copyFrom_9 : decode cX5_copyFrom 9 = .ok (.aload_n 1, 1) := by decide +kernel
theorem dX5_copyFrom_10 : decode cX5_copyFrom 10 = .ok (.getfield 13, 3) := by decide +kernel
theorem dX5_copyFrom_13 : decode cX5_copyFrom 13 = .ok (.putfield 13, 3) := by decide +kernel
theorem dX5_copyFrom_16 : decode cX5_copyFrom 16 = .ok (.return_, 1) := by decide +kernel
set_option maxRecDepth 20000 in
theorem ggX6_init_X3_init : GoodIn wsX6_init wsX3_init := goodIn_r _ [21, 22, 2, 3, 23, 24, 25, 26, 27, 28, 9, 29, 30, 31, 32, 33, 34, 35, 36, 37, 38, 39, 40, 41, 42, 43, 44, 45, 46, 47, 61, 62, 63, 64, 65, 66, 67, 68, 69, 89, 90, 91, 92, 93, 94, 95, 96, 97, 98, 99, 100, 101, 102] rfl (by decide +kernel)
set_option maxRecDepth 20000 in
theorem gX6_init_X3_init : GoodIn wsX6_init (wsX3_init) := ggX6_init_X3_init
set_option maxRecDepth 20000 in
theorem ggX6_init_X2_init : GoodIn wsX6_init wsX2_init := goodIn_r _ [49, 50, 2, 3, 30, 51, 52, 53, 9, 54, 55, 75, 76, 77, 78, 79, 80, 81] rfl (by decide +kernel)
set_option maxRecDepth 20000 in
theorem gX6_init_X2_init_n26 : GoodIn wsX6_init (wsX2_init) := ggX6_init_X2_init
set_option maxRecDepth 20000 in
theorem ggX6_init_X4_init : GoodIn wsX6_init wsX4_init := goodIn_r _ [57, 58, 2, 3, 59, 60, 82, 83, 84, 85, 86, 87, 88] rfl (by decide +kernel)
set_option maxRecDepth 20000 in
theorem gX6_init_X4_init_n33 : GoodIn wsX6_init (wsX4_init) := ggX6_init_X4_init
theorem dX6_init_0 : decode cX6_init 0 = .ok (.aload_n 0, 1) := by decide +kernel
theorem dX6_init_1 : decode cX6_init 1 = .ok (.invokespecial 1, 3) := by decide +kernel
theorem dX6_init_4 : decode cX6_init 4 = .ok (.aload_n 0, 1) := by decide +kernel
theorem dX6_init_5 : decode cX6_init 5 = .ok (.new 7, 3) := by decide +kernel
theorem dX6_init_8 : decode cX6_init 8 = .ok (.dup, 1) := by decide +kernel
theorem dX6_init_9 : decode cX6_init 9 = .ok (.invokespecial 9, 3) := by decide +kernel
theorem dX6_init_12 : decode cX6_init 12 = .ok (.putfield 10, 3) := by decide +kernel
theorem dX6_init_15 : decode cX6_init 15 = .ok (.aload_n 0, 1) := by decide +kernel
theorem dX6_init_16 : decode cX6_init 16 = .ok (.iconst 2, 1) := by decide +kernel
theorem dX6_init_17 : decode cX6_init 17 = .ok (.anewarray 7, 3) := by decide +kernel
theorem dX6_init_20 : decode cX6_init 20 = .ok (.dup, 1) := by decide +kernel
theorem dX6_init_21 : decode cX6_init 21 = .ok (.iconst 0, 1) := by decide +kernel
theorem dX6_init_22 : decode cX6_init 22 = .ok (.new 7, 3) := by decide +kernel
theorem dX6_init_25 : decode cX6_init 25 = .ok (.dup, 1) := by decide +kernel
theorem dX6_init_26 : decode cX6_init 26 = .ok (.invokespecial 9, 3) := by decide +kernel
theorem dX6_init_29 : decode cX6_init 29 = .ok (.aastore, 1) := by decide +kernel
theorem dX6_init_30 : decode cX6_init 30 = .ok (.dup, 1) := by decide +kernel
theorem dX6_init_31 : decode cX6_init 31 = .ok (.iconst 1, 1) := by decide +kernel
theorem dX6_init_32 : decode cX6_init 32 = .ok (.new 7, 3) := by decide +kernel
theorem dX6_init_35 : decode cX6_init 35 = .ok (.dup, 1) := by decide +kernel
theorem dX6_init_36 : decode cX6_init 36 = .ok (.invokespecial 9, 3) := by decide +kernel
theorem dX6_init_39 : decode cX6_init 39 = .ok (.aastore, 1) := by decide +kernel
theorem dX6_init_40 : decode cX6_init 40 = .ok (.putfield 16, 3) := by decide +kernel
theorem dX6_init_43 : decode cX6_init 43 = .ok (.aload_n 0, 1) := by decide +kernel
theorem dX6_init_44 : decode cX6_init 44 = .ok (.iconst 2, 1) := by decide +kernel
theorem dX6_init_45 : decode cX6_init 45 = .ok (.newarray .boolean, 2) := by decide +kernel
theorem dX6_init_47 : decode cX6_init 47 = .ok (.putfield 20, 3) := by decide +kernel
theorem dX6_init_50 : decode cX6_init 50 = .ok (.aload_n 0, 1) := by decide +kernel
theorem dX6_init_51 : decode cX6_init 51 = .ok (.new 24, 3) := by decide +kernel
theorem dX6_init_54 : decode cX6_init 54 = .ok (.dup, 1) := by decide +kernel
theorem dX6_init_55 : decode cX6_init 55 = .ok (.invokespecial 26, 3) := by decide +kernel
theorem dX6_init_58 : decode cX6_init 58 = .ok (.putfield 27, 3) := by decide +kernel
theorem dX6_init_61 : decode cX6_init 61 = .ok (.aload_n 0, 1) := by decide +kernel
theorem dX6_init_62 : decode cX6_init 62 = .ok (.new 31, 3) := by decide +kernel
theorem dX6_init_65 : decode cX6_init 65 = .ok (.dup, 1) := by decide +kernel
theorem dX6_init_66 : decode cX6_init 66 = .ok (.invokespecial 33, 3) := by decide +kernel
theorem dX6_init_69 : decode cX6_init 69 = .ok (.putfield 34, 3) := by decide +kernel
theorem dX6_init_72 : decode cX6_init 72 = .ok (.return_, 1) := by decide +kernel
set_option maxRecDepth 20000 in
theorem ggX6_route_X3_addRoute : GoodIn wsX6_route wsX3_addRoute := goodIn_r _ [7, 8, 9, 10, 11, 17, 18, 19, 20, 21, 22, 23, 24, 25, 26, 27] rfl (by decide +kernel)
set_option maxRecDepth 20000 in
theorem gX6_route_X3_addRoute : GoodIn wsX6_route (wsV RX6 42 RX3 yX3_addRoute wsX3_addRoute) := goodIn_app (goodIn_of _ (by decide +kernel)) ggX6_route_X3_addRoute
theorem dX6_route_0 : decode cX6_route 0 = .ok (.iload_n 1, 1) := by decide +kernel
theorem dX6_route_1 : decode cX6_route 1 = .ok (.iconst 1, 1) := by decide +kernel
theorem dX6_route_2 : decode cX6_route 2 = .ok (.if_icmp .lt 18, 3) := by decide +kernel
theorem dX6_route_5 : decode cX6_route 5 = .ok (.iload_n 1, 1) := by decide +kernel
theorem dX6_route_6 : decode cX6_route 6 = .ok (.bipush 12, 2) := by decide +kernel
theorem dX6_route_8 : decode cX6_route 8 = .ok (.if_icmp .gt 12, 3) := by decide +kernel
theorem dX6_route_11 : decode cX6_route 11 = .ok (.iload_n 2, 1) := by decide +kernel
theorem dX6_route_12 : decode cX6_route 12 = .ok (.ifCond .lt 8, 3) := by decide +kernel
theorem dX6_route_15 : decode cX6_route 15 = .ok (.iload_n 2, 1) := by decide +kernel
theorem dX6_route_16 : decode cX6_route 16 = .ok (.iload_n 1, 1) := by decide +kernel
theorem dX6_route_17 : decode cX6_route 17 = .ok (.if_icmp .le 6, 3) := by decide +kernel
theorem dX6_route_20 : decode cX6_route 20 = .ok (.bipush (-2), 2) := by decide +kernel
theorem dX6_route_22 : decode cX6_route 22 = .ok (.ireturn, 1) := by decide +kernel
theorem dX6_route_23 : decode cX6_route 23 = .ok (.aload_n 0, 1) := by decide +kernel
theorem dX6_route_24 : decode cX6_route 24 = .ok (.getfield 10, 3) := by decide +kernel
theorem dX6_route_27 : decode cX6_route 27 = .ok (.getfield 38, 3) := by decide +kernel
theorem dX6_route_30 : decode cX6_route 30 = .ok (.bipush 6, 2) := by decide +kernel
theorem dX6_route_32 : decode cX6_route 32 = .ok (.if_icmp .lt 6, 3) := by decide +kernel
theorem dX6_route_35 : decode cX6_route 35 = .ok (.bipush (-4), 2) := by decide +kernel
theorem dX6_route_37 : decode cX6_route 37 = .ok (.ireturn, 1) := by decide +kernel
theorem dX6_route_38 : decode cX6_route 38 = .ok (.aload_n 0, 1) := by decide +kernel
theorem dX6_route_39 : decode cX6_route 39 = .ok (.getfield 10, 3) := by decide +kernel
theorem dX6_route_42 : decode cX6_route 42 = .ok (.iload_n 1, 1) := by decide +kernel
theorem dX6_route_43 : decode cX6_route 43 = .ok (.iload_n 2, 1) := by decide +kernel
theorem dX6_route_44 : decode cX6_route 44 = .ok (.invokevirtual 42, 3) := by decide +kernel
theorem dX6_route_47 : decode cX6_route 47 = .ok (.ireturn, 1) := by decide +kernel
set_option maxRecDepth 20000 in
theorem ggX6_buffer_X3_hasRoute : GoodIn wsX6_buffer wsX3_hasRoute := goodIn_r _ [9, 10, 16, 17, 18, 19, 20, 21, 22, 23, 24] rfl (by decide +kernel)
set_option maxRecDepth 20000 in
theorem gX6_buffer_X3_hasRoute : GoodIn wsX6_buffer (wsV RX6 46 RX3 yX3_hasRoute wsX3_hasRoute) := goodIn_app (goodIn_of _ (by decide +kernel)) ggX6_buffer_X3_hasRoute
theorem dX6_buffer_0 : decode cX6_buffer 0 = .ok (.aload_n 0, 1) := by decide +kernel
theorem dX6_buffer_1 : decode cX6_buffer 1 = .ok (.getfield 10, 3) := by decide +kernel
theorem dX6_buffer_4 : decode cX6_buffer 4 = .ok (.iload_n 1, 1) := by decide +kernel
theorem dX6_buffer_5 : decode cX6_buffer 5 = .ok (.invokevirtual 46, 3) := by decide +kernel
theorem dX6_buffer_8 : decode cX6_buffer 8 = .ok (.ifCond .ne 5, 3) := by decide +kernel
theorem dX6_buffer_11 : decode cX6_buffer 11 = .ok (.iconst (-1), 1) := by decide +kernel
theorem dX6_buffer_12 : decode cX6_buffer 12 = .ok (.ireturn, 1) := by decide +kernel
theorem dX6_buffer_13 : decode cX6_buffer 13 = .ok (.aload_n 0, 1) := by decide +kernel
theorem dX6_buffer_14 : decode cX6_buffer 14 = .ok (.getfield 10, 3) := by decide +kernel
theorem dX6_buffer_17 : decode cX6_buffer 17 = .ok (.getfield 50, 3) := by decide +kernel
theorem dX6_buffer_20 : decode cX6_buffer 20 = .ok (.iload_n 1, 1) := by decide +kernel
theorem dX6_buffer_21 : decode cX6_buffer 21 = .ok (.aaload, 1) := by decide +kernel
theorem dX6_buffer_22 : decode cX6_buffer 22 = .ok (.astore_n 3, 1) := by decide +kernel
theorem dX6_buffer_23 : decode cX6_buffer 23 = .ok (.iload_n 2, 1) := by decide +kernel
theorem dX6_buffer_24 : decode cX6_buffer 24 = .ok (.ifCond .lt 11, 3) := by decide +kernel
theorem dX6_buffer_27 : decode cX6_buffer 27 = .ok (.iload_n 2, 1) := by decide +kernel
theorem dX6_buffer_28 : decode cX6_buffer 28 = .ok (.aload_n 3, 1) := by decide +kernel
theorem dX6_buffer_29 : decode cX6_buffer 29 = .ok (.getfield 54, 3) := by decide +kernel
theorem dX6_buffer_32 : decode cX6_buffer 32 = .ok (.if_icmp .le 6, 3) := by decide +kernel
theorem dX6_buffer_35 : decode cX6_buffer 35 = .ok (.bipush (-2), 2) := by decide +kernel
theorem dX6_buffer_37 : decode cX6_buffer 37 = .ok (.ireturn, 1) := by decide +kernel
theorem dX6_buffer_38 : decode cX6_buffer 38 = .ok (.aload_n 3, 1) := by decide +kernel
theorem dX6_buffer_39 : decode cX6_buffer 39 = .ok (.getfield 59, 3) := by decide +kernel
theorem dX6_buffer_42 : decode cX6_buffer 42 = .ok (.istore 4, 2) := by decide +kernel
theorem dX6_buffer_44 : decode cX6_buffer 44 = .ok (.aload_n 3, 1) := by decide +kernel
theorem dX6_buffer_45 : decode cX6_buffer 45 = .ok (.iload_n 2, 1) := by decide +kernel
theorem dX6_buffer_46 : decode cX6_buffer 46 = .ok (.putfield 59, 3) := by decide +kernel
theorem dX6_buffer_49 : decode cX6_buffer 49 = .ok (.iload 4, 2) := by decide +kernel
theorem dX6_buffer_51 : decode cX6_buffer 51 = .ok (.ireturn, 1) := by decide +kernel
set_option maxRecDepth 20000 in
theorem ggX6_join_X3_addClimber : GoodIn wsX6_join wsX3_addClimber := goodIn_r _ [7, 8, 14, 15, 16, 17, 18, 19, 20, 21, 22] rfl (by decide +kernel)
set_option maxRecDepth 20000 in
theorem gX6_join_X3_addClimber : GoodIn wsX6_join (wsV RX6 65 RX3 yX3_addClimber wsX3_addClimber) := goodIn_app (goodIn_of _ (by decide +kernel)) ggX6_join_X3_addClimber
theorem dX6_join_0 : decode cX6_join 0 = .ok (.aload_n 0, 1) := by decide +kernel
theorem dX6_join_1 : decode cX6_join 1 = .ok (.getfield 10, 3) := by decide +kernel
theorem dX6_join_4 : decode cX6_join 4 = .ok (.getfield 62, 3) := by decide +kernel
theorem dX6_join_7 : decode cX6_join 7 = .ok (.bipush 12, 2) := by decide +kernel
theorem dX6_join_9 : decode cX6_join 9 = .ok (.if_icmp .lt 6, 3) := by decide +kernel
theorem dX6_join_12 : decode cX6_join 12 = .ok (.bipush (-4), 2) := by decide +kernel
theorem dX6_join_14 : decode cX6_join 14 = .ok (.ireturn, 1) := by decide +kernel
theorem dX6_join_15 : decode cX6_join 15 = .ok (.aload_n 0, 1) := by decide +kernel
theorem dX6_join_16 : decode cX6_join 16 = .ok (.getfield 10, 3) := by decide +kernel
theorem dX6_join_19 : decode cX6_join 19 = .ok (.invokevirtual 65, 3) := by decide +kernel
theorem dX6_join_22 : decode cX6_join 22 = .ok (.ireturn, 1) := by decide +kernel
theorem dX6_set_0 : decode cX6_set 0 = .ok (.iload_n 1, 1) := by decide +kernel
theorem dX6_set_1 : decode cX6_set 1 = .ok (.ifCond .lt 29, 3) := by decide +kernel
theorem dX6_set_4 : decode cX6_set 4 = .ok (.iload_n 1, 1) := by decide +kernel
theorem dX6_set_5 : decode cX6_set 5 = .ok (.getstatic 69, 3) := by decide +kernel
theorem dX6_set_8 : decode cX6_set 8 = .ok (.arraylength, 1) := by decide +kernel
theorem dX6_set_9 : decode cX6_set 9 = .ok (.if_icmp .ge 21, 3) := by decide +kernel
theorem dX6_set_12 : decode cX6_set 12 = .ok (.iload_n 2, 1) := by decide +kernel
theorem dX6_set_13 : decode cX6_set 13 = .ok (.getstatic 73, 3) := by decide +kernel
theorem dX6_set_16 : decode cX6_set 16 = .ok (.iload_n 1, 1) := by decide +kernel
theorem dX6_set_17 : decode cX6_set 17 = .ok (.iaload, 1) := by decide +kernel
theorem dX6_set_18 : decode cX6_set 18 = .ok (.if_icmp .lt 12, 3) := by decide +kernel
theorem dX6_set_21 : decode cX6_set 21 = .ok (.iload_n 2, 1) := by decide +kernel
theorem dX6_set_22 : decode cX6_set 22 = .ok (.getstatic 76, 3) := by decide +kernel
theorem dX6_set_25 : decode cX6_set 25 = .ok (.iload_n 1, 1) := by decide +kernel
theorem dX6_set_26 : decode cX6_set 26 = .ok (.iaload, 1) := by decide +kernel
theorem dX6_set_27 : decode cX6_set 27 = .ok (.if_icmp .le 6, 3) := by decide +kernel
theorem dX6_set_30 : decode cX6_set 30 = .ok (.bipush (-2), 2) := by decide +kernel
theorem dX6_set_32 : decode cX6_set 32 = .ok (.ireturn, 1) := by decide +kernel
theorem dX6_set_33 : decode cX6_set 33 = .ok (.aload_n 0, 1) := by decide +kernel
theorem dX6_set_34 : decode cX6_set 34 = .ok (.getfield 10, 3) := by decide +kernel
theorem dX6_set_37 : decode cX6_set 37 = .ok (.getfield 79, 3) := by decide +kernel
theorem dX6_set_40 : decode cX6_set 40 = .ok (.iload_n 1, 1) := by decide +kernel
theorem dX6_set_41 : decode cX6_set 41 = .ok (.iaload, 1) := by decide +kernel
theorem dX6_set_42 : decode cX6_set 42 = .ok (.istore_n 3, 1) := by decide +kernel
theorem dX6_set_43 : decode cX6_set 43 = .ok (.aload_n 0, 1) := by decide +kernel
theorem dX6_set_44 : decode cX6_set 44 = .ok (.getfield 10, 3) := by decide +kernel
theorem dX6_set_47 : decode cX6_set 47 = .ok (.getfield 79, 3) := by decide +kernel
theorem dX6_set_50 : decode cX6_set 50 = .ok (.iload_n 1, 1) := by decide +kernel
theorem dX6_set_51 : decode cX6_set 51 = .ok (.iload_n 2, 1) := by decide +kernel
theorem dX6_set_52 : decode cX6_set 52 = .ok (.iastore, 1) := by decide +kernel
theorem dX6_set_53 : decode cX6_set 53 = .ok (.iload_n 3, 1) := by decide +kernel
theorem dX6_set_54 : decode cX6_set 54 = .ok (.ireturn, 1) := by decide +kernel
set_option maxRecDepth 20000 in
theorem ggX6_apply_X3_hasClimber : GoodIn wsX6_apply wsX3_hasClimber := goodIn_r _ [8, 9, 71, 72, 73, 74, 75, 76, 77, 78, 79] rfl (by decide +kernel)
set_option maxRecDepth 20000 in
theorem gX6_apply_X3_hasClimber : GoodIn wsX6_apply (wsV RX6 82 RX3 yX3_hasClimber wsX3_hasClimber) := goodIn_app (goodIn_of _ (by decide +kernel)) ggX6_apply_X3_hasClimber
set_option maxRecDepth 20000 in
theorem ggX6_apply_X3_hasRouteAndDay : GoodIn wsX6_apply wsX3_hasRouteAndDay := goodIn_r _ [13, 14, 15, 16, 7, 17, 18, 19, 20, 21, 71, 72, 73, 74, 75, 76, 77, 78, 79] rfl (by decide +kernel)
set_option maxRecDepth 20000 in
theorem gX6_apply_X3_hasRouteAndDay : GoodIn wsX6_apply (wsV RX6 85 RX3 yX3_hasRouteAndDay wsX3_hasRouteAndDay) := goodIn_app (goodIn_of _ (by decide +kernel)) ggX6_apply_X3_hasRouteAndDay
set_option maxRecDepth 20000 in
theorem ggX6_apply_X3_isOpen : GoodIn wsX6_apply wsX3_isOpen := goodIn_r _ [25, 26, 27, 19, 20, 21, 71, 72, 73, 74, 75, 76, 77, 78, 79] rfl (by decide +kernel)
set_option maxRecDepth 20000 in
theorem gX6_apply_X3_isOpen : GoodIn wsX6_apply (wsV RX6 89 RX3 yX3_isOpen wsX3_isOpen) := goodIn_app (goodIn_of _ (by decide +kernel)) ggX6_apply_X3_isOpen
set_option maxRecDepth 20000 in
theorem ggX6_apply_X3_stillHas : GoodIn wsX6_apply wsX3_stillHas := goodIn_r _ [31, 32, 33, 34, 35, 36, 37, 38, 39, 40, 41, 42, 43, 44, 45, 46, 47, 48, 49, 50, 71, 72, 73, 74, 75, 76, 77, 78, 79, 80, 81, 82, 83, 84, 85, 86, 87, 88] rfl (by decide +kernel)
set_option maxRecDepth 20000 in
theorem gX6_apply_X3_stillHas : GoodIn wsX6_apply (wsV RX6 92 RX3 yX3_stillHas wsX3_stillHas) := goodIn_app (goodIn_of _ (by decide +kernel)) ggX6_apply_X3_stillHas
set_option maxRecDepth 20000 in
theorem ggX6_apply_X1_isBarredOn : GoodIn wsX6_apply wsX1_isBarredOn := goodIn_r _ [55, 56, 89, 90, 91] rfl (by decide +kernel)
set_option maxRecDepth 20000 in
theorem gX6_apply_X1_isBarredOn : GoodIn wsX6_apply (wsV RX6 100 RX1 yX1_isBarredOn wsX1_isBarredOn) := goodIn_app (goodIn_of _ (by decide +kernel)) ggX6_apply_X1_isBarredOn
set_option maxRecDepth 20000 in
theorem ggX6_apply_X3_addApplication : GoodIn wsX6_apply wsX3_addApplication := goodIn_r _ [60, 33, 32, 61, 62, 63, 64, 65, 71, 72, 73, 74, 75, 76, 77, 78, 79, 80, 81, 82, 83, 84, 85, 86, 87, 88] rfl (by decide +kernel)
set_option maxRecDepth 20000 in
theorem gX6_apply_X3_addApplication : GoodIn wsX6_apply (wsV RX6 108 RX3 yX3_addApplication wsX3_addApplication) := goodIn_app (goodIn_of _ (by decide +kernel)) ggX6_apply_X3_addApplication
theorem dX6_apply_0 : decode cX6_apply 0 = .ok (.aload_n 0, 1) := by decide +kernel
theorem dX6_apply_1 : decode cX6_apply 1 = .ok (.getfield 10, 3) := by decide +kernel
theorem dX6_apply_4 : decode cX6_apply 4 = .ok (.iload_n 1, 1) := by decide +kernel
theorem dX6_apply_5 : decode cX6_apply 5 = .ok (.invokevirtual 82, 3) := by decide +kernel
theorem dX6_apply_8 : decode cX6_apply 8 = .ok (.ifCond .eq 15, 3) := by decide +kernel
theorem dX6_apply_11 : decode cX6_apply 11 = .ok (.aload_n 0, 1) := by decide +kernel
theorem dX6_apply_12 : decode cX6_apply 12 = .ok (.getfield 10, 3) := by decide +kernel
theorem dX6_apply_15 : decode cX6_apply 15 = .ok (.iload_n 2, 1) := by decide +kernel
theorem dX6_apply_16 : decode cX6_apply 16 = .ok (.iload_n 3, 1) := by decide +kernel
theorem dX6_apply_17 : decode cX6_apply 17 = .ok (.invokevirtual 85, 3) := by decide +kernel
theorem dX6_apply_20 : decode cX6_apply 20 = .ok (.ifCond .ne 5, 3) := by decide +kernel
theorem dX6_apply_23 : decode cX6_apply 23 = .ok (.iconst (-1), 1) := by decide +kernel
theorem dX6_apply_24 : decode cX6_apply 24 = .ok (.ireturn, 1) := by decide +kernel
theorem dX6_apply_25 : decode cX6_apply 25 = .ok (.iload 4, 2) := by decide +kernel
theorem dX6_apply_27 : decode cX6_apply 27 = .ok (.iconst 1, 1) := by decide +kernel
theorem dX6_apply_28 : decode cX6_apply 28 = .ok (.if_icmp .lt 9, 3) := by decide +kernel
theorem dX6_apply_31 : decode cX6_apply 31 = .ok (.iload 4, 2) := by decide +kernel
theorem dX6_apply_33 : decode cX6_apply 33 = .ok (.iconst 4, 1) := by decide +kernel
theorem dX6_apply_34 : decode cX6_apply 34 = .ok (.if_icmp .le 6, 3) := by decide +kernel
theorem dX6_apply_37 : decode cX6_apply 37 = .ok (.bipush (-2), 2) := by decide +kernel
theorem dX6_apply_39 : decode cX6_apply 39 = .ok (.ireturn, 1) := by decide +kernel
theorem dX6_apply_40 : decode cX6_apply 40 = .ok (.aload_n 0, 1) := by decide +kernel
theorem dX6_apply_41 : decode cX6_apply 41 = .ok (.getfield 10, 3) := by decide +kernel
theorem dX6_apply_44 : decode cX6_apply 44 = .ok (.iload_n 3, 1) := by decide +kernel
theorem dX6_apply_45 : decode cX6_apply 45 = .ok (.invokevirtual 89, 3) := by decide +kernel
theorem dX6_apply_48 : decode cX6_apply 48 = .ok (.ifCond .eq 32, 3) := by decide +kernel
theorem dX6_apply_51 : decode cX6_apply 51 = .ok (.aload_n 0, 1) := by decide +kernel
theorem dX6_apply_52 : decode cX6_apply 52 = .ok (.getfield 10, 3) := by decide +kernel
theorem dX6_apply_55 : decode cX6_apply 55 = .ok (.iload_n 1, 1) := by decide +kernel
theorem dX6_apply_56 : decode cX6_apply 56 = .ok (.iload_n 2, 1) := by decide +kernel
theorem dX6_apply_57 : decode cX6_apply 57 = .ok (.iload_n 3, 1) := by decide +kernel
theorem dX6_apply_58 : decode cX6_apply 58 = .ok (.invokevirtual 92, 3) := by decide +kernel
theorem dX6_apply_61 : decode cX6_apply 61 = .ok (.ifCond .ne 19, 3) := by decide +kernel
theorem dX6_apply_64 : decode cX6_apply 64 = .ok (.aload_n 0, 1) := by decide +kernel
theorem dX6_apply_65 : decode cX6_apply 65 = .ok (.getfield 10, 3) := by decide +kernel
theorem dX6_apply_68 : decode cX6_apply 68 = .ok (.getfield 96, 3) := by decide +kernel
theorem dX6_apply_71 : decode cX6_apply 71 = .ok (.iload_n 1, 1) := by decide +kernel
theorem dX6_apply_72 : decode cX6_apply 72 = .ok (.aaload, 1) := by decide +kernel
theorem dX6_apply_73 : decode cX6_apply 73 = .ok (.iload_n 3, 1) := by decide +kernel
theorem dX6_apply_74 : decode cX6_apply 74 = .ok (.invokevirtual 100, 3) := by decide +kernel
theorem dX6_apply_77 : decode cX6_apply 77 = .ok (.ifCond .eq 6, 3) := by decide +kernel
theorem dX6_apply_80 : decode cX6_apply 80 = .ok (.bipush (-5), 2) := by decide +kernel
theorem dX6_apply_82 : decode cX6_apply 82 = .ok (.ireturn, 1) := by decide +kernel
theorem dX6_apply_83 : decode cX6_apply 83 = .ok (.aload_n 0, 1) := by decide +kernel
theorem dX6_apply_84 : decode cX6_apply 84 = .ok (.getfield 10, 3) := by decide +kernel
theorem dX6_apply_87 : decode cX6_apply 87 = .ok (.getfield 105, 3) := by decide +kernel
theorem dX6_apply_90 : decode cX6_apply 90 = .ok (.bipush 40, 2) := by decide +kernel
theorem dX6_apply_92 : decode cX6_apply 92 = .ok (.if_icmp .lt 6, 3) := by decide +kernel
theorem dX6_apply_95 : decode cX6_apply 95 = .ok (.bipush (-4), 2) := by decide +kernel
theorem dX6_apply_97 : decode cX6_apply 97 = .ok (.ireturn, 1) := by decide +kernel
theorem dX6_apply_98 : decode cX6_apply 98 = .ok (.aload_n 0, 1) := by decide +kernel
theorem dX6_apply_99 : decode cX6_apply 99 = .ok (.getfield 10, 3) := by decide +kernel
theorem dX6_apply_102 : decode cX6_apply 102 = .ok (.iload_n 1, 1) := by decide +kernel
theorem dX6_apply_103 : decode cX6_apply 103 = .ok (.iload_n 2, 1) := by decide +kernel
theorem dX6_apply_104 : decode cX6_apply 104 = .ok (.iload_n 3, 1) := by decide +kernel
theorem dX6_apply_105 : decode cX6_apply 105 = .ok (.iload 4, 2) := by decide +kernel
theorem dX6_apply_107 : decode cX6_apply 107 = .ok (.invokevirtual 108, 3) := by decide +kernel
theorem dX6_apply_110 : decode cX6_apply 110 = .ok (.ireturn, 1) := by decide +kernel
set_option maxRecDepth 20000 in
theorem ggX6_lottery_X3_hasRouteAndDay : GoodIn wsX6_lottery wsX3_hasRouteAndDay := goodIn_r _ [8, 9, 10, 11, 7, 12, 13, 14, 15, 16, 128, 129, 130, 131, 132, 133, 134, 135, 136] rfl (by decide +kernel)
set_option maxRecDepth 20000 in
theorem gX6_lottery_X3_hasRouteAndDay : GoodIn wsX6_lottery (wsV RX6 85 RX3 yX3_hasRouteAndDay wsX3_hasRouteAndDay) := goodIn_app (goodIn_of _ (by decide +kernel)) ggX6_lottery_X3_hasRouteAndDay
set_option maxRecDepth 20000 in
theorem ggX6_lottery_X3_isOpen : GoodIn wsX6_lottery wsX3_isOpen := goodIn_r _ [20, 21, 22, 14, 15, 16, 128, 129, 130, 131, 132, 133, 134, 135, 136] rfl (by decide +kernel)
set_option maxRecDepth 20000 in
theorem gX6_lottery_X3_isOpen : GoodIn wsX6_lottery (wsV RX6 89 RX3 yX3_isOpen wsX3_isOpen) := goodIn_app (goodIn_of _ (by decide +kernel)) ggX6_lottery_X3_isOpen
set_option maxRecDepth 20000 in
theorem ggX6_lottery_X3_countOf : GoodIn wsX6_lottery wsX3_countOf := goodIn_r _ [26, 27, 28, 29, 30, 31, 32, 33, 34, 35, 36, 128, 129, 130, 131, 132, 133, 134, 135, 136, 137, 138, 139, 140, 141, 142, 143, 144, 145] rfl (by decide +kernel)
set_option maxRecDepth 20000 in
theorem gX6_lottery_X3_countOf : GoodIn wsX6_lottery (wsV RX6 112 RX3 yX3_countOf wsX3_countOf) := goodIn_app (goodIn_of _ (by decide +kernel)) ggX6_lottery_X3_countOf
set_option maxRecDepth 20000 in
theorem ggX6_lottery_X2_enterAll : GoodIn wsX6_lottery wsX2_enterAll := goodIn_r _ [41, 42, 43, 44, 45, 46, 47, 48, 49, 50, 51, 31, 32, 33, 34, 35, 36, 52, 53, 54, 7, 55, 56, 57, 58, 59, 60, 61, 62, 63, 64, 65, 66, 67, 68, 69, 70, 146, 147, 148, 149, 150, 151, 152, 128, 129, 130, 131, 132, 133, 134, 135, 136, 137, 138, 139, 140, 141, 142, 143, 144, 145, 153, 154, 155] rfl (by decide +kernel)
set_option maxRecDepth 20000 in
theorem gX6_lottery_X2_enterAll : GoodIn wsX6_lottery (wsV RX6 116 RX2 yX2_enterAll wsX2_enterAll) := goodIn_app (goodIn_of _ (by decide +kernel)) ggX6_lottery_X2_enterAll
set_option maxRecDepth 20000 in
theorem ggX6_lottery_X3_placesForLottery : GoodIn wsX6_lottery wsX3_placesForLottery := goodIn_r _ [74, 75, 76, 77, 78, 79, 7, 80, 81, 82, 83, 84, 85, 27, 28, 86, 87, 88, 89, 33, 90, 91, 30, 31, 32, 34, 35, 36, 128, 129, 130, 131, 132, 133, 134, 135, 136, 156, 157, 137, 138, 139, 140, 141, 142, 143, 144, 145] rfl (by decide +kernel)
set_option maxRecDepth 20000 in
theorem gX6_lottery_X3_placesForLottery : GoodIn wsX6_lottery (wsV RX6 120 RX3 yX3_placesForLottery wsX3_placesForLottery) := goodIn_app (goodIn_of _ (by decide +kernel)) ggX6_lottery_X3_placesForLottery
set_option maxRecDepth 20000 in
theorem ggX6_lottery_X2_hold : GoodIn wsX6_lottery wsX2_hold := goodIn_r _ [95, 43, 42, 96, 50, 97, 48, 98, 99, 40, 100, 101, 102, 103, 104, 105, 106, 146, 147, 148, 149, 150, 151, 152] rfl (by decide +kernel)
set_option maxRecDepth 20000 in
theorem gX6_lottery_X2_hold : GoodIn wsX6_lottery (wsV RX6 123 RX2 yX2_hold wsX2_hold) := goodIn_app (goodIn_of _ (by decide +kernel)) ggX6_lottery_X2_hold
set_option maxRecDepth 20000 in
theorem ggX6_lottery_X3_loseApplied : GoodIn wsX6_lottery wsX3_loseApplied := goodIn_r _ [110, 27, 28, 29, 30, 31, 32, 33, 34, 35, 36, 128, 129, 130, 131, 132, 133, 134, 135, 136, 137, 138, 139, 140, 141, 142, 143, 144, 145] rfl (by decide +kernel)
set_option maxRecDepth 20000 in
theorem gX6_lottery_X3_loseApplied : GoodIn wsX6_lottery (wsV RX6 126 RX3 yX3_loseApplied wsX3_loseApplied) := goodIn_app (goodIn_of _ (by decide +kernel)) ggX6_lottery_X3_loseApplied
set_option maxRecDepth 20000 in
theorem ggX6_lottery_X2_settle : GoodIn wsX6_lottery wsX2_settle := goodIn_r _ [114, 42, 45, 47, 97, 115, 116, 117, 118, 119, 120, 7, 121, 29, 69, 86, 122, 146, 147, 148, 149, 150, 151, 152, 128, 129, 130, 131, 132, 133, 134, 135, 136, 137, 138, 139, 140, 141, 142, 143, 144, 145, 153, 154, 155] rfl (by decide +kernel)
set_option maxRecDepth 20000 in
theorem gX6_lottery_X2_settle : GoodIn wsX6_lottery (wsV RX6 130 RX2 yX2_settle wsX2_settle) := goodIn_app (goodIn_of _ (by decide +kernel)) ggX6_lottery_X2_settle
theorem dX6_lottery_0 : decode cX6_lottery 0 = .ok (.aload_n 0, 1) := by decide +kernel
theorem dX6_lottery_1 : decode cX6_lottery 1 = .ok (.getfield 10, 3) := by decide +kernel
theorem dX6_lottery_4 : decode cX6_lottery 4 = .ok (.iload_n 1, 1) := by decide +kernel
theorem dX6_lottery_5 : decode cX6_lottery 5 = .ok (.iload_n 2, 1) := by decide +kernel
theorem dX6_lottery_6 : decode cX6_lottery 6 = .ok (.invokevirtual 85, 3) := by decide +kernel
theorem dX6_lottery_9 : decode cX6_lottery 9 = .ok (.ifCond .ne 5, 3) := by decide +kernel
theorem dX6_lottery_12 : decode cX6_lottery 12 = .ok (.iconst (-1), 1) := by decide +kernel
theorem dX6_lottery_13 : decode cX6_lottery 13 = .ok (.ireturn, 1) := by decide +kernel
theorem dX6_lottery_14 : decode cX6_lottery 14 = .ok (.aload_n 0, 1) := by decide +kernel
theorem dX6_lottery_15 : decode cX6_lottery 15 = .ok (.getfield 10, 3) := by decide +kernel
theorem dX6_lottery_18 : decode cX6_lottery 18 = .ok (.iload_n 2, 1) := by decide +kernel
theorem dX6_lottery_19 : decode cX6_lottery 19 = .ok (.invokevirtual 89, 3) := by decide +kernel
theorem dX6_lottery_22 : decode cX6_lottery 22 = .ok (.ifCond .eq 16, 3) := by decide +kernel
theorem dX6_lottery_25 : decode cX6_lottery 25 = .ok (.aload_n 0, 1) := by decide +kernel
theorem dX6_lottery_26 : decode cX6_lottery 26 = .ok (.getfield 10, 3) := by decide +kernel
theorem dX6_lottery_29 : decode cX6_lottery 29 = .ok (.iload_n 1, 1) := by decide +kernel
theorem dX6_lottery_30 : decode cX6_lottery 30 = .ok (.iload_n 2, 1) := by decide +kernel
theorem dX6_lottery_31 : decode cX6_lottery 31 = .ok (.iconst 0, 1) := by decide +kernel
theorem dX6_lottery_32 : decode cX6_lottery 32 = .ok (.invokevirtual 112, 3) := by decide +kernel
theorem dX6_lottery_35 : decode cX6_lottery 35 = .ok (.ifCond .ne 6, 3) := by decide +kernel
theorem dX6_lottery_38 : decode cX6_lottery 38 = .ok (.bipush (-5), 2) := by decide +kernel
theorem dX6_lottery_40 : decode cX6_lottery 40 = .ok (.ireturn, 1) := by decide +kernel
theorem dX6_lottery_41 : decode cX6_lottery 41 = .ok (.aload_n 0, 1) := by decide +kernel
theorem dX6_lottery_42 : decode cX6_lottery 42 = .ok (.getfield 27, 3) := by decide +kernel
theorem dX6_lottery_45 : decode cX6_lottery 45 = .ok (.aload_n 0, 1) := by decide +kernel
theorem dX6_lottery_46 : decode cX6_lottery 46 = .ok (.getfield 10, 3) := by decide +kernel
theorem dX6_lottery_49 : decode cX6_lottery 49 = .ok (.iload_n 1, 1) := by decide +kernel
theorem dX6_lottery_50 : decode cX6_lottery 50 = .ok (.iload_n 2, 1) := by decide +kernel
theorem dX6_lottery_51 : decode cX6_lottery 51 = .ok (.invokevirtual 116, 3) := by decide +kernel
theorem dX6_lottery_54 : decode cX6_lottery 54 = .ok (.aload_n 0, 1) := by decide +kernel
theorem dX6_lottery_55 : decode cX6_lottery 55 = .ok (.getfield 10, 3) := by decide +kernel
theorem dX6_lottery_58 : decode cX6_lottery 58 = .ok (.getfield 79, 3) := by decide +kernel
theorem dX6_lottery_61 : decode cX6_lottery 61 = .ok (.iconst 5, 1) := by decide +kernel
theorem dX6_lottery_62 : decode cX6_lottery 62 = .ok (.aload_n 0, 1) := by decide +kernel
theorem dX6_lottery_63 : decode cX6_lottery 63 = .ok (.getfield 27, 3) := by decide +kernel
theorem dX6_lottery_66 : decode cX6_lottery 66 = .ok (.aload_n 0, 1) := by decide +kernel
theorem dX6_lottery_67 : decode cX6_lottery 67 = .ok (.getfield 10, 3) := by decide +kernel
theorem dX6_lottery_70 : decode cX6_lottery 70 = .ok (.getfield 79, 3) := by decide +kernel
theorem dX6_lottery_73 : decode cX6_lottery 73 = .ok (.iconst 5, 1) := by decide +kernel
theorem dX6_lottery_74 : decode cX6_lottery 74 = .ok (.iaload, 1) := by decide +kernel
theorem dX6_lottery_75 : decode cX6_lottery 75 = .ok (.aload_n 0, 1) := by decide +kernel
theorem dX6_lottery_76 : decode cX6_lottery 76 = .ok (.getfield 10, 3) := by decide +kernel
theorem dX6_lottery_79 : decode cX6_lottery 79 = .ok (.iload_n 1, 1) := by decide +kernel
theorem dX6_lottery_80 : decode cX6_lottery 80 = .ok (.iload_n 2, 1) := by decide +kernel
theorem dX6_lottery_81 : decode cX6_lottery 81 = .ok (.invokevirtual 120, 3) := by decide +kernel
theorem dX6_lottery_84 : decode cX6_lottery 84 = .ok (.invokevirtual 123, 3) := by decide +kernel
theorem dX6_lottery_87 : decode cX6_lottery 87 = .ok (.iastore, 1) := by decide +kernel
theorem dX6_lottery_88 : decode cX6_lottery 88 = .ok (.aload_n 0, 1) := by decide +kernel
theorem dX6_lottery_89 : decode cX6_lottery 89 = .ok (.getfield 10, 3) := by decide +kernel
theorem dX6_lottery_92 : decode cX6_lottery 92 = .ok (.iload_n 1, 1) := by decide +kernel
theorem dX6_lottery_93 : decode cX6_lottery 93 = .ok (.iload_n 2, 1) := by decide +kernel
theorem dX6_lottery_94 : decode cX6_lottery 94 = .ok (.invokevirtual 126, 3) := by decide +kernel
theorem dX6_lottery_97 : decode cX6_lottery 97 = .ok (.aload_n 0, 1) := by decide +kernel
theorem dX6_lottery_98 : decode cX6_lottery 98 = .ok (.getfield 27, 3) := by decide +kernel
theorem dX6_lottery_101 : decode cX6_lottery 101 = .ok (.aload_n 0, 1) := by decide +kernel
theorem dX6_lottery_102 : decode cX6_lottery 102 = .ok (.getfield 10, 3) := by decide +kernel
theorem dX6_lottery_105 : decode cX6_lottery 105 = .ok (.invokevirtual 130, 3) := by decide +kernel
theorem dX6_lottery_108 : decode cX6_lottery 108 = .ok (.ireturn, 1) := by decide +kernel
set_option maxRecDepth 20000 in
theorem ggX6_cancel_X3_hasApplication : GoodIn wsX6_cancel wsX3_hasApplication := goodIn_r _ [11, 12, 93, 94, 95, 96, 97, 98, 99, 100, 101] rfl (by decide +kernel)
set_option maxRecDepth 20000 in
theorem gX6_cancel_X3_hasApplication : GoodIn wsX6_cancel (wsV RX6 134 RX3 yX3_hasApplication wsX3_hasApplication) := goodIn_app (goodIn_of _ (by decide +kernel)) ggX6_cancel_X3_hasApplication
set_option maxRecDepth 20000 in
theorem ggX6_cancel_X0_isAlive : GoodIn wsX6_cancel wsX0_isAlive := goodIn_r _ [17, 18, 102, 103, 104, 105, 106, 107, 108, 109, 110] rfl (by decide +kernel)
set_option maxRecDepth 20000 in
theorem gX6_cancel_X0_isAlive : GoodIn wsX6_cancel (wsV RX6 141 RX0 yX0_isAlive wsX0_isAlive) := goodIn_app (goodIn_of _ (by decide +kernel)) ggX6_cancel_X0_isAlive
set_option maxRecDepth 20000 in
theorem ggX6_cancel_X3_refundNow : GoodIn wsX6_cancel wsX3_refundNow := goodIn_r _ [22, 23, 24, 25, 102, 103, 104, 105, 106, 107, 108, 109, 110, 93, 94, 95, 96, 97, 98, 99, 100, 101] rfl (by decide +kernel)
set_option maxRecDepth 20000 in
theorem gX6_cancel_X3_refundNow : GoodIn wsX6_cancel (wsV RX6 150 RX3 yX3_refundNow wsX3_refundNow) := goodIn_app (goodIn_of _ (by decide +kernel)) ggX6_cancel_X3_refundNow
set_option maxRecDepth 20000 in
theorem ggX6_cancel_X3_serveWaiting : GoodIn wsX6_cancel wsX3_serveWaiting := goodIn_r _ [29, 12, 30, 31, 32, 33, 34, 35, 36, 10, 37, 24, 38, 39, 40, 41, 42, 43, 44, 45, 46, 47, 48, 49, 50, 51, 52, 53, 54, 55, 56, 57, 58, 59, 60, 16, 61, 18, 62, 63, 64, 65, 66, 67, 68, 69, 70, 71, 72, 73, 74, 75, 76, 23, 77, 78, 79, 80, 81, 82, 83, 84, 85, 86, 87, 25, 93, 94, 95, 96, 97, 98, 99, 100, 101, 102, 103, 104, 105, 106, 107, 108, 109, 110, 111, 112, 113, 114, 115] rfl (by decide +kernel)
set_option maxRecDepth 20000 in
theorem gX6_cancel_X3_serveWaiting : GoodIn wsX6_cancel (wsV RX6 163 RX3 yX3_serveWaiting wsX3_serveWaiting) := goodIn_app (goodIn_of _ (by decide +kernel)) ggX6_cancel_X3_serveWaiting
theorem dX6_cancel_0 : decode cX6_cancel 0 = .ok (.aload_n 0, 1) := by decide +kernel
theorem dX6_cancel_1 : decode cX6_cancel 1 = .ok (.getfield 10, 3) := by decide +kernel
theorem dX6_cancel_4 : decode cX6_cancel 4 = .ok (.iload_n 1, 1) := by decide +kernel
theorem dX6_cancel_5 : decode cX6_cancel 5 = .ok (.invokevirtual 134, 3) := by decide +kernel
theorem dX6_cancel_8 : decode cX6_cancel 8 = .ok (.ifCond .ne 5, 3) := by decide +kernel
theorem dX6_cancel_11 : decode cX6_cancel 11 = .ok (.iconst (-1), 1) := by decide +kernel
theorem dX6_cancel_12 : decode cX6_cancel 12 = .ok (.ireturn, 1) := by decide +kernel
theorem dX6_cancel_13 : decode cX6_cancel 13 = .ok (.aload_n 0, 1) := by decide +kernel
theorem dX6_cancel_14 : decode cX6_cancel 14 = .ok (.getfield 10, 3) := by decide +kernel
theorem dX6_cancel_17 : decode cX6_cancel 17 = .ok (.getfield 137, 3) := by decide +kernel
theorem dX6_cancel_20 : decode cX6_cancel 20 = .ok (.iload_n 1, 1) := by decide +kernel
theorem dX6_cancel_21 : decode cX6_cancel 21 = .ok (.aaload, 1) := by decide +kernel
theorem dX6_cancel_22 : decode cX6_cancel 22 = .ok (.astore_n 2, 1) := by decide +kernel
theorem dX6_cancel_23 : decode cX6_cancel 23 = .ok (.aload_n 2, 1) := by decide +kernel
theorem dX6_cancel_24 : decode cX6_cancel 24 = .ok (.invokevirtual 141, 3) := by decide +kernel
theorem dX6_cancel_27 : decode cX6_cancel 27 = .ok (.ifCond .ne 6, 3) := by decide +kernel
theorem dX6_cancel_30 : decode cX6_cancel 30 = .ok (.bipush (-5), 2) := by decide +kernel
theorem dX6_cancel_32 : decode cX6_cancel 32 = .ok (.ireturn, 1) := by decide +kernel
theorem dX6_cancel_33 : decode cX6_cancel 33 = .ok (.aload_n 2, 1) := by decide +kernel
theorem dX6_cancel_34 : decode cX6_cancel 34 = .ok (.getfield 147, 3) := by decide +kernel
theorem dX6_cancel_37 : decode cX6_cancel 37 = .ok (.iconst 1, 1) := by decide +kernel
theorem dX6_cancel_38 : decode cX6_cancel 38 = .ok (.if_icmp .ne 7, 3) := by decide +kernel
theorem dX6_cancel_41 : decode cX6_cancel 41 = .ok (.iconst 1, 1) := by decide +kernel
theorem dX6_cancel_42 : decode cX6_cancel 42 = .ok (.goto 4, 3) := by decide +kernel
theorem dX6_cancel_45 : decode cX6_cancel 45 = .ok (.iconst 0, 1) := by decide +kernel
theorem dX6_cancel_46 : decode cX6_cancel 46 = .ok (.istore_n 3, 1) := by decide +kernel
theorem dX6_cancel_47 : decode cX6_cancel 47 = .ok (.aload_n 2, 1) := by decide +kernel
theorem dX6_cancel_48 : decode cX6_cancel 48 = .ok (.iconst 3, 1) := by decide +kernel
theorem dX6_cancel_49 : decode cX6_cancel 49 = .ok (.putfield 147, 3) := by decide +kernel
theorem dX6_cancel_52 : decode cX6_cancel 52 = .ok (.iload_n 3, 1) := by decide +kernel
theorem dX6_cancel_53 : decode cX6_cancel 53 = .ok (.ifCond .eq 30, 3) := by decide +kernel
theorem dX6_cancel_56 : decode cX6_cancel 56 = .ok (.aload_n 2, 1) := by decide +kernel
theorem dX6_cancel_57 : decode cX6_cancel 57 = .ok (.aload_n 0, 1) := by decide +kernel
theorem dX6_cancel_58 : decode cX6_cancel 58 = .ok (.getfield 10, 3) := by decide +kernel
theorem dX6_cancel_61 : decode cX6_cancel 61 = .ok (.aload_n 2, 1) := by decide +kernel
theorem dX6_cancel_62 : decode cX6_cancel 62 = .ok (.invokevirtual 150, 3) := by decide +kernel
theorem dX6_cancel_65 : decode cX6_cancel 65 = .ok (.putfield 154, 3) := by decide +kernel
theorem dX6_cancel_68 : decode cX6_cancel 68 = .ok (.aload_n 0, 1) := by decide +kernel
theorem dX6_cancel_69 : decode cX6_cancel 69 = .ok (.getfield 10, 3) := by decide +kernel
theorem dX6_cancel_72 : decode cX6_cancel 72 = .ok (.aload_n 2, 1) := by decide +kernel
theorem dX6_cancel_73 : decode cX6_cancel 73 = .ok (.getfield 157, 3) := by decide +kernel
theorem dX6_cancel_76 : decode cX6_cancel 76 = .ok (.aload_n 2, 1) := by decide +kernel
theorem dX6_cancel_77 : decode cX6_cancel 77 = .ok (.getfield 160, 3) := by decide +kernel
theorem dX6_cancel_80 : decode cX6_cancel 80 = .ok (.invokevirtual 163, 3) := by decide +kernel
theorem dX6_cancel_83 : decode cX6_cancel 83 = .ok (.aload_n 2, 1) := by decide +kernel
theorem dX6_cancel_84 : decode cX6_cancel 84 = .ok (.getfield 154, 3) := by decide +kernel
theorem dX6_cancel_87 : decode cX6_cancel 87 = .ok (.ireturn, 1) := by decide +kernel
set_option maxRecDepth 20000 in
theorem ggX6_close_X6_isDay : GoodIn wsX6_close wsX6_isDay := goodIn_r _ [6] rfl (by decide +kernel)
set_option maxRecDepth 20000 in
theorem gX6_close_X6_isDay : GoodIn wsX6_close (va_wsS RX6 166 yX6_isDay wsX6_isDay) := goodIn_app (goodIn_of _ (by decide +kernel)) ggX6_close_X6_isDay
set_option maxRecDepth 20000 in
theorem ggX6_close_X3_isOpen : GoodIn wsX6_close wsX3_isOpen := goodIn_r _ [11, 12, 13, 4, 5, 6, 71, 72, 73, 74, 75, 76, 77, 78, 79] rfl (by decide +kernel)
set_option maxRecDepth 20000 in
theorem gX6_close_X3_isOpen : GoodIn wsX6_close (wsV RX6 89 RX3 yX3_isOpen wsX3_isOpen) := goodIn_app (goodIn_of _ (by decide +kernel)) ggX6_close_X3_isOpen
set_option maxRecDepth 20000 in
theorem ggX6_close_X3_movePermits : GoodIn wsX6_close wsX3_movePermits := goodIn_r _ [17, 18, 19, 20, 21, 22, 23, 24, 25, 26, 27, 28, 29, 30, 10, 31, 32, 33, 34, 35, 36, 37, 38, 39, 8, 9, 11, 12, 13, 4, 5, 6, 40, 41, 42, 43, 44, 45, 46, 47, 48, 49, 50, 51, 52, 53, 54, 55, 56, 57, 58, 59, 60, 61, 71, 72, 73, 74, 75, 76, 77, 78, 79, 80, 81, 82, 83, 84, 85, 86, 87, 88, 89, 90, 91, 92, 93] rfl (by decide +kernel)
set_option maxRecDepth 20000 in
theorem gX6_close_X3_movePermits : GoodIn wsX6_close (wsV RX6 172 RX3 yX3_movePermits wsX3_movePermits) := goodIn_app (goodIn_of _ (by decide +kernel)) ggX6_close_X3_movePermits
set_option maxRecDepth 20000 in
theorem ggX6_close_X3_loseApplied : GoodIn wsX6_close wsX3_loseApplied := goodIn_r _ [65, 18, 19, 20, 56, 57, 58, 53, 59, 60, 61, 71, 72, 73, 74, 75, 76, 77, 78, 79, 80, 81, 82, 83, 84, 85, 86, 87, 88] rfl (by decide +kernel)
set_option maxRecDepth 20000 in
theorem gX6_close_X3_loseApplied : GoodIn wsX6_close (wsV RX6 126 RX3 yX3_loseApplied wsX3_loseApplied) := goodIn_app (goodIn_of _ (by decide +kernel)) ggX6_close_X3_loseApplied
theorem dX6_close_0 : decode cX6_close 0 = .ok (.iload_n 1, 1) := by decide +kernel
theorem dX6_close_1 : decode cX6_close 1 = .ok (.invokestatic 166, 3) := by decide +kernel
theorem dX6_close_4 : decode cX6_close 4 = .ok (.ifCond .ne 5, 3) := by decide +kernel
theorem dX6_close_7 : decode cX6_close 7 = .ok (.iconst (-1), 1) := by decide +kernel
theorem dX6_close_8 : decode cX6_close 8 = .ok (.ireturn, 1) := by decide +kernel
theorem dX6_close_9 : decode cX6_close 9 = .ok (.aload_n 0, 1) := by decide +kernel
theorem dX6_close_10 : decode cX6_close 10 = .ok (.getfield 10, 3) := by decide +kernel
theorem dX6_close_13 : decode cX6_close 13 = .ok (.iload_n 1, 1) := by decide +kernel
theorem dX6_close_14 : decode cX6_close 14 = .ok (.invokevirtual 89, 3) := by decide +kernel
theorem dX6_close_17 : decode cX6_close 17 = .ok (.ifCond .ne 6, 3) := by decide +kernel
theorem dX6_close_20 : decode cX6_close 20 = .ok (.bipush (-5), 2) := by decide +kernel
theorem dX6_close_22 : decode cX6_close 22 = .ok (.ireturn, 1) := by decide +kernel
theorem dX6_close_23 : decode cX6_close 23 = .ok (.aload_n 0, 1) := by decide +kernel
theorem dX6_close_24 : decode cX6_close 24 = .ok (.getfield 10, 3) := by decide +kernel
theorem dX6_close_27 : decode cX6_close 27 = .ok (.getfield 169, 3) := by decide +kernel
theorem dX6_close_30 : decode cX6_close 30 = .ok (.iload_n 1, 1) := by decide +kernel
theorem dX6_close_31 : decode cX6_close 31 = .ok (.iconst 1, 1) := by decide +kernel
theorem dX6_close_32 : decode cX6_close 32 = .ok (.bastore, 1) := by decide +kernel
theorem dX6_close_33 : decode cX6_close 33 = .ok (.aload_n 0, 1) := by decide +kernel
theorem dX6_close_34 : decode cX6_close 34 = .ok (.getfield 10, 3) := by decide +kernel
theorem dX6_close_37 : decode cX6_close 37 = .ok (.iload_n 1, 1) := by decide +kernel
theorem dX6_close_38 : decode cX6_close 38 = .ok (.invokevirtual 172, 3) := by decide +kernel
theorem dX6_close_41 : decode cX6_close 41 = .ok (.istore_n 2, 1) := by decide +kernel
theorem dX6_close_42 : decode cX6_close 42 = .ok (.aload_n 0, 1) := by decide +kernel
theorem dX6_close_43 : decode cX6_close 43 = .ok (.getfield 10, 3) := by decide +kernel
theorem dX6_close_46 : decode cX6_close 46 = .ok (.iconst (-1), 1) := by decide +kernel
theorem dX6_close_47 : decode cX6_close 47 = .ok (.iload_n 1, 1) := by decide +kernel
theorem dX6_close_48 : decode cX6_close 48 = .ok (.invokevirtual 126, 3) := by decide +kernel
theorem dX6_close_51 : decode cX6_close 51 = .ok (.iload_n 2, 1) := by decide +kernel
theorem dX6_close_52 : decode cX6_close 52 = .ok (.ireturn, 1) := by decide +kernel
set_option maxRecDepth 20000 in
theorem ggX6_standby_X3_hasApplication : GoodIn wsX6_standby wsX3_hasApplication := goodIn_r _ [13, 14, 73, 74, 75, 76, 77, 78, 79, 80, 81] rfl (by decide +kernel)
set_option maxRecDepth 20000 in
theorem gX6_standby_X3_hasApplication : GoodIn wsX6_standby (wsV RX6 134 RX3 yX3_hasApplication wsX3_hasApplication) := goodIn_app (goodIn_of _ (by decide +kernel)) ggX6_standby_X3_hasApplication
set_option maxRecDepth 20000 in
theorem ggX6_standby_X3_isOpen : GoodIn wsX6_standby wsX3_isOpen := goodIn_r _ [18, 19, 20, 21, 22, 23, 73, 74, 75, 76, 77, 78, 79, 80, 81] rfl (by decide +kernel)
set_option maxRecDepth 20000 in
theorem gX6_standby_X3_isOpen : GoodIn wsX6_standby (wsV RX6 89 RX3 yX3_isOpen wsX3_isOpen) := goodIn_app (goodIn_of _ (by decide +kernel)) ggX6_standby_X3_isOpen
set_option maxRecDepth 20000 in
theorem ggX6_standby_X3_isBarred : GoodIn wsX6_standby wsX3_isBarred := goodIn_r _ [27, 28, 29, 30, 31, 32, 33, 34, 35, 36, 73, 74, 75, 76, 77, 78, 79, 80, 81, 82, 83, 84, 85, 86, 87, 88, 89, 90, 91, 92, 93] rfl (by decide +kernel)
set_option maxRecDepth 20000 in
theorem gX6_standby_X3_isBarred : GoodIn wsX6_standby (wsV RX6 179 RX3 yX3_isBarred wsX3_isBarred) := goodIn_app (goodIn_of _ (by decide +kernel)) ggX6_standby_X3_isBarred
set_option maxRecDepth 20000 in
theorem ggX6_standby_X3_placesFree : GoodIn wsX6_standby wsX3_placesFree := goodIn_r _ [40, 41, 42, 43, 44, 45, 12, 46, 14, 47, 48, 49, 50, 51, 52, 53, 54, 55, 56, 57, 58, 59, 60, 73, 74, 75, 76, 77, 78, 79, 80, 81, 94, 95, 82, 83, 84, 85, 86, 87, 88, 89, 90] rfl (by decide +kernel)
set_option maxRecDepth 20000 in
theorem gX6_standby_X3_placesFree : GoodIn wsX6_standby (wsV RX6 186 RX3 yX3_placesFree wsX3_placesFree) := goodIn_app (goodIn_of _ (by decide +kernel)) ggX6_standby_X3_placesFree
set_option maxRecDepth 20000 in
theorem ggX6_standby_X3_givePermit : GoodIn wsX6_standby wsX3_givePermit := goodIn_r _ [64, 65, 66, 48, 67, 82, 83, 84, 85, 86, 87, 88, 89, 90, 73, 74, 75, 76, 77, 78, 79, 80, 81] rfl (by decide +kernel)
set_option maxRecDepth 20000 in
theorem gX6_standby_X3_givePermit : GoodIn wsX6_standby (wsV RX6 189 RX3 yX3_givePermit wsX3_givePermit) := goodIn_app (goodIn_of _ (by decide +kernel)) ggX6_standby_X3_givePermit
theorem dX6_standby_0 : decode cX6_standby 0 = .ok (.aload_n 0, 1) := by decide +kernel
theorem dX6_standby_1 : decode cX6_standby 1 = .ok (.getfield 10, 3) := by decide +kernel
theorem dX6_standby_4 : decode cX6_standby 4 = .ok (.iload_n 1, 1) := by decide +kernel
theorem dX6_standby_5 : decode cX6_standby 5 = .ok (.invokevirtual 134, 3) := by decide +kernel
theorem dX6_standby_8 : decode cX6_standby 8 = .ok (.ifCond .ne 5, 3) := by decide +kernel
theorem dX6_standby_11 : decode cX6_standby 11 = .ok (.iconst (-1), 1) := by decide +kernel
theorem dX6_standby_12 : decode cX6_standby 12 = .ok (.ireturn, 1) := by decide +kernel
theorem dX6_standby_13 : decode cX6_standby 13 = .ok (.aload_n 0, 1) := by decide +kernel
theorem dX6_standby_14 : decode cX6_standby 14 = .ok (.getfield 10, 3) := by decide +kernel
theorem dX6_standby_17 : decode cX6_standby 17 = .ok (.getfield 137, 3) := by decide +kernel
theorem dX6_standby_20 : decode cX6_standby 20 = .ok (.iload_n 1, 1) := by decide +kernel
theorem dX6_standby_21 : decode cX6_standby 21 = .ok (.aaload, 1) := by decide +kernel
theorem dX6_standby_22 : decode cX6_standby 22 = .ok (.astore_n 2, 1) := by decide +kernel
theorem dX6_standby_23 : decode cX6_standby 23 = .ok (.aload_n 2, 1) := by decide +kernel
theorem dX6_standby_24 : decode cX6_standby 24 = .ok (.getfield 147, 3) := by decide +kernel
theorem dX6_standby_27 : decode cX6_standby 27 = .ok (.iconst 2, 1) := by decide +kernel
theorem dX6_standby_28 : decode cX6_standby 28 = .ok (.if_icmp .ne 64, 3) := by decide +kernel
theorem dX6_standby_31 : decode cX6_standby 31 = .ok (.aload_n 2, 1) := by decide +kernel
theorem dX6_standby_32 : decode cX6_standby 32 = .ok (.getfield 160, 3) := by decide +kernel
theorem dX6_standby_35 : decode cX6_standby 35 = .ok (.aload_n 0, 1) := by decide +kernel
theorem dX6_standby_36 : decode cX6_standby 36 = .ok (.getfield 10, 3) := by decide +kernel
theorem dX6_standby_39 : decode cX6_standby 39 = .ok (.getfield 176, 3) := by decide +kernel
theorem dX6_standby_42 : decode cX6_standby 42 = .ok (.if_icmp .ne 50, 3) := by decide +kernel
theorem dX6_standby_45 : decode cX6_standby 45 = .ok (.aload_n 0, 1) := by decide +kernel
theorem dX6_standby_46 : decode cX6_standby 46 = .ok (.getfield 10, 3) := by decide +kernel
theorem dX6_standby_49 : decode cX6_standby 49 = .ok (.aload_n 2, 1) := by decide +kernel
theorem dX6_standby_50 : decode cX6_standby 50 = .ok (.getfield 160, 3) := by decide +kernel
theorem dX6_standby_53 : decode cX6_standby 53 = .ok (.invokevirtual 89, 3) := by decide +kernel
theorem dX6_standby_56 : decode cX6_standby 56 = .ok (.ifCond .eq 36, 3) := by decide +kernel
theorem dX6_standby_59 : decode cX6_standby 59 = .ok (.aload_n 0, 1) := by decide +kernel
theorem dX6_standby_60 : decode cX6_standby 60 = .ok (.getfield 10, 3) := by decide +kernel
theorem dX6_standby_63 : decode cX6_standby 63 = .ok (.aload_n 2, 1) := by decide +kernel
theorem dX6_standby_64 : decode cX6_standby 64 = .ok (.invokevirtual 179, 3) := by decide +kernel
theorem dX6_standby_67 : decode cX6_standby 67 = .ok (.ifCond .ne 25, 3) := by decide +kernel
theorem dX6_standby_70 : decode cX6_standby 70 = .ok (.aload_n 2, 1) := by decide +kernel
theorem dX6_standby_71 : decode cX6_standby 71 = .ok (.getfield 183, 3) := by decide +kernel
theorem dX6_standby_74 : decode cX6_standby 74 = .ok (.aload_n 0, 1) := by decide +kernel
theorem dX6_standby_75 : decode cX6_standby 75 = .ok (.getfield 10, 3) := by decide +kernel
theorem dX6_standby_78 : decode cX6_standby 78 = .ok (.aload_n 2, 1) := by decide +kernel
theorem dX6_standby_79 : decode cX6_standby 79 = .ok (.getfield 157, 3) := by decide +kernel
theorem dX6_standby_82 : decode cX6_standby 82 = .ok (.aload_n 2, 1) := by decide +kernel
theorem dX6_standby_83 : decode cX6_standby 83 = .ok (.getfield 160, 3) := by decide +kernel
theorem dX6_standby_86 : decode cX6_standby 86 = .ok (.invokevirtual 186, 3) := by decide +kernel
theorem dX6_standby_89 : decode cX6_standby 89 = .ok (.if_icmp .le 6, 3) := by decide +kernel
theorem dX6_standby_92 : decode cX6_standby 92 = .ok (.bipush (-5), 2) := by decide +kernel
theorem dX6_standby_94 : decode cX6_standby 94 = .ok (.ireturn, 1) := by decide +kernel
theorem dX6_standby_95 : decode cX6_standby 95 = .ok (.aload_n 0, 1) := by decide +kernel
theorem dX6_standby_96 : decode cX6_standby 96 = .ok (.getfield 10, 3) := by decide +kernel
theorem dX6_standby_99 : decode cX6_standby 99 = .ok (.aload_n 2, 1) := by decide +kernel
theorem dX6_standby_100 : decode cX6_standby 100 = .ok (.invokevirtual 189, 3) := by decide +kernel
theorem dX6_standby_103 : decode cX6_standby 103 = .ok (.aload_n 2, 1) := by decide +kernel
theorem dX6_standby_104 : decode cX6_standby 104 = .ok (.getfield 193, 3) := by decide +kernel
theorem dX6_standby_107 : decode cX6_standby 107 = .ok (.ireturn, 1) := by decide +kernel
set_option maxRecDepth 20000 in
theorem ggX6_show_X3_hasApplication : GoodIn wsX6_show wsX3_hasApplication := goodIn_r _ [11, 12, 18, 19, 20, 21, 22, 23, 24, 25, 26] rfl (by decide +kernel)
set_option maxRecDepth 20000 in
theorem gX6_show_X3_hasApplication : GoodIn wsX6_show (wsV RX6 134 RX3 yX3_hasApplication wsX3_hasApplication) := goodIn_app (goodIn_of _ (by decide +kernel)) ggX6_show_X3_hasApplication
theorem dX6_show_0 : decode cX6_show 0 = .ok (.aload_n 0, 1) := by decide +kernel
theorem dX6_show_1 : decode cX6_show 1 = .ok (.getfield 10, 3) := by decide +kernel
theorem dX6_show_4 : decode cX6_show 4 = .ok (.iload_n 1, 1) := by decide +kernel
theorem dX6_show_5 : decode cX6_show 5 = .ok (.invokevirtual 134, 3) := by decide +kernel
theorem dX6_show_8 : decode cX6_show 8 = .ok (.ifCond .ne 5, 3) := by decide +kernel
theorem dX6_show_11 : decode cX6_show 11 = .ok (.iconst (-1), 1) := by decide +kernel
theorem dX6_show_12 : decode cX6_show 12 = .ok (.ireturn, 1) := by decide +kernel
theorem dX6_show_13 : decode cX6_show 13 = .ok (.aload_n 0, 1) := by decide +kernel
theorem dX6_show_14 : decode cX6_show 14 = .ok (.getfield 10, 3) := by decide +kernel
theorem dX6_show_17 : decode cX6_show 17 = .ok (.getfield 137, 3) := by decide +kernel
theorem dX6_show_20 : decode cX6_show 20 = .ok (.iload_n 1, 1) := by decide +kernel
theorem dX6_show_21 : decode cX6_show 21 = .ok (.aaload, 1) := by decide +kernel
theorem dX6_show_22 : decode cX6_show 22 = .ok (.astore_n 2, 1) := by decide +kernel
theorem dX6_show_23 : decode cX6_show 23 = .ok (.aload_n 2, 1) := by decide +kernel
theorem dX6_show_24 : decode cX6_show 24 = .ok (.getfield 147, 3) := by decide +kernel
theorem dX6_show_27 : decode cX6_show 27 = .ok (.iconst 1, 1) := by decide +kernel
theorem dX6_show_28 : decode cX6_show 28 = .ok (.if_icmp .ne 24, 3) := by decide +kernel
theorem dX6_show_31 : decode cX6_show 31 = .ok (.aload_n 2, 1) := by decide +kernel
theorem dX6_show_32 : decode cX6_show 32 = .ok (.getfield 160, 3) := by decide +kernel
theorem dX6_show_35 : decode cX6_show 35 = .ok (.aload_n 0, 1) := by decide +kernel
theorem dX6_show_36 : decode cX6_show 36 = .ok (.getfield 10, 3) := by decide +kernel
theorem dX6_show_39 : decode cX6_show 39 = .ok (.getfield 176, 3) := by decide +kernel
theorem dX6_show_42 : decode cX6_show 42 = .ok (.if_icmp .ne 10, 3) := by decide +kernel
theorem dX6_show_45 : decode cX6_show 45 = .ok (.aload_n 2, 1) := by decide +kernel
theorem dX6_show_46 : decode cX6_show 46 = .ok (.getfield 196, 3) := by decide +kernel
theorem dX6_show_49 : decode cX6_show 49 = .ok (.ifCond .eq 6, 3) := by decide +kernel
theorem dX6_show_52 : decode cX6_show 52 = .ok (.bipush (-5), 2) := by decide +kernel
theorem dX6_show_54 : decode cX6_show 54 = .ok (.ireturn, 1) := by decide +kernel
theorem dX6_show_55 : decode cX6_show 55 = .ok (.aload_n 2, 1) := by decide +kernel
theorem dX6_show_56 : decode cX6_show 56 = .ok (.iconst 1, 1) := by decide +kernel
theorem dX6_show_57 : decode cX6_show 57 = .ok (.putfield 196, 3) := by decide +kernel
theorem dX6_show_60 : decode cX6_show 60 = .ok (.iconst 1, 1) := by decide +kernel
theorem dX6_show_61 : decode cX6_show 61 = .ok (.ireturn, 1) := by decide +kernel
set_option maxRecDepth 20000 in
theorem ggX6_end_X3_judgePermits : GoodIn wsX6_end wsX3_judgePermits := goodIn_r _ [7, 8, 9, 10, 11, 12, 13, 14, 15, 16, 17, 18, 19, 20, 21, 22, 23, 24, 25, 26, 27, 44, 45, 46, 47, 48, 49, 50, 51, 52, 53, 54, 55, 56, 57, 58, 59, 60, 61, 62, 63, 64] rfl (by decide +kernel)
set_option maxRecDepth 20000 in
theorem gX6_end_X3_judgePermits : GoodIn wsX6_end (wsV RX6 200 RX3 yX3_judgePermits wsX3_judgePermits) := goodIn_app (goodIn_of _ (by decide +kernel)) ggX6_end_X3_judgePermits
set_option maxRecDepth 20000 in
theorem ggX6_end_X3_loseApplied : GoodIn wsX6_end wsX3_loseApplied := goodIn_r _ [31, 8, 9, 10, 32, 33, 34, 35, 36, 37, 38, 44, 45, 46, 47, 48, 49, 50, 51, 52, 53, 54, 55, 56, 57, 58, 59, 60, 61] rfl (by decide +kernel)
set_option maxRecDepth 20000 in
theorem gX6_end_X3_loseApplied : GoodIn wsX6_end (wsV RX6 126 RX3 yX3_loseApplied wsX3_loseApplied) := goodIn_app (goodIn_of _ (by decide +kernel)) ggX6_end_X3_loseApplied
theorem dX6_end_0 : decode cX6_end 0 = .ok (.aload_n 0, 1) := by decide +kernel
theorem dX6_end_1 : decode cX6_end 1 = .ok (.getfield 10, 3) := by decide +kernel
theorem dX6_end_4 : decode cX6_end 4 = .ok (.getfield 176, 3) := by decide +kernel
theorem dX6_end_7 : decode cX6_end 7 = .ok (.bipush 59, 2) := by decide +kernel
theorem dX6_end_9 : decode cX6_end 9 = .ok (.if_icmp .lt 6, 3) := by decide +kernel
theorem dX6_end_12 : decode cX6_end 12 = .ok (.bipush (-5), 2) := by decide +kernel
theorem dX6_end_14 : decode cX6_end 14 = .ok (.ireturn, 1) := by decide +kernel
theorem dX6_end_15 : decode cX6_end 15 = .ok (.aload_n 0, 1) := by decide +kernel
theorem dX6_end_16 : decode cX6_end 16 = .ok (.getfield 10, 3) := by decide +kernel
theorem dX6_end_19 : decode cX6_end 19 = .ok (.invokevirtual 200, 3) := by decide +kernel
theorem dX6_end_22 : decode cX6_end 22 = .ok (.istore_n 1, 1) := by decide +kernel
theorem dX6_end_23 : decode cX6_end 23 = .ok (.aload_n 0, 1) := by decide +kernel
theorem dX6_end_24 : decode cX6_end 24 = .ok (.getfield 10, 3) := by decide +kernel
theorem dX6_end_27 : decode cX6_end 27 = .ok (.iconst (-1), 1) := by decide +kernel
theorem dX6_end_28 : decode cX6_end 28 = .ok (.aload_n 0, 1) := by decide +kernel
theorem dX6_end_29 : decode cX6_end 29 = .ok (.getfield 10, 3) := by decide +kernel
theorem dX6_end_32 : decode cX6_end 32 = .ok (.getfield 176, 3) := by decide +kernel
theorem dX6_end_35 : decode cX6_end 35 = .ok (.invokevirtual 126, 3) := by decide +kernel
theorem dX6_end_38 : decode cX6_end 38 = .ok (.aload_n 0, 1) := by decide +kernel
theorem dX6_end_39 : decode cX6_end 39 = .ok (.getfield 10, 3) := by decide +kernel
theorem dX6_end_42 : decode cX6_end 42 = .ok (.dup, 1) := by decide +kernel
theorem dX6_end_43 : decode cX6_end 43 = .ok (.getfield 176, 3) := by decide +kernel
theorem dX6_end_46 : decode cX6_end 46 = .ok (.iconst 1, 1) := by decide +kernel
theorem dX6_end_47 : decode cX6_end 47 = .ok (.iadd, 1) := by decide +kernel
theorem dX6_end_48 : decode cX6_end 48 = .ok (.putfield 176, 3) := by decide +kernel
theorem dX6_end_51 : decode cX6_end 51 = .ok (.iload_n 1, 1) := by decide +kernel
theorem dX6_end_52 : decode cX6_end 52 = .ok (.ireturn, 1) := by decide +kernel
set_option maxRecDepth 20000 in
theorem ggX6_onRoute_X3_hasRouteAndDay : GoodIn wsX6_onRoute wsX3_hasRouteAndDay := goodIn_r _ [13, 14, 15, 16, 12, 17, 18, 19, 20, 21, 63, 64, 65, 66, 67, 68, 69, 70, 71] rfl (by decide +kernel)
set_option maxRecDepth 20000 in
theorem gX6_onRoute_X3_hasRouteAndDay : GoodIn wsX6_onRoute (wsV RX6 85 RX3 yX3_hasRouteAndDay wsX3_hasRouteAndDay) := goodIn_app (goodIn_of _ (by decide +kernel)) ggX6_onRoute_X3_hasRouteAndDay
set_option maxRecDepth 20000 in
theorem ggX6_onRoute_X3_placesTaken : GoodIn wsX6_onRoute wsX3_placesTaken := goodIn_r _ [25, 26, 27, 28, 29, 30, 31, 32, 33, 34, 35, 36, 37, 38, 39, 40, 63, 64, 65, 66, 67, 68, 69, 70, 71, 74, 75, 76, 77, 78, 79, 80, 81, 82] rfl (by decide +kernel)
set_option maxRecDepth 20000 in
theorem gX6_onRoute_X3_placesTaken : GoodIn wsX6_onRoute (wsV RX6 203 RX3 yX3_placesTaken wsX3_placesTaken) := goodIn_app (goodIn_of _ (by decide +kernel)) ggX6_onRoute_X3_placesTaken
set_option maxRecDepth 20000 in
theorem ggX6_onRoute_X3_placesForLottery : GoodIn wsX6_onRoute wsX3_placesForLottery := goodIn_r _ [44, 45, 46, 47, 48, 49, 12, 50, 51, 52, 23, 24, 25, 26, 27, 28, 29, 30, 31, 32, 33, 34, 35, 36, 37, 38, 39, 40, 63, 64, 65, 66, 67, 68, 69, 70, 71, 72, 73, 74, 75, 76, 77, 78, 79, 80, 81, 82] rfl (by decide +kernel)
set_option maxRecDepth 20000 in
theorem gX6_onRoute_X3_placesForLottery : GoodIn wsX6_onRoute (wsV RX6 120 RX3 yX3_placesForLottery wsX3_placesForLottery) := goodIn_app (goodIn_of _ (by decide +kernel)) ggX6_onRoute_X3_placesForLottery
set_option maxRecDepth 20000 in
theorem ggX6_onRoute_X3_countOf : GoodIn wsX6_onRoute wsX3_countOf := goodIn_r _ [56, 26, 27, 57, 35, 36, 37, 32, 38, 39, 40, 63, 64, 65, 66, 67, 68, 69, 70, 71, 74, 75, 76, 77, 78, 79, 80, 81, 82] rfl (by decide +kernel)
set_option maxRecDepth 20000 in
theorem gX6_onRoute_X3_countOf : GoodIn wsX6_onRoute (wsV RX6 112 RX3 yX3_countOf wsX3_countOf) := goodIn_app (goodIn_of _ (by decide +kernel)) ggX6_onRoute_X3_countOf
theorem dX6_onRoute_0 : decode cX6_onRoute 0 = .ok (.aload_n 0, 1) := by decide +kernel
theorem dX6_onRoute_1 : decode cX6_onRoute 1 = .ok (.getfield 10, 3) := by decide +kernel
theorem dX6_onRoute_4 : decode cX6_onRoute 4 = .ok (.iload_n 1, 1) := by decide +kernel
theorem dX6_onRoute_5 : decode cX6_onRoute 5 = .ok (.iload_n 2, 1) := by decide +kernel
theorem dX6_onRoute_6 : decode cX6_onRoute 6 = .ok (.invokevirtual 85, 3) := by decide +kernel
theorem dX6_onRoute_9 : decode cX6_onRoute 9 = .ok (.ifCond .ne 5, 3) := by decide +kernel
theorem dX6_onRoute_12 : decode cX6_onRoute 12 = .ok (.iconst (-1), 1) := by decide +kernel
theorem dX6_onRoute_13 : decode cX6_onRoute 13 = .ok (.ireturn, 1) := by decide +kernel
theorem dX6_onRoute_14 : decode cX6_onRoute 14 = .ok (.iload_n 3, 1) := by decide +kernel
theorem dX6_onRoute_15 : decode cX6_onRoute 15 = .ok (.tableswitch 109 0 5 #[37, 50, 63, 73, 87, 98], 37) := by decide +kernel
theorem dX6_onRoute_52 : decode cX6_onRoute 52 = .ok (.aload_n 0, 1) := by decide +kernel
theorem dX6_onRoute_53 : decode cX6_onRoute 53 = .ok (.getfield 10, 3) := by decide +kernel
theorem dX6_onRoute_56 : decode cX6_onRoute 56 = .ok (.getfield 50, 3) := by decide +kernel
theorem dX6_onRoute_59 : decode cX6_onRoute 59 = .ok (.iload_n 1, 1) := by decide +kernel
theorem dX6_onRoute_60 : decode cX6_onRoute 60 = .ok (.aaload, 1) := by decide +kernel
theorem dX6_onRoute_61 : decode cX6_onRoute 61 = .ok (.getfield 54, 3) := by decide +kernel
theorem dX6_onRoute_64 : decode cX6_onRoute 64 = .ok (.ireturn, 1) := by decide +kernel
theorem dX6_onRoute_65 : decode cX6_onRoute 65 = .ok (.aload_n 0, 1) := by decide +kernel
theorem dX6_onRoute_66 : decode cX6_onRoute 66 = .ok (.getfield 10, 3) := by decide +kernel
theorem dX6_onRoute_69 : decode cX6_onRoute 69 = .ok (.getfield 50, 3) := by decide +kernel
theorem dX6_onRoute_72 : decode cX6_onRoute 72 = .ok (.iload_n 1, 1) := by decide +kernel
theorem dX6_onRoute_73 : decode cX6_onRoute 73 = .ok (.aaload, 1) := by decide +kernel
theorem dX6_onRoute_74 : decode cX6_onRoute 74 = .ok (.getfield 59, 3) := by decide +kernel
theorem dX6_onRoute_77 : decode cX6_onRoute 77 = .ok (.ireturn, 1) := by decide +kernel
theorem dX6_onRoute_78 : decode cX6_onRoute 78 = .ok (.aload_n 0, 1) := by decide +kernel
theorem dX6_onRoute_79 : decode cX6_onRoute 79 = .ok (.getfield 10, 3) := by decide +kernel
theorem dX6_onRoute_82 : decode cX6_onRoute 82 = .ok (.iload_n 1, 1) := by decide +kernel
theorem dX6_onRoute_83 : decode cX6_onRoute 83 = .ok (.iload_n 2, 1) := by decide +kernel
theorem dX6_onRoute_84 : decode cX6_onRoute 84 = .ok (.invokevirtual 203, 3) := by decide +kernel
theorem dX6_onRoute_87 : decode cX6_onRoute 87 = .ok (.ireturn, 1) := by decide +kernel
theorem dX6_onRoute_88 : decode cX6_onRoute 88 = .ok (.iconst 0, 1) := by decide +kernel
theorem dX6_onRoute_89 : decode cX6_onRoute 89 = .ok (.aload_n 0, 1) := by decide +kernel
theorem dX6_onRoute_90 : decode cX6_onRoute 90 = .ok (.getfield 10, 3) := by decide +kernel
theorem dX6_onRoute_93 : decode cX6_onRoute 93 = .ok (.iload_n 1, 1) := by decide +kernel
theorem dX6_onRoute_94 : decode cX6_onRoute 94 = .ok (.iload_n 2, 1) := by decide +kernel
theorem dX6_onRoute_95 : decode cX6_onRoute 95 = .ok (.invokevirtual 120, 3) := by decide +kernel
theorem dX6_onRoute_98 : decode cX6_onRoute 98 = .ok (.invokestatic 206, 3) := by decide +kernel
theorem dX6_onRoute_101 : decode cX6_onRoute 101 = .ok (.ireturn, 1) := by decide +kernel
theorem dX6_onRoute_102 : decode cX6_onRoute 102 = .ok (.aload_n 0, 1) := by decide +kernel
theorem dX6_onRoute_103 : decode cX6_onRoute 103 = .ok (.getfield 10, 3) := by decide +kernel
theorem dX6_onRoute_106 : decode cX6_onRoute 106 = .ok (.iload_n 1, 1) := by decide +kernel
theorem dX6_onRoute_107 : decode cX6_onRoute 107 = .ok (.iload_n 2, 1) := by decide +kernel
theorem dX6_onRoute_108 : decode cX6_onRoute 108 = .ok (.iconst 0, 1) := by decide +kernel
theorem dX6_onRoute_109 : decode cX6_onRoute 109 = .ok (.invokevirtual 112, 3) := by decide +kernel
theorem dX6_onRoute_112 : decode cX6_onRoute 112 = .ok (.ireturn, 1) := by decide +kernel
theorem dX6_onRoute_113 : decode cX6_onRoute 113 = .ok (.aload_n 0, 1) := by decide +kernel
theorem dX6_onRoute_114 : decode cX6_onRoute 114 = .ok (.getfield 10, 3) := by decide +kernel
theorem dX6_onRoute_117 : decode cX6_onRoute 117 = .ok (.iload_n 1, 1) := by decide +kernel
theorem dX6_onRoute_118 : decode cX6_onRoute 118 = .ok (.iload_n 2, 1) := by decide +kernel
theorem dX6_onRoute_119 : decode cX6_onRoute 119 = .ok (.iconst 2, 1) := by decide +kernel
theorem dX6_onRoute_120 : decode cX6_onRoute 120 = .ok (.invokevirtual 112, 3) := by decide +kernel
theorem dX6_onRoute_123 : decode cX6_onRoute 123 = .ok (.ireturn, 1) := by decide +kernel
theorem dX6_onRoute_124 : decode cX6_onRoute 124 = .ok (.bipush (-2), 2) := by decide +kernel
theorem dX6_onRoute_126 : decode cX6_onRoute 126 = .ok (.ireturn, 1) := by decide +kernel
set_option maxRecDepth 20000 in
theorem ggX6_climber_X3_hasClimber : GoodIn wsX6_climber wsX3_hasClimber := goodIn_r _ [10, 11, 44, 45, 46, 47, 48, 49, 50, 51, 52] rfl (by decide +kernel)
set_option maxRecDepth 20000 in
theorem gX6_climber_X3_hasClimber : GoodIn wsX6_climber (wsV RX6 82 RX3 yX3_hasClimber wsX3_hasClimber) := goodIn_app (goodIn_of _ (by decide +kernel)) ggX6_climber_X3_hasClimber
set_option maxRecDepth 20000 in
theorem ggX6_climber_X3_countIn : GoodIn wsX6_climber wsX3_countIn := goodIn_r _ [15, 16, 17, 18, 19, 20, 21, 22, 23, 24, 44, 45, 46, 47, 48, 49, 50, 51, 52, 56, 57, 58, 59, 60, 61, 62, 63, 64] rfl (by decide +kernel)
set_option maxRecDepth 20000 in
theorem gX6_climber_X3_countIn : GoodIn wsX6_climber (wsV RX6 220 RX3 yX3_countIn wsX3_countIn) := goodIn_app (goodIn_of _ (by decide +kernel)) ggX6_climber_X3_countIn
set_option maxRecDepth 20000 in
theorem ggX6_climber_X3_paidBy : GoodIn wsX6_climber wsX3_paidBy := goodIn_r _ [28, 16, 17, 29, 19, 20, 21, 22, 23, 24, 44, 45, 46, 47, 48, 49, 50, 51, 52, 56, 57, 58, 59, 60, 61, 62, 63, 64] rfl (by decide +kernel)
set_option maxRecDepth 20000 in
theorem gX6_climber_X3_paidBy : GoodIn wsX6_climber (wsV RX6 223 RX3 yX3_paidBy wsX3_paidBy) := goodIn_app (goodIn_of _ (by decide +kernel)) ggX6_climber_X3_paidBy
set_option maxRecDepth 20000 in
theorem ggX6_climber_X3_refundedTo : GoodIn wsX6_climber wsX3_refundedTo := goodIn_r _ [33, 16, 17, 34, 19, 20, 21, 22, 23, 24, 44, 45, 46, 47, 48, 49, 50, 51, 52, 56, 57, 58, 59, 60, 61, 62, 63, 64] rfl (by decide +kernel)
set_option maxRecDepth 20000 in
theorem gX6_climber_X3_refundedTo : GoodIn wsX6_climber (wsV RX6 226 RX3 yX3_refundedTo wsX3_refundedTo) := goodIn_app (goodIn_of _ (by decide +kernel)) ggX6_climber_X3_refundedTo
set_option maxRecDepth 20000 in
theorem ggX6_climber_X3_countBy : GoodIn wsX6_climber wsX3_countBy := goodIn_r _ [38, 16, 17, 19, 20, 21, 22, 23, 24, 44, 45, 46, 47, 48, 49, 50, 51, 52, 56, 57, 58, 59, 60, 61, 62, 63, 64] rfl (by decide +kernel)
set_option maxRecDepth 20000 in
theorem gX6_climber_X3_countBy : GoodIn wsX6_climber (wsV RX6 229 RX3 yX3_countBy wsX3_countBy) := goodIn_app (goodIn_of _ (by decide +kernel)) ggX6_climber_X3_countBy
theorem dX6_climber_0 : decode cX6_climber 0 = .ok (.aload_n 0, 1) := by decide +kernel
theorem dX6_climber_1 : decode cX6_climber 1 = .ok (.getfield 10, 3) := by decide +kernel
theorem dX6_climber_4 : decode cX6_climber 4 = .ok (.iload_n 1, 1) := by decide +kernel
theorem dX6_climber_5 : decode cX6_climber 5 = .ok (.invokevirtual 82, 3) := by decide +kernel
theorem dX6_climber_8 : decode cX6_climber 8 = .ok (.ifCond .ne 5, 3) := by decide +kernel
theorem dX6_climber_11 : decode cX6_climber 11 = .ok (.iconst (-1), 1) := by decide +kernel
theorem dX6_climber_12 : decode cX6_climber 12 = .ok (.ireturn, 1) := by decide +kernel
theorem dX6_climber_13 : decode cX6_climber 13 = .ok (.iload_n 2, 1) := by decide +kernel
theorem dX6_climber_14 : decode cX6_climber 14 = .ok (.tableswitch 118 0 6 #[42, 55, 68, 81, 91, 100, 109], 42) := by decide +kernel
theorem dX6_climber_56 : decode cX6_climber 56 = .ok (.aload_n 0, 1) := by decide +kernel
theorem dX6_climber_57 : decode cX6_climber 57 = .ok (.getfield 10, 3) := by decide +kernel
theorem dX6_climber_60 : decode cX6_climber 60 = .ok (.getfield 96, 3) := by decide +kernel
theorem dX6_climber_63 : decode cX6_climber 63 = .ok (.iload_n 1, 1) := by decide +kernel
theorem dX6_climber_64 : decode cX6_climber 64 = .ok (.aaload, 1) := by decide +kernel
theorem dX6_climber_65 : decode cX6_climber 65 = .ok (.getfield 211, 3) := by decide +kernel
theorem dX6_climber_68 : decode cX6_climber 68 = .ok (.ireturn, 1) := by decide +kernel
theorem dX6_climber_69 : decode cX6_climber 69 = .ok (.aload_n 0, 1) := by decide +kernel
theorem dX6_climber_70 : decode cX6_climber 70 = .ok (.getfield 10, 3) := by decide +kernel
theorem dX6_climber_73 : decode cX6_climber 73 = .ok (.getfield 96, 3) := by decide +kernel
theorem dX6_climber_76 : decode cX6_climber 76 = .ok (.iload_n 1, 1) := by decide +kernel
theorem dX6_climber_77 : decode cX6_climber 77 = .ok (.aaload, 1) := by decide +kernel
theorem dX6_climber_78 : decode cX6_climber 78 = .ok (.getfield 214, 3) := by decide +kernel
theorem dX6_climber_81 : decode cX6_climber 81 = .ok (.ireturn, 1) := by decide +kernel
theorem dX6_climber_82 : decode cX6_climber 82 = .ok (.aload_n 0, 1) := by decide +kernel
theorem dX6_climber_83 : decode cX6_climber 83 = .ok (.getfield 10, 3) := by decide +kernel
theorem dX6_climber_86 : decode cX6_climber 86 = .ok (.getfield 96, 3) := by decide +kernel
theorem dX6_climber_89 : decode cX6_climber 89 = .ok (.iload_n 1, 1) := by decide +kernel
theorem dX6_climber_90 : decode cX6_climber 90 = .ok (.aaload, 1) := by decide +kernel
theorem dX6_climber_91 : decode cX6_climber 91 = .ok (.getfield 217, 3) := by decide +kernel
theorem dX6_climber_94 : decode cX6_climber 94 = .ok (.ireturn, 1) := by decide +kernel
theorem dX6_climber_95 : decode cX6_climber 95 = .ok (.aload_n 0, 1) := by decide +kernel
theorem dX6_climber_96 : decode cX6_climber 96 = .ok (.getfield 10, 3) := by decide +kernel
theorem dX6_climber_99 : decode cX6_climber 99 = .ok (.iload_n 1, 1) := by decide +kernel
theorem dX6_climber_100 : decode cX6_climber 100 = .ok (.iconst 1, 1) := by decide +kernel
theorem dX6_climber_101 : decode cX6_climber 101 = .ok (.invokevirtual 220, 3) := by decide +kernel
theorem dX6_climber_104 : decode cX6_climber 104 = .ok (.ireturn, 1) := by decide +kernel
theorem dX6_climber_105 : decode cX6_climber 105 = .ok (.aload_n 0, 1) := by decide +kernel
theorem dX6_climber_106 : decode cX6_climber 106 = .ok (.getfield 10, 3) := by decide +kernel
theorem dX6_climber_109 : decode cX6_climber 109 = .ok (.iload_n 1, 1) := by decide +kernel
theorem dX6_climber_110 : decode cX6_climber 110 = .ok (.invokevirtual 223, 3) := by decide +kernel
theorem dX6_climber_113 : decode cX6_climber 113 = .ok (.ireturn, 1) := by decide +kernel
theorem dX6_climber_114 : decode cX6_climber 114 = .ok (.aload_n 0, 1) := by decide +kernel
theorem dX6_climber_115 : decode cX6_climber 115 = .ok (.getfield 10, 3) := by decide +kernel
theorem dX6_climber_118 : decode cX6_climber 118 = .ok (.iload_n 1, 1) := by decide +kernel
theorem dX6_climber_119 : decode cX6_climber 119 = .ok (.invokevirtual 226, 3) := by decide +kernel
theorem dX6_climber_122 : decode cX6_climber 122 = .ok (.ireturn, 1) := by decide +kernel
theorem dX6_climber_123 : decode cX6_climber 123 = .ok (.aload_n 0, 1) := by decide +kernel
theorem dX6_climber_124 : decode cX6_climber 124 = .ok (.getfield 10, 3) := by decide +kernel
theorem dX6_climber_127 : decode cX6_climber 127 = .ok (.iload_n 1, 1) := by decide +kernel
theorem dX6_climber_128 : decode cX6_climber 128 = .ok (.invokevirtual 229, 3) := by decide +kernel
theorem dX6_climber_131 : decode cX6_climber 131 = .ok (.ireturn, 1) := by decide +kernel
theorem dX6_climber_132 : decode cX6_climber 132 = .ok (.bipush (-2), 2) := by decide +kernel
theorem dX6_climber_134 : decode cX6_climber 134 = .ok (.ireturn, 1) := by decide +kernel
set_option maxRecDepth 20000 in
theorem ggX6_application_X3_hasApplication : GoodIn wsX6_application wsX3_hasApplication := goodIn_r _ [16, 17, 31, 32, 33, 34, 35, 36, 37, 38, 39] rfl (by decide +kernel)
set_option maxRecDepth 20000 in
theorem gX6_application_X3_hasApplication : GoodIn wsX6_application (wsV RX6 134 RX3 yX3_hasApplication wsX3_hasApplication) := goodIn_app (goodIn_of _ (by decide +kernel)) ggX6_application_X3_hasApplication
set_option maxRecDepth 20000 in
theorem ggX6_application_X3_ticketsOf : GoodIn wsX6_application wsX3_ticketsOf := goodIn_r _ [21, 22, 23, 24, 25, 31, 32, 33, 34, 35, 36, 37, 38, 39, 40, 41, 42, 43, 44, 45, 46, 47, 48, 49, 50, 51] rfl (by decide +kernel)
set_option maxRecDepth 20000 in
theorem gX6_application_X3_ticketsOf : GoodIn wsX6_application (wsV RX6 238 RX3 yX3_ticketsOf wsX3_ticketsOf) := goodIn_app (goodIn_of _ (by decide +kernel)) ggX6_application_X3_ticketsOf
theorem dX6_application_0 : decode cX6_application 0 = .ok (.aload_n 0, 1) := by decide +kernel
theorem dX6_application_1 : decode cX6_application 1 = .ok (.getfield 10, 3) := by decide +kernel
theorem dX6_application_4 : decode cX6_application 4 = .ok (.iload_n 1, 1) := by decide +kernel
theorem dX6_application_5 : decode cX6_application 5 = .ok (.invokevirtual 134, 3) := by decide +kernel
theorem dX6_application_8 : decode cX6_application 8 = .ok (.ifCond .ne 5, 3) := by decide +kernel
theorem dX6_application_11 : decode cX6_application 11 = .ok (.iconst (-1), 1) := by decide +kernel
theorem dX6_application_12 : decode cX6_application 12 = .ok (.ireturn, 1) := by decide +kernel
theorem dX6_application_13 : decode cX6_application 13 = .ok (.aload_n 0, 1) := by decide +kernel
theorem dX6_application_14 : decode cX6_application 14 = .ok (.getfield 10, 3) := by decide +kernel
theorem dX6_application_17 : decode cX6_application 17 = .ok (.getfield 137, 3) := by decide +kernel
theorem dX6_application_20 : decode cX6_application 20 = .ok (.iload_n 1, 1) := by decide +kernel
theorem dX6_application_21 : decode cX6_application 21 = .ok (.aaload, 1) := by decide +kernel
theorem dX6_application_22 : decode cX6_application 22 = .ok (.astore_n 3, 1) := by decide +kernel
theorem dX6_application_23 : decode cX6_application 23 = .ok (.iload_n 2, 1) := by decide +kernel
theorem dX6_application_24 : decode cX6_application 24 = .ok (.tableswitch 118 0 9 #[56, 61, 66, 71, 76, 81, 86, 91, 104, 109], 56) := by decide +kernel
theorem dX6_application_80 : decode cX6_application 80 = .ok (.aload_n 3, 1) := by decide +kernel
theorem dX6_application_81 : decode cX6_application 81 = .ok (.getfield 232, 3) := by decide +kernel
theorem dX6_application_84 : decode cX6_application 84 = .ok (.ireturn, 1) := by decide +kernel
theorem dX6_application_85 : decode cX6_application 85 = .ok (.aload_n 3, 1) := by decide +kernel
theorem dX6_application_86 : decode cX6_application 86 = .ok (.getfield 157, 3) := by decide +kernel
theorem dX6_application_89 : decode cX6_application 89 = .ok (.ireturn, 1) := by decide +kernel
theorem dX6_application_90 : decode cX6_application 90 = .ok (.aload_n 3, 1) := by decide +kernel
theorem dX6_application_91 : decode cX6_application 91 = .ok (.getfield 160, 3) := by decide +kernel
theorem dX6_application_94 : decode cX6_application 94 = .ok (.ireturn, 1) := by decide +kernel
theorem dX6_application_95 : decode cX6_application 95 = .ok (.aload_n 3, 1) := by decide +kernel
theorem dX6_application_96 : decode cX6_application 96 = .ok (.getfield 183, 3) := by decide +kernel
theorem dX6_application_99 : decode cX6_application 99 = .ok (.ireturn, 1) := by decide +kernel
theorem dX6_application_100 : decode cX6_application 100 = .ok (.aload_n 3, 1) := by decide +kernel
theorem dX6_application_101 : decode cX6_application 101 = .ok (.getfield 147, 3) := by decide +kernel
theorem dX6_application_104 : decode cX6_application 104 = .ok (.ireturn, 1) := by decide +kernel
theorem dX6_application_105 : decode cX6_application 105 = .ok (.aload_n 3, 1) := by decide +kernel
theorem dX6_application_106 : decode cX6_application 106 = .ok (.getfield 193, 3) := by decide +kernel
theorem dX6_application_109 : decode cX6_application 109 = .ok (.ireturn, 1) := by decide +kernel
theorem dX6_application_110 : decode cX6_application 110 = .ok (.aload_n 3, 1) := by decide +kernel
theorem dX6_application_111 : decode cX6_application 111 = .ok (.getfield 154, 3) := by decide +kernel
theorem dX6_application_114 : decode cX6_application 114 = .ok (.ireturn, 1) := by decide +kernel
theorem dX6_application_115 : decode cX6_application 115 = .ok (.aload_n 3, 1) := by decide +kernel
theorem dX6_application_116 : decode cX6_application 116 = .ok (.getfield 196, 3) := by decide +kernel
theorem dX6_application_119 : decode cX6_application 119 = .ok (.ifCond .eq 7, 3) := by decide +kernel
theorem dX6_application_122 : decode cX6_application 122 = .ok (.iconst 1, 1) := by decide +kernel
theorem dX6_application_123 : decode cX6_application 123 = .ok (.goto 4, 3) := by decide +kernel
theorem dX6_application_126 : decode cX6_application 126 = .ok (.iconst 0, 1) := by decide +kernel
theorem dX6_application_127 : decode cX6_application 127 = .ok (.ireturn, 1) := by decide +kernel
theorem dX6_application_128 : decode cX6_application 128 = .ok (.aload_n 3, 1) := by decide +kernel
theorem dX6_application_129 : decode cX6_application 129 = .ok (.getfield 235, 3) := by decide +kernel
theorem dX6_application_132 : decode cX6_application 132 = .ok (.ireturn, 1) := by decide +kernel
theorem dX6_application_133 : decode cX6_application 133 = .ok (.aload_n 0, 1) := by decide +kernel
theorem dX6_application_134 : decode cX6_application 134 = .ok (.getfield 10, 3) := by decide +kernel
theorem dX6_application_137 : decode cX6_application 137 = .ok (.aload_n 3, 1) := by decide +kernel
theorem dX6_application_138 : decode cX6_application 138 = .ok (.invokevirtual 238, 3) := by decide +kernel
theorem dX6_application_141 : decode cX6_application 141 = .ok (.ireturn, 1) := by decide +kernel
theorem dX6_application_142 : decode cX6_application 142 = .ok (.bipush (-2), 2) := by decide +kernel
theorem dX6_application_144 : decode cX6_application 144 = .ok (.ireturn, 1) := by decide +kernel
set_option maxRecDepth 20000 in
theorem ggX6_count_X3_countIn : GoodIn wsX6_count wsX3_countIn := goodIn_r _ [13, 14, 15, 16, 17, 18, 19, 20, 21, 22, 43, 44, 45, 46, 47, 48, 49, 50, 51, 59, 60, 61, 62, 63, 64, 65, 66, 67] rfl (by decide +kernel)
set_option maxRecDepth 20000 in
theorem gX6_count_X3_countIn : GoodIn wsX6_count (wsV RX6 220 RX3 yX3_countIn wsX3_countIn) := goodIn_app (goodIn_of _ (by decide +kernel)) ggX6_count_X3_countIn
set_option maxRecDepth 20000 in
theorem ggX6_count_X3_paidBy : GoodIn wsX6_count wsX3_paidBy := goodIn_r _ [26, 14, 15, 27, 17, 18, 19, 20, 21, 22, 43, 44, 45, 46, 47, 48, 49, 50, 51, 59, 60, 61, 62, 63, 64, 65, 66, 67] rfl (by decide +kernel)
set_option maxRecDepth 20000 in
theorem gX6_count_X3_paidBy : GoodIn wsX6_count (wsV RX6 223 RX3 yX3_paidBy wsX3_paidBy) := goodIn_app (goodIn_of _ (by decide +kernel)) ggX6_count_X3_paidBy
set_option maxRecDepth 20000 in
theorem ggX6_count_X3_refundedTo : GoodIn wsX6_count wsX3_refundedTo := goodIn_r _ [31, 14, 15, 32, 17, 18, 19, 20, 21, 22, 43, 44, 45, 46, 47, 48, 49, 50, 51, 59, 60, 61, 62, 63, 64, 65, 66, 67] rfl (by decide +kernel)
set_option maxRecDepth 20000 in
theorem gX6_count_X3_refundedTo : GoodIn wsX6_count (wsV RX6 226 RX3 yX3_refundedTo wsX3_refundedTo) := goodIn_app (goodIn_of _ (by decide +kernel)) ggX6_count_X3_refundedTo
set_option maxRecDepth 20000 in
theorem ggX6_count_X3_closedDays : GoodIn wsX6_count wsX3_closedDays := goodIn_r _ [36, 37, 43, 44, 45, 46, 47, 48, 49, 50, 51] rfl (by decide +kernel)
set_option maxRecDepth 20000 in
theorem gX6_count_X3_closedDays : GoodIn wsX6_count (wsV RX6 241 RX3 yX3_closedDays wsX3_closedDays) := goodIn_app (goodIn_of _ (by decide +kernel)) ggX6_count_X3_closedDays
theorem dX6_count_0 : decode cX6_count 0 = .ok (.iload_n 1, 1) := by decide +kernel
theorem dX6_count_1 : decode cX6_count 1 = .ok (.iconst 4, 1) := by decide +kernel
theorem dX6_count_2 : decode cX6_count 2 = .ok (.if_icmp .lt 23, 3) := by decide +kernel
theorem dX6_count_5 : decode cX6_count 5 = .ok (.iload_n 1, 1) := by decide +kernel
theorem dX6_count_6 : decode cX6_count 6 = .ok (.bipush 10, 2) := by decide +kernel
theorem dX6_count_8 : decode cX6_count 8 = .ok (.if_icmp .gt 17, 3) := by decide +kernel
theorem dX6_count_11 : decode cX6_count 11 = .ok (.aload_n 0, 1) := by decide +kernel
theorem dX6_count_12 : decode cX6_count 12 = .ok (.getfield 10, 3) := by decide +kernel
theorem dX6_count_15 : decode cX6_count 15 = .ok (.iconst (-1), 1) := by decide +kernel
theorem dX6_count_16 : decode cX6_count 16 = .ok (.iconst 0, 1) := by decide +kernel
theorem dX6_count_17 : decode cX6_count 17 = .ok (.iload_n 1, 1) := by decide +kernel
theorem dX6_count_18 : decode cX6_count 18 = .ok (.iadd, 1) := by decide +kernel
theorem dX6_count_19 : decode cX6_count 19 = .ok (.iconst 4, 1) := by decide +kernel
theorem dX6_count_20 : decode cX6_count 20 = .ok (.isub, 1) := by decide +kernel
theorem dX6_count_21 : decode cX6_count 21 = .ok (.invokevirtual 220, 3) := by decide +kernel
theorem dX6_count_24 : decode cX6_count 24 = .ok (.ireturn, 1) := by decide +kernel
theorem dX6_count_25 : decode cX6_count 25 = .ok (.iload_n 1, 1) := by decide +kernel
theorem dX6_count_26 : decode cX6_count 26 = .ok (.bipush 15, 2) := by decide +kernel
theorem dX6_count_28 : decode cX6_count 28 = .ok (.if_icmp .lt 24, 3) := by decide +kernel
theorem dX6_count_31 : decode cX6_count 31 = .ok (.iload_n 1, 1) := by decide +kernel
theorem dX6_count_32 : decode cX6_count 32 = .ok (.bipush 20, 2) := by decide +kernel
theorem dX6_count_34 : decode cX6_count 34 = .ok (.if_icmp .gt 18, 3) := by decide +kernel
theorem dX6_count_37 : decode cX6_count 37 = .ok (.aload_n 0, 1) := by decide +kernel
theorem dX6_count_38 : decode cX6_count 38 = .ok (.getfield 10, 3) := by decide +kernel
theorem dX6_count_41 : decode cX6_count 41 = .ok (.getfield 79, 3) := by decide +kernel
theorem dX6_count_44 : decode cX6_count 44 = .ok (.iconst 0, 1) := by decide +kernel
theorem dX6_count_45 : decode cX6_count 45 = .ok (.iload_n 1, 1) := by decide +kernel
theorem dX6_count_46 : decode cX6_count 46 = .ok (.iadd, 1) := by decide +kernel
theorem dX6_count_47 : decode cX6_count 47 = .ok (.bipush 15, 2) := by decide +kernel
theorem dX6_count_49 : decode cX6_count 49 = .ok (.isub, 1) := by decide +kernel
theorem dX6_count_50 : decode cX6_count 50 = .ok (.iaload, 1) := by decide +kernel
theorem dX6_count_51 : decode cX6_count 51 = .ok (.ireturn, 1) := by decide +kernel
theorem dX6_count_52 : decode cX6_count 52 = .ok (.iload_n 1, 1) := by decide +kernel
theorem dX6_count_53 : decode cX6_count 53 = .ok (.tableswitch 141 0 14 #[75, 83, 91, 99, 141, 141, 141, 141, 141, 141, 141, 107, 116, 125, 133], 75) := by decide +kernel
theorem dX6_count_128 : decode cX6_count 128 = .ok (.aload_n 0, 1) := by decide +kernel
theorem dX6_count_129 : decode cX6_count 129 = .ok (.getfield 10, 3) := by decide +kernel
theorem dX6_count_132 : decode cX6_count 132 = .ok (.getfield 176, 3) := by decide +kernel
theorem dX6_count_135 : decode cX6_count 135 = .ok (.ireturn, 1) := by decide +kernel
theorem dX6_count_136 : decode cX6_count 136 = .ok (.aload_n 0, 1) := by decide +kernel
theorem dX6_count_137 : decode cX6_count 137 = .ok (.getfield 10, 3) := by decide +kernel
theorem dX6_count_140 : decode cX6_count 140 = .ok (.getfield 38, 3) := by decide +kernel
theorem dX6_count_143 : decode cX6_count 143 = .ok (.ireturn, 1) := by decide +kernel
theorem dX6_count_144 : decode cX6_count 144 = .ok (.aload_n 0, 1) := by decide +kernel
theorem dX6_count_145 : decode cX6_count 145 = .ok (.getfield 10, 3) := by decide +kernel
theorem dX6_count_148 : decode cX6_count 148 = .ok (.getfield 62, 3) := by decide +kernel
theorem dX6_count_151 : decode cX6_count 151 = .ok (.ireturn, 1) := by decide +kernel
theorem dX6_count_152 : decode cX6_count 152 = .ok (.aload_n 0, 1) := by decide +kernel
theorem dX6_count_153 : decode cX6_count 153 = .ok (.getfield 10, 3) := by decide +kernel
theorem dX6_count_156 : decode cX6_count 156 = .ok (.getfield 105, 3) := by decide +kernel
theorem dX6_count_159 : decode cX6_count 159 = .ok (.ireturn, 1) := by decide +kernel
theorem dX6_count_160 : decode cX6_count 160 = .ok (.aload_n 0, 1) := by decide +kernel
theorem dX6_count_161 : decode cX6_count 161 = .ok (.getfield 10, 3) := by decide +kernel
theorem dX6_count_164 : decode cX6_count 164 = .ok (.iconst (-1), 1) := by decide +kernel
theorem dX6_count_165 : decode cX6_count 165 = .ok (.invokevirtual 223, 3) := by decide +kernel
theorem dX6_count_168 : decode cX6_count 168 = .ok (.ireturn, 1) := by decide +kernel
theorem dX6_count_169 : decode cX6_count 169 = .ok (.aload_n 0, 1) := by decide +kernel
theorem dX6_count_170 : decode cX6_count 170 = .ok (.getfield 10, 3) := by decide +kernel
theorem dX6_count_173 : decode cX6_count 173 = .ok (.iconst (-1), 1) := by decide +kernel
theorem dX6_count_174 : decode cX6_count 174 = .ok (.invokevirtual 226, 3) := by decide +kernel
theorem dX6_count_177 : decode cX6_count 177 = .ok (.ireturn, 1) := by decide +kernel
theorem dX6_count_178 : decode cX6_count 178 = .ok (.aload_n 0, 1) := by decide +kernel
theorem dX6_count_179 : decode cX6_count 179 = .ok (.getfield 10, 3) := by decide +kernel
theorem dX6_count_182 : decode cX6_count 182 = .ok (.invokevirtual 241, 3) := by decide +kernel
theorem dX6_count_185 : decode cX6_count 185 = .ok (.ireturn, 1) := by decide +kernel
theorem dX6_count_186 : decode cX6_count 186 = .ok (.aload_n 0, 1) := by decide +kernel
theorem dX6_count_187 : decode cX6_count 187 = .ok (.getfield 34, 3) := by decide +kernel
theorem dX6_count_190 : decode cX6_count 190 = .ok (.getfield 244, 3) := by decide +kernel
theorem dX6_count_193 : decode cX6_count 193 = .ok (.ireturn, 1) := by decide +kernel
theorem dX6_count_194 : decode cX6_count 194 = .ok (.bipush (-2), 2) := by decide +kernel
theorem dX6_count_196 : decode cX6_count 196 = .ok (.ireturn, 1) := by decide +kernel
set_option maxRecDepth 20000 in
theorem ggX6_nextWaiting_X3_hasRouteAndDay : GoodIn wsX6_nextWaiting wsX3_hasRouteAndDay := goodIn_r _ [6, 7, 8, 9, 5, 10, 11, 12, 13, 14, 75, 76, 77, 78, 79, 80, 81, 82, 83] rfl (by decide +kernel)
set_option maxRecDepth 20000 in
theorem gX6_nextWaiting_X3_hasRouteAndDay : GoodIn wsX6_nextWaiting (wsV RX6 85 RX3 yX3_hasRouteAndDay wsX3_hasRouteAndDay) := goodIn_app (goodIn_of _ (by decide +kernel)) ggX6_nextWaiting_X3_hasRouteAndDay
set_option maxRecDepth 20000 in
theorem ggX6_nextWaiting_X3_isOpen : GoodIn wsX6_nextWaiting wsX3_isOpen := goodIn_r _ [18, 19, 20, 12, 13, 14, 75, 76, 77, 78, 79, 80, 81, 82, 83] rfl (by decide +kernel)
set_option maxRecDepth 20000 in
theorem gX6_nextWaiting_X3_isOpen : GoodIn wsX6_nextWaiting (wsV RX6 89 RX3 yX3_isOpen wsX3_isOpen) := goodIn_app (goodIn_of _ (by decide +kernel)) ggX6_nextWaiting_X3_isOpen
set_option maxRecDepth 20000 in
theorem ggX6_nextWaiting_X3_placesForLottery : GoodIn wsX6_nextWaiting wsX3_placesForLottery := goodIn_r _ [24, 25, 26, 27, 28, 29, 5, 30, 31, 32, 33, 34, 35, 36, 37, 38, 39, 40, 41, 42, 43, 44, 45, 46, 47, 48, 49, 50, 75, 76, 77, 78, 79, 80, 81, 82, 83, 84, 85, 86, 87, 88, 89, 90, 91, 92, 93, 94] rfl (by decide +kernel)
set_option maxRecDepth 20000 in
theorem gX6_nextWaiting_X3_placesForLottery : GoodIn wsX6_nextWaiting (wsV RX6 120 RX3 yX3_placesForLottery wsX3_placesForLottery) := goodIn_app (goodIn_of _ (by decide +kernel)) ggX6_nextWaiting_X3_placesForLottery
set_option maxRecDepth 20000 in
theorem ggX6_nextWaiting_X3_firstWaiting : GoodIn wsX6_nextWaiting wsX3_firstWaiting := goodIn_r _ [54, 36, 37, 55, 38, 56, 57, 58, 45, 46, 47, 42, 48, 49, 50, 59, 60, 61, 5, 62, 63, 64, 65, 66, 67, 68, 69, 75, 76, 77, 78, 79, 80, 81, 82, 83, 86, 87, 88, 89, 90, 91, 92, 93, 94, 95, 96, 97] rfl (by decide +kernel)
set_option maxRecDepth 20000 in
theorem gX6_nextWaiting_X3_firstWaiting : GoodIn wsX6_nextWaiting (wsV RX6 247 RX3 yX3_firstWaiting wsX3_firstWaiting) := goodIn_app (goodIn_of _ (by decide +kernel)) ggX6_nextWaiting_X3_firstWaiting
theorem dX6_nextWaiting_0 : decode cX6_nextWaiting 0 = .ok (.aload_n 0, 1) := by decide +kernel
theorem dX6_nextWaiting_1 : decode cX6_nextWaiting 1 = .ok (.getfield 10, 3) := by decide +kernel
theorem dX6_nextWaiting_4 : decode cX6_nextWaiting 4 = .ok (.iload_n 1, 1) := by decide +kernel
theorem dX6_nextWaiting_5 : decode cX6_nextWaiting 5 = .ok (.iload_n 2, 1) := by decide +kernel
theorem dX6_nextWaiting_6 : decode cX6_nextWaiting 6 = .ok (.invokevirtual 85, 3) := by decide +kernel
theorem dX6_nextWaiting_9 : decode cX6_nextWaiting 9 = .ok (.ifCond .ne 5, 3) := by decide +kernel
theorem dX6_nextWaiting_12 : decode cX6_nextWaiting 12 = .ok (.iconst (-1), 1) := by decide +kernel
theorem dX6_nextWaiting_13 : decode cX6_nextWaiting 13 = .ok (.ireturn, 1) := by decide +kernel
theorem dX6_nextWaiting_14 : decode cX6_nextWaiting 14 = .ok (.aload_n 0, 1) := by decide +kernel
theorem dX6_nextWaiting_15 : decode cX6_nextWaiting 15 = .ok (.getfield 10, 3) := by decide +kernel
theorem dX6_nextWaiting_18 : decode cX6_nextWaiting 18 = .ok (.iload_n 2, 1) := by decide +kernel
theorem dX6_nextWaiting_19 : decode cX6_nextWaiting 19 = .ok (.invokevirtual 89, 3) := by decide +kernel
theorem dX6_nextWaiting_22 : decode cX6_nextWaiting 22 = .ok (.ifCond .ne 6, 3) := by decide +kernel
theorem dX6_nextWaiting_25 : decode cX6_nextWaiting 25 = .ok (.bipush (-6), 2) := by decide +kernel
theorem dX6_nextWaiting_27 : decode cX6_nextWaiting 27 = .ok (.ireturn, 1) := by decide +kernel
theorem dX6_nextWaiting_28 : decode cX6_nextWaiting 28 = .ok (.aload_n 0, 1) := by decide +kernel
theorem dX6_nextWaiting_29 : decode cX6_nextWaiting 29 = .ok (.getfield 10, 3) := by decide +kernel
theorem dX6_nextWaiting_32 : decode cX6_nextWaiting 32 = .ok (.iload_n 1, 1) := by decide +kernel
theorem dX6_nextWaiting_33 : decode cX6_nextWaiting 33 = .ok (.iload_n 2, 1) := by decide +kernel
theorem dX6_nextWaiting_34 : decode cX6_nextWaiting 34 = .ok (.aload_n 0, 1) := by decide +kernel
theorem dX6_nextWaiting_35 : decode cX6_nextWaiting 35 = .ok (.getfield 10, 3) := by decide +kernel
theorem dX6_nextWaiting_38 : decode cX6_nextWaiting 38 = .ok (.iload_n 1, 1) := by decide +kernel
theorem dX6_nextWaiting_39 : decode cX6_nextWaiting 39 = .ok (.iload_n 2, 1) := by decide +kernel
theorem dX6_nextWaiting_40 : decode cX6_nextWaiting 40 = .ok (.invokevirtual 120, 3) := by decide +kernel
theorem dX6_nextWaiting_43 : decode cX6_nextWaiting 43 = .ok (.iconst 1, 1) := by decide +kernel
theorem dX6_nextWaiting_44 : decode cX6_nextWaiting 44 = .ok (.iadd, 1) := by decide +kernel
theorem dX6_nextWaiting_45 : decode cX6_nextWaiting 45 = .ok (.invokevirtual 247, 3) := by decide +kernel
theorem dX6_nextWaiting_48 : decode cX6_nextWaiting 48 = .ok (.ireturn, 1) := by decide +kernel
set_option maxRecDepth 20000 in
theorem ggX6_odds_X3_hasApplication : GoodIn wsX6_odds wsX3_hasApplication := goodIn_r _ [13, 14, 64, 65, 66, 67, 68, 69, 70, 71, 72] rfl (by decide +kernel)
set_option maxRecDepth 20000 in
theorem gX6_odds_X3_hasApplication : GoodIn wsX6_odds (wsV RX6 134 RX3 yX3_hasApplication wsX3_hasApplication) := goodIn_app (goodIn_of _ (by decide +kernel)) ggX6_odds_X3_hasApplication
set_option maxRecDepth 20000 in
theorem ggX6_odds_X2_enterAll : GoodIn wsX6_odds wsX2_enterAll := goodIn_r _ [19, 20, 21, 22, 23, 24, 25, 26, 27, 28, 29, 30, 31, 32, 33, 34, 35, 36, 37, 38, 12, 39, 40, 41, 42, 43, 44, 45, 46, 47, 48, 49, 50, 51, 52, 53, 54, 82, 83, 84, 85, 86, 87, 88, 64, 65, 66, 67, 68, 69, 70, 71, 72, 73, 74, 75, 76, 77, 78, 79, 80, 81, 89, 90, 91] rfl (by decide +kernel)
set_option maxRecDepth 20000 in
theorem gX6_odds_X2_enterAll : GoodIn wsX6_odds (wsV RX6 116 RX2 yX2_enterAll wsX2_enterAll) := goodIn_app (goodIn_of _ (by decide +kernel)) ggX6_odds_X2_enterAll
set_option maxRecDepth 20000 in
theorem ggX6_odds_X2_entryOf : GoodIn wsX6_odds wsX2_entryOf := goodIn_r _ [58, 20, 25, 82, 83, 84, 85, 86, 87, 88] rfl (by decide +kernel)
set_option maxRecDepth 20000 in
theorem gX6_odds_X2_entryOf : GoodIn wsX6_odds (wsV RX6 250 RX2 yX2_entryOf wsX2_entryOf) := goodIn_app (goodIn_of _ (by decide +kernel)) ggX6_odds_X2_entryOf
theorem dX6_odds_0 : decode cX6_odds 0 = .ok (.aload_n 0, 1) := by decide +kernel
theorem dX6_odds_1 : decode cX6_odds 1 = .ok (.getfield 10, 3) := by decide +kernel
theorem dX6_odds_4 : decode cX6_odds 4 = .ok (.iload_n 1, 1) := by decide +kernel
theorem dX6_odds_5 : decode cX6_odds 5 = .ok (.invokevirtual 134, 3) := by decide +kernel
theorem dX6_odds_8 : decode cX6_odds 8 = .ok (.ifCond .ne 5, 3) := by decide +kernel
theorem dX6_odds_11 : decode cX6_odds 11 = .ok (.iconst (-1), 1) := by decide +kernel
theorem dX6_odds_12 : decode cX6_odds 12 = .ok (.ireturn, 1) := by decide +kernel
theorem dX6_odds_13 : decode cX6_odds 13 = .ok (.aload_n 0, 1) := by decide +kernel
theorem dX6_odds_14 : decode cX6_odds 14 = .ok (.getfield 10, 3) := by decide +kernel
theorem dX6_odds_17 : decode cX6_odds 17 = .ok (.getfield 137, 3) := by decide +kernel
theorem dX6_odds_20 : decode cX6_odds 20 = .ok (.iload_n 1, 1) := by decide +kernel
theorem dX6_odds_21 : decode cX6_odds 21 = .ok (.aaload, 1) := by decide +kernel
theorem dX6_odds_22 : decode cX6_odds 22 = .ok (.astore_n 2, 1) := by decide +kernel
theorem dX6_odds_23 : decode cX6_odds 23 = .ok (.aload_n 0, 1) := by decide +kernel
theorem dX6_odds_24 : decode cX6_odds 24 = .ok (.getfield 27, 3) := by decide +kernel
theorem dX6_odds_27 : decode cX6_odds 27 = .ok (.aload_n 0, 1) := by decide +kernel
theorem dX6_odds_28 : decode cX6_odds 28 = .ok (.getfield 10, 3) := by decide +kernel
theorem dX6_odds_31 : decode cX6_odds 31 = .ok (.aload_n 2, 1) := by decide +kernel
theorem dX6_odds_32 : decode cX6_odds 32 = .ok (.getfield 157, 3) := by decide +kernel
theorem dX6_odds_35 : decode cX6_odds 35 = .ok (.aload_n 2, 1) := by decide +kernel
theorem dX6_odds_36 : decode cX6_odds 36 = .ok (.getfield 160, 3) := by decide +kernel
theorem dX6_odds_39 : decode cX6_odds 39 = .ok (.invokevirtual 116, 3) := by decide +kernel
theorem dX6_odds_42 : decode cX6_odds 42 = .ok (.aload_n 0, 1) := by decide +kernel
theorem dX6_odds_43 : decode cX6_odds 43 = .ok (.getfield 27, 3) := by decide +kernel
theorem dX6_odds_46 : decode cX6_odds 46 = .ok (.iload_n 1, 1) := by decide +kernel
theorem dX6_odds_47 : decode cX6_odds 47 = .ok (.invokevirtual 250, 3) := by decide +kernel
theorem dX6_odds_50 : decode cX6_odds 50 = .ok (.istore_n 3, 1) := by decide +kernel
theorem dX6_odds_51 : decode cX6_odds 51 = .ok (.iload_n 3, 1) := by decide +kernel
theorem dX6_odds_52 : decode cX6_odds 52 = .ok (.ifCond .lt 13, 3) := by decide +kernel
theorem dX6_odds_55 : decode cX6_odds 55 = .ok (.aload_n 0, 1) := by decide +kernel
theorem dX6_odds_56 : decode cX6_odds 56 = .ok (.getfield 27, 3) := by decide +kernel
theorem dX6_odds_59 : decode cX6_odds 59 = .ok (.getfield 253, 3) := by decide +kernel
theorem dX6_odds_62 : decode cX6_odds 62 = .ok (.ifCond .gt 6, 3) := by decide +kernel
theorem dX6_odds_65 : decode cX6_odds 65 = .ok (.bipush (-5), 2) := by decide +kernel
theorem dX6_odds_67 : decode cX6_odds 67 = .ok (.ireturn, 1) := by decide +kernel
theorem dX6_odds_68 : decode cX6_odds 68 = .ok (.ldc2_w 256, 3) := by decide +kernel
theorem dX6_odds_71 : decode cX6_odds 71 = .ok (.aload_n 0, 1) := by decide +kernel
theorem dX6_odds_72 : decode cX6_odds 72 = .ok (.getfield 27, 3) := by decide +kernel
theorem dX6_odds_75 : decode cX6_odds 75 = .ok (.getfield 258, 3) := by decide +kernel
theorem dX6_odds_78 : decode cX6_odds 78 = .ok (.iload_n 3, 1) := by decide +kernel
theorem dX6_odds_79 : decode cX6_odds 79 = .ok (.iaload, 1) := by decide +kernel
theorem dX6_odds_80 : decode cX6_odds 80 = .ok (.i2l, 1) := by decide +kernel
theorem dX6_odds_81 : decode cX6_odds 81 = .ok (.lmul, 1) := by decide +kernel
theorem dX6_odds_82 : decode cX6_odds 82 = .ok (.aload_n 0, 1) := by decide +kernel
theorem dX6_odds_83 : decode cX6_odds 83 = .ok (.getfield 27, 3) := by decide +kernel
theorem dX6_odds_86 : decode cX6_odds 86 = .ok (.getfield 253, 3) := by decide +kernel
theorem dX6_odds_89 : decode cX6_odds 89 = .ok (.i2l, 1) := by decide +kernel
theorem dX6_odds_90 : decode cX6_odds 90 = .ok (.ldiv, 1) := by decide +kernel
theorem dX6_odds_91 : decode cX6_odds 91 = .ok (.l2i, 1) := by decide +kernel
theorem dX6_odds_92 : decode cX6_odds 92 = .ok (.ireturn, 1) := by decide +kernel
set_option maxRecDepth 20000 in
theorem ggX6_tries_X3_hasApplication : GoodIn wsX6_tries wsX3_hasApplication := goodIn_r _ [13, 14, 111, 112, 113, 114, 115, 116, 117, 118, 119] rfl (by decide +kernel)
set_option maxRecDepth 20000 in
theorem gX6_tries_X3_hasApplication : GoodIn wsX6_tries (wsV RX6 134 RX3 yX3_hasApplication wsX3_hasApplication) := goodIn_app (goodIn_of _ (by decide +kernel)) ggX6_tries_X3_hasApplication
set_option maxRecDepth 20000 in
theorem ggX6_tries_X3_isOpen : GoodIn wsX6_tries wsX3_isOpen := goodIn_r _ [18, 19, 20, 21, 22, 23, 111, 112, 113, 114, 115, 116, 117, 118, 119] rfl (by decide +kernel)
set_option maxRecDepth 20000 in
theorem gX6_tries_X3_isOpen : GoodIn wsX6_tries (wsV RX6 89 RX3 yX3_isOpen wsX3_isOpen) := goodIn_app (goodIn_of _ (by decide +kernel)) ggX6_tries_X3_isOpen
set_option maxRecDepth 20000 in
theorem ggX6_tries_X2_enterAll : GoodIn wsX6_tries wsX2_enterAll := goodIn_r _ [28, 29, 30, 31, 32, 33, 34, 35, 36, 37, 38, 39, 40, 41, 42, 43, 44, 45, 46, 47, 12, 48, 49, 50, 51, 52, 53, 54, 55, 56, 57, 58, 59, 60, 61, 62, 63, 129, 130, 131, 132, 133, 134, 135, 111, 112, 113, 114, 115, 116, 117, 118, 119, 120, 121, 122, 123, 124, 125, 126, 127, 128, 136, 137, 138] rfl (by decide +kernel)
set_option maxRecDepth 20000 in
theorem gX6_tries_X2_enterAll : GoodIn wsX6_tries (wsV RX6 116 RX2 yX2_enterAll wsX2_enterAll) := goodIn_app (goodIn_of _ (by decide +kernel)) ggX6_tries_X2_enterAll
set_option maxRecDepth 20000 in
theorem ggX6_tries_X2_entryOf : GoodIn wsX6_tries wsX2_entryOf := goodIn_r _ [67, 29, 34, 129, 130, 131, 132, 133, 134, 135] rfl (by decide +kernel)
set_option maxRecDepth 20000 in
theorem gX6_tries_X2_entryOf : GoodIn wsX6_tries (wsV RX6 250 RX2 yX2_entryOf wsX2_entryOf) := goodIn_app (goodIn_of _ (by decide +kernel)) ggX6_tries_X2_entryOf
set_option maxRecDepth 20000 in
theorem ggX6_tries_X3_placesForLottery : GoodIn wsX6_tries wsX3_placesForLottery := goodIn_r _ [71, 72, 73, 74, 75, 76, 12, 77, 78, 79, 80, 81, 82, 14, 83, 84, 85, 86, 87, 41, 88, 89, 90, 39, 40, 42, 43, 44, 111, 112, 113, 114, 115, 116, 117, 118, 119, 139, 140, 120, 121, 122, 123, 124, 125, 126, 127, 128] rfl (by decide +kernel)
set_option maxRecDepth 20000 in
theorem gX6_tries_X3_placesForLottery : GoodIn wsX6_tries (wsV RX6 120 RX3 yX3_placesForLottery wsX3_placesForLottery) := goodIn_app (goodIn_of _ (by decide +kernel)) ggX6_tries_X3_placesForLottery
set_option maxRecDepth 20000 in
theorem ggX6_tries_X2_hold : GoodIn wsX6_tries wsX2_hold := goodIn_r _ [94, 30, 29, 95, 37, 96, 35, 97, 98, 27, 99, 100, 101, 102, 103, 104, 105, 129, 130, 131, 132, 133, 134, 135] rfl (by decide +kernel)
set_option maxRecDepth 20000 in
theorem gX6_tries_X2_hold : GoodIn wsX6_tries (wsV RX6 123 RX2 yX2_hold wsX2_hold) := goodIn_app (goodIn_of _ (by decide +kernel)) ggX6_tries_X2_hold
theorem dX6_tries_0 : decode cX6_tries 0 = .ok (.aload_n 0, 1) := by decide +kernel
theorem dX6_tries_1 : decode cX6_tries 1 = .ok (.getfield 10, 3) := by decide +kernel
theorem dX6_tries_4 : decode cX6_tries 4 = .ok (.iload_n 1, 1) := by decide +kernel
theorem dX6_tries_5 : decode cX6_tries 5 = .ok (.invokevirtual 134, 3) := by decide +kernel
theorem dX6_tries_8 : decode cX6_tries 8 = .ok (.ifCond .ne 5, 3) := by decide +kernel
theorem dX6_tries_11 : decode cX6_tries 11 = .ok (.iconst (-1), 1) := by decide +kernel
theorem dX6_tries_12 : decode cX6_tries 12 = .ok (.ireturn, 1) := by decide +kernel
theorem dX6_tries_13 : decode cX6_tries 13 = .ok (.iload_n 2, 1) := by decide +kernel
theorem dX6_tries_14 : decode cX6_tries 14 = .ok (.iconst 1, 1) := by decide +kernel
theorem dX6_tries_15 : decode cX6_tries 15 = .ok (.if_icmp .lt 10, 3) := by decide +kernel
theorem dX6_tries_18 : decode cX6_tries 18 = .ok (.iload_n 2, 1) := by decide +kernel
theorem dX6_tries_19 : decode cX6_tries 19 = .ok (.sipush 200, 3) := by decide +kernel
theorem dX6_tries_22 : decode cX6_tries 22 = .ok (.if_icmp .le 6, 3) := by decide +kernel
theorem dX6_tries_25 : decode cX6_tries 25 = .ok (.bipush (-2), 2) := by decide +kernel
theorem dX6_tries_27 : decode cX6_tries 27 = .ok (.ireturn, 1) := by decide +kernel
theorem dX6_tries_28 : decode cX6_tries 28 = .ok (.aload_n 0, 1) := by decide +kernel
theorem dX6_tries_29 : decode cX6_tries 29 = .ok (.getfield 10, 3) := by decide +kernel
theorem dX6_tries_32 : decode cX6_tries 32 = .ok (.getfield 137, 3) := by decide +kernel
theorem dX6_tries_35 : decode cX6_tries 35 = .ok (.iload_n 1, 1) := by decide +kernel
theorem dX6_tries_36 : decode cX6_tries 36 = .ok (.aaload, 1) := by decide +kernel
theorem dX6_tries_37 : decode cX6_tries 37 = .ok (.astore_n 3, 1) := by decide +kernel
theorem dX6_tries_38 : decode cX6_tries 38 = .ok (.aload_n 3, 1) := by decide +kernel
theorem dX6_tries_39 : decode cX6_tries 39 = .ok (.getfield 147, 3) := by decide +kernel
theorem dX6_tries_42 : decode cX6_tries 42 = .ok (.ifCond .ne 17, 3) := by decide +kernel
theorem dX6_tries_45 : decode cX6_tries 45 = .ok (.aload_n 0, 1) := by decide +kernel
theorem dX6_tries_46 : decode cX6_tries 46 = .ok (.getfield 10, 3) := by decide +kernel
theorem dX6_tries_49 : decode cX6_tries 49 = .ok (.aload_n 3, 1) := by decide +kernel
theorem dX6_tries_50 : decode cX6_tries 50 = .ok (.getfield 160, 3) := by decide +kernel
theorem dX6_tries_53 : decode cX6_tries 53 = .ok (.invokevirtual 89, 3) := by decide +kernel
theorem dX6_tries_56 : decode cX6_tries 56 = .ok (.ifCond .ne 6, 3) := by decide +kernel
theorem dX6_tries_59 : decode cX6_tries 59 = .ok (.bipush (-5), 2) := by decide +kernel
theorem dX6_tries_61 : decode cX6_tries 61 = .ok (.ireturn, 1) := by decide +kernel
theorem dX6_tries_62 : decode cX6_tries 62 = .ok (.aload_n 0, 1) := by decide +kernel
theorem dX6_tries_63 : decode cX6_tries 63 = .ok (.getfield 27, 3) := by decide +kernel
theorem dX6_tries_66 : decode cX6_tries 66 = .ok (.aload_n 0, 1) := by decide +kernel
theorem dX6_tries_67 : decode cX6_tries 67 = .ok (.getfield 10, 3) := by decide +kernel
theorem dX6_tries_70 : decode cX6_tries 70 = .ok (.aload_n 3, 1) := by decide +kernel
theorem dX6_tries_71 : decode cX6_tries 71 = .ok (.getfield 157, 3) := by decide +kernel
theorem dX6_tries_74 : decode cX6_tries 74 = .ok (.aload_n 3, 1) := by decide +kernel
theorem dX6_tries_75 : decode cX6_tries 75 = .ok (.getfield 160, 3) := by decide +kernel
theorem dX6_tries_78 : decode cX6_tries 78 = .ok (.invokevirtual 116, 3) := by decide +kernel
theorem dX6_tries_81 : decode cX6_tries 81 = .ok (.aload_n 0, 1) := by decide +kernel
theorem dX6_tries_82 : decode cX6_tries 82 = .ok (.getfield 27, 3) := by decide +kernel
theorem dX6_tries_85 : decode cX6_tries 85 = .ok (.iload_n 1, 1) := by decide +kernel
theorem dX6_tries_86 : decode cX6_tries 86 = .ok (.invokevirtual 250, 3) := by decide +kernel
theorem dX6_tries_89 : decode cX6_tries 89 = .ok (.istore 4, 2) := by decide +kernel
theorem dX6_tries_91 : decode cX6_tries 91 = .ok (.iload 4, 2) := by decide +kernel
theorem dX6_tries_93 : decode cX6_tries 93 = .ok (.ifCond .ge 5, 3) := by decide +kernel
theorem dX6_tries_96 : decode cX6_tries 96 = .ok (.iconst 0, 1) := by decide +kernel
theorem dX6_tries_97 : decode cX6_tries 97 = .ok (.ireturn, 1) := by decide +kernel
theorem dX6_tries_98 : decode cX6_tries 98 = .ok (.aload_n 0, 1) := by decide +kernel
theorem dX6_tries_99 : decode cX6_tries 99 = .ok (.getfield 10, 3) := by decide +kernel
theorem dX6_tries_102 : decode cX6_tries 102 = .ok (.aload_n 3, 1) := by decide +kernel
theorem dX6_tries_103 : decode cX6_tries 103 = .ok (.getfield 157, 3) := by decide +kernel
theorem dX6_tries_106 : decode cX6_tries 106 = .ok (.aload_n 3, 1) := by decide +kernel
theorem dX6_tries_107 : decode cX6_tries 107 = .ok (.getfield 160, 3) := by decide +kernel
theorem dX6_tries_110 : decode cX6_tries 110 = .ok (.invokevirtual 120, 3) := by decide +kernel
theorem dX6_tries_113 : decode cX6_tries 113 = .ok (.istore 5, 2) := by decide +kernel
theorem dX6_tries_115 : decode cX6_tries 115 = .ok (.aload_n 0, 1) := by decide +kernel
theorem dX6_tries_116 : decode cX6_tries 116 = .ok (.getfield 10, 3) := by decide +kernel
theorem dX6_tries_119 : decode cX6_tries 119 = .ok (.getfield 79, 3) := by decide +kernel
theorem dX6_tries_122 : decode cX6_tries 122 = .ok (.iconst 5, 1) := by decide +kernel
theorem dX6_tries_123 : decode cX6_tries 123 = .ok (.iaload, 1) := by decide +kernel
theorem dX6_tries_124 : decode cX6_tries 124 = .ok (.istore 6, 2) := by decide +kernel
theorem dX6_tries_126 : decode cX6_tries 126 = .ok (.iconst 0, 1) := by decide +kernel
theorem dX6_tries_127 : decode cX6_tries 127 = .ok (.istore 7, 2) := by decide +kernel
theorem dX6_tries_129 : decode cX6_tries 129 = .ok (.iconst 0, 1) := by decide +kernel
theorem dX6_tries_130 : decode cX6_tries 130 = .ok (.istore 8, 2) := by decide +kernel
theorem dX6_tries_132 : decode cX6_tries 132 = .ok (.iload 8, 2) := by decide +kernel
theorem dX6_tries_134 : decode cX6_tries 134 = .ok (.iload_n 2, 1) := by decide +kernel
theorem dX6_tries_135 : decode cX6_tries 135 = .ok (.if_icmp .ge 38, 3) := by decide +kernel
theorem dX6_tries_138 : decode cX6_tries 138 = .ok (.aload_n 0, 1) := by decide +kernel
theorem dX6_tries_139 : decode cX6_tries 139 = .ok (.getfield 27, 3) := by decide +kernel
theorem dX6_tries_142 : decode cX6_tries 142 = .ok (.iload 6, 2) := by decide +kernel
theorem dX6_tries_144 : decode cX6_tries 144 = .ok (.iload 5, 2) := by decide +kernel
theorem dX6_tries_146 : decode cX6_tries 146 = .ok (.invokevirtual 123, 3) := by decide +kernel
theorem dX6_tries_149 : decode cX6_tries 149 = .ok (.istore 6, 2) := by decide +kernel
theorem dX6_tries_151 : decode cX6_tries 151 = .ok (.aload_n 0, 1) := by decide +kernel
theorem dX6_tries_152 : decode cX6_tries 152 = .ok (.getfield 27, 3) := by decide +kernel
theorem dX6_tries_155 : decode cX6_tries 155 = .ok (.getfield 261, 3) := by decide +kernel
theorem dX6_tries_158 : decode cX6_tries 158 = .ok (.iload 4, 2) := by decide +kernel
theorem dX6_tries_160 : decode cX6_tries 160 = .ok (.baload, 1) := by decide +kernel
theorem dX6_tries_161 : decode cX6_tries 161 = .ok (.ifCond .eq 6, 3) := by decide +kernel
theorem dX6_tries_164 : decode cX6_tries 164 = .ok (.iinc 7 1, 3) := by decide +kernel
theorem dX6_tries_167 : decode cX6_tries 167 = .ok (.iinc 8 1, 3) := by decide +kernel
theorem dX6_tries_170 : decode cX6_tries 170 = .ok (.goto (-38), 3) := by decide +kernel
theorem dX6_tries_173 : decode cX6_tries 173 = .ok (.iload 7, 2) := by decide +kernel
theorem dX6_tries_175 : decode cX6_tries 175 = .ok (.ireturn, 1) := by decide +kernel
set_option maxRecDepth 20000 in
theorem ggX6_put_X4_sizeOf : GoodIn wsX6_put wsX4_sizeOf := goodIn_r _ [6, 7, 8, 9] rfl (by decide +kernel)
set_option maxRecDepth 20000 in
theorem gX6_put_X4_sizeOf : GoodIn wsX6_put (va_wsS RX6 264 yX4_sizeOf wsX4_sizeOf) := goodIn_app (goodIn_of _ (by decide +kernel)) ggX6_put_X4_sizeOf
set_option maxRecDepth 20000 in
theorem ggX6_put_X4_append : GoodIn wsX6_put wsX4_append := goodIn_r _ [13, 14, 15, 7, 21, 22, 23, 24, 25, 26, 27] rfl (by decide +kernel)
set_option maxRecDepth 20000 in
theorem gX6_put_X4_append : GoodIn wsX6_put (wsV RX6 268 RX4 yX4_append wsX4_append) := goodIn_app (goodIn_of _ (by decide +kernel)) ggX6_put_X4_append
theorem dX6_put_0 : decode cX6_put 0 = .ok (.lload_n 1, 1) := by decide +kernel
theorem dX6_put_1 : decode cX6_put 1 = .ok (.invokestatic 264, 3) := by decide +kernel
theorem dX6_put_4 : decode cX6_put 4 = .ok (.istore_n 3, 1) := by decide +kernel
theorem dX6_put_5 : decode cX6_put 5 = .ok (.iload_n 3, 1) := by decide +kernel
theorem dX6_put_6 : decode cX6_put 6 = .ok (.ifCond .ne 6, 3) := by decide +kernel
theorem dX6_put_9 : decode cX6_put 9 = .ok (.bipush (-2), 2) := by decide +kernel
theorem dX6_put_11 : decode cX6_put 11 = .ok (.ireturn, 1) := by decide +kernel
theorem dX6_put_12 : decode cX6_put 12 = .ok (.aload_n 0, 1) := by decide +kernel
theorem dX6_put_13 : decode cX6_put 13 = .ok (.getfield 34, 3) := by decide +kernel
theorem dX6_put_16 : decode cX6_put 16 = .ok (.getfield 244, 3) := by decide +kernel
theorem dX6_put_19 : decode cX6_put 19 = .ok (.iload_n 3, 1) := by decide +kernel
theorem dX6_put_20 : decode cX6_put 20 = .ok (.iadd, 1) := by decide +kernel
theorem dX6_put_21 : decode cX6_put 21 = .ok (.bipush 60, 2) := by decide +kernel
theorem dX6_put_23 : decode cX6_put 23 = .ok (.if_icmp .le 6, 3) := by decide +kernel
theorem dX6_put_26 : decode cX6_put 26 = .ok (.bipush (-4), 2) := by decide +kernel
theorem dX6_put_28 : decode cX6_put 28 = .ok (.ireturn, 1) := by decide +kernel
theorem dX6_put_29 : decode cX6_put 29 = .ok (.aload_n 0, 1) := by decide +kernel
theorem dX6_put_30 : decode cX6_put 30 = .ok (.getfield 34, 3) := by decide +kernel
theorem dX6_put_33 : decode cX6_put 33 = .ok (.lload_n 1, 1) := by decide +kernel
theorem dX6_put_34 : decode cX6_put 34 = .ok (.iload_n 3, 1) := by decide +kernel
theorem dX6_put_35 : decode cX6_put 35 = .ok (.invokevirtual 268, 3) := by decide +kernel
theorem dX6_put_38 : decode cX6_put 38 = .ok (.aload_n 0, 1) := by decide +kernel
theorem dX6_put_39 : decode cX6_put 39 = .ok (.getfield 34, 3) := by decide +kernel
theorem dX6_put_42 : decode cX6_put 42 = .ok (.getfield 244, 3) := by decide +kernel
theorem dX6_put_45 : decode cX6_put 45 = .ok (.ireturn, 1) := by decide +kernel
theorem dX6_wipe_0 : decode cX6_wipe 0 = .ok (.aload_n 0, 1) := by decide +kernel
theorem dX6_wipe_1 : decode cX6_wipe 1 = .ok (.getfield 34, 3) := by decide +kernel
theorem dX6_wipe_4 : decode cX6_wipe 4 = .ok (.getfield 244, 3) := by decide +kernel
theorem dX6_wipe_7 : decode cX6_wipe 7 = .ok (.istore_n 1, 1) := by decide +kernel
theorem dX6_wipe_8 : decode cX6_wipe 8 = .ok (.aload_n 0, 1) := by decide +kernel
theorem dX6_wipe_9 : decode cX6_wipe 9 = .ok (.getfield 34, 3) := by decide +kernel
theorem dX6_wipe_12 : decode cX6_wipe 12 = .ok (.iconst 0, 1) := by decide +kernel
theorem dX6_wipe_13 : decode cX6_wipe 13 = .ok (.putfield 244, 3) := by decide +kernel
theorem dX6_wipe_16 : decode cX6_wipe 16 = .ok (.iload_n 1, 1) := by decide +kernel
theorem dX6_wipe_17 : decode cX6_wipe 17 = .ok (.ireturn, 1) := by decide +kernel
set_option maxRecDepth 20000 in
theorem ggX6_fault_X4_findFault : GoodIn wsX6_fault wsX4_findFault := goodIn_r _ [6, 7, 8, 9, 10, 11, 5, 12, 13, 14, 15, 16, 17, 18, 19, 20, 21, 22, 23, 24, 25, 26, 27, 28, 29, 35, 36, 37, 38, 39, 40, 41] rfl (by decide +kernel)
set_option maxRecDepth 20000 in
theorem gX6_fault_X4_findFault : GoodIn wsX6_fault (wsV RX6 272 RX4 yX4_findFault wsX4_findFault) := goodIn_app (goodIn_of _ (by decide +kernel)) ggX6_fault_X4_findFault
theorem dX6_fault_0 : decode cX6_fault 0 = .ok (.aload_n 0, 1) := by decide +kernel
theorem dX6_fault_1 : decode cX6_fault 1 = .ok (.getfield 34, 3) := by decide +kernel
theorem dX6_fault_4 : decode cX6_fault 4 = .ok (.invokevirtual 272, 3) := by decide +kernel
theorem dX6_fault_7 : decode cX6_fault 7 = .ok (.ireturn, 1) := by decide +kernel
set_option maxRecDepth 20000 in
theorem ggX6_load_X4_findFault : GoodIn wsX6_load wsX4_findFault := goodIn_r _ [12, 13, 14, 15, 16, 17, 11, 18, 19, 20, 21, 22, 23, 24, 25, 26, 27, 28, 29, 30, 31, 32, 33, 34, 35, 112, 113, 114, 115, 116, 117, 118] rfl (by decide +kernel)
set_option maxRecDepth 20000 in
theorem gX6_load_X4_findFault : GoodIn wsX6_load (wsV RX6 272 RX4 yX4_findFault wsX4_findFault) := goodIn_app (goodIn_of _ (by decide +kernel)) ggX6_load_X4_findFault
set_option maxRecDepth 20000 in
theorem ggX6_load_X4_readApplication : GoodIn wsX6_load wsX4_readApplication := goodIn_r _ [18, 19, 20, 21, 22, 23, 24, 25, 11, 26, 13, 14, 27, 28, 29, 30, 31, 32, 33, 34, 35, 112, 113, 114, 115, 116, 117, 118] rfl (by decide +kernel)
set_option maxRecDepth 20000 in
theorem gX6_load_X4_readApplication : GoodIn wsX6_load (wsV RX6 278 RX4 yX4_readApplication wsX4_readApplication) := goodIn_app (goodIn_of _ (by decide +kernel)) ggX6_load_X4_readApplication
set_option maxRecDepth 20000 in
theorem ggX6_load_X6_apply : GoodIn wsX6_load wsX6_apply := goodIn_r _ [41, 42, 43, 44, 45, 46, 47, 48, 49, 50, 51, 52, 53, 54, 55, 56, 57, 58, 59, 60, 40, 61, 62, 63, 64, 65, 66, 67, 68, 69, 70, 71, 72, 73, 74, 75, 76, 77, 78, 79, 80, 81, 82, 83, 84, 85, 86, 87, 88, 89, 90, 91, 92, 93, 94, 95, 96, 97, 98, 99, 100, 101, 102, 103, 104, 105, 107, 108, 109, 110, 111, 119, 120, 121, 122, 123, 124, 125, 126, 127, 128, 129, 130, 131, 132, 133, 134, 135, 136, 137, 138, 139] rfl (by decide +kernel)
set_option maxRecDepth 20000 in
theorem gX6_load_X6_apply : GoodIn wsX6_load (wsV RX6 285 RX6 yX6_apply wsX6_apply) := goodIn_app (goodIn_of _ (by decide +kernel)) ggX6_load_X6_apply
set_option maxRecDepth 20000 in
theorem ggX6_load_X4_readSign : GoodIn wsX6_load wsX4_readSign := goodIn_r _ [26, 13, 14, 27, 112, 113, 114, 115, 116, 117, 118] rfl (by decide +kernel)
set_option maxRecDepth 20000 in
theorem gX6_load_X4_readSign : GoodIn wsX6_load (wsV RX6 288 RX4 yX4_readSign wsX4_readSign) := goodIn_app (goodIn_of _ (by decide +kernel)) ggX6_load_X4_readSign
theorem dX6_load_0 : decode cX6_load 0 = .ok (.aload_n 0, 1) := by decide +kernel
theorem dX6_load_1 : decode cX6_load 1 = .ok (.getfield 34, 3) := by decide +kernel
theorem dX6_load_4 : decode cX6_load 4 = .ok (.invokevirtual 272, 3) := by decide +kernel
theorem dX6_load_7 : decode cX6_load 7 = .ok (.bipush (-6), 2) := by decide +kernel
theorem dX6_load_9 : decode cX6_load 9 = .ok (.if_icmp .eq 6, 3) := by decide +kernel
theorem dX6_load_12 : decode cX6_load 12 = .ok (.bipush (-3), 2) := by decide +kernel
theorem dX6_load_14 : decode cX6_load 14 = .ok (.ireturn, 1) := by decide +kernel
theorem dX6_load_15 : decode cX6_load 15 = .ok (.iconst 0, 1) := by decide +kernel
theorem dX6_load_16 : decode cX6_load 16 = .ok (.istore_n 1, 1) := by decide +kernel
theorem dX6_load_17 : decode cX6_load 17 = .ok (.iconst 1, 1) := by decide +kernel
theorem dX6_load_18 : decode cX6_load 18 = .ok (.istore_n 2, 1) := by decide +kernel
theorem dX6_load_19 : decode cX6_load 19 = .ok (.aload_n 0, 1) := by decide +kernel
theorem dX6_load_20 : decode cX6_load 20 = .ok (.getfield 34, 3) := by decide +kernel
theorem dX6_load_23 : decode cX6_load 23 = .ok (.iconst 0, 1) := by decide +kernel
theorem dX6_load_24 : decode cX6_load 24 = .ok (.putfield 275, 3) := by decide +kernel
theorem dX6_load_27 : decode cX6_load 27 = .ok (.iconst 0, 1) := by decide +kernel
theorem dX6_load_28 : decode cX6_load 28 = .ok (.istore_n 3, 1) := by decide +kernel
theorem dX6_load_29 : decode cX6_load 29 = .ok (.iload_n 2, 1) := by decide +kernel
theorem dX6_load_30 : decode cX6_load 30 = .ok (.ifCond .eq 86, 3) := by decide +kernel
theorem dX6_load_33 : decode cX6_load 33 = .ok (.iload_n 3, 1) := by decide +kernel
theorem dX6_load_34 : decode cX6_load 34 = .ok (.aload_n 0, 1) := by decide +kernel
theorem dX6_load_35 : decode cX6_load 35 = .ok (.getfield 34, 3) := by decide +kernel
theorem dX6_load_38 : decode cX6_load 38 = .ok (.getfield 244, 3) := by decide +kernel
theorem dX6_load_41 : decode cX6_load 41 = .ok (.if_icmp .ge 75, 3) := by decide +kernel
theorem dX6_load_44 : decode cX6_load 44 = .ok (.aload_n 0, 1) := by decide +kernel
theorem dX6_load_45 : decode cX6_load 45 = .ok (.getfield 34, 3) := by decide +kernel
theorem dX6_load_48 : decode cX6_load 48 = .ok (.invokevirtual 278, 3) := by decide +kernel
theorem dX6_load_51 : decode cX6_load 51 = .ok (.pop, 1) := by decide +kernel
theorem dX6_load_52 : decode cX6_load 52 = .ok (.aload_n 0, 1) := by decide +kernel
theorem dX6_load_53 : decode cX6_load 53 = .ok (.aload_n 0, 1) := by decide +kernel
theorem dX6_load_54 : decode cX6_load 54 = .ok (.getfield 34, 3) := by decide +kernel
theorem dX6_load_57 : decode cX6_load 57 = .ok (.getfield 281, 3) := by decide +kernel
theorem dX6_load_60 : decode cX6_load 60 = .ok (.aload_n 0, 1) := by decide +kernel
theorem dX6_load_61 : decode cX6_load 61 = .ok (.getfield 34, 3) := by decide +kernel
theorem dX6_load_64 : decode cX6_load 64 = .ok (.getfield 282, 3) := by decide +kernel
theorem dX6_load_67 : decode cX6_load 67 = .ok (.aload_n 0, 1) := by decide +kernel
theorem dX6_load_68 : decode cX6_load 68 = .ok (.getfield 34, 3) := by decide +kernel
theorem dX6_load_71 : decode cX6_load 71 = .ok (.getfield 283, 3) := by decide +kernel
theorem dX6_load_74 : decode cX6_load 74 = .ok (.aload_n 0, 1) := by decide +kernel
theorem dX6_load_75 : decode cX6_load 75 = .ok (.getfield 34, 3) := by decide +kernel
theorem dX6_load_78 : decode cX6_load 78 = .ok (.getfield 284, 3) := by decide +kernel
theorem dX6_load_81 : decode cX6_load 81 = .ok (.invokevirtual 285, 3) := by decide +kernel
theorem dX6_load_84 : decode cX6_load 84 = .ok (.ifCond .lt 7, 3) := by decide +kernel
theorem dX6_load_87 : decode cX6_load 87 = .ok (.iconst 1, 1) := by decide +kernel
theorem dX6_load_88 : decode cX6_load 88 = .ok (.goto 4, 3) := by decide +kernel
theorem dX6_load_91 : decode cX6_load 91 = .ok (.iconst 0, 1) := by decide +kernel
theorem dX6_load_92 : decode cX6_load 92 = .ok (.istore_n 2, 1) := by decide +kernel
theorem dX6_load_93 : decode cX6_load 93 = .ok (.iload_n 2, 1) := by decide +kernel
theorem dX6_load_94 : decode cX6_load 94 = .ok (.ifCond .eq 16, 3) := by decide +kernel
theorem dX6_load_97 : decode cX6_load 97 = .ok (.iinc 1 1, 3) := by decide +kernel
theorem dX6_load_100 : decode cX6_load 100 = .ok (.aload_n 0, 1) := by decide +kernel
theorem dX6_load_101 : decode cX6_load 101 = .ok (.getfield 34, 3) := by decide +kernel
theorem dX6_load_104 : decode cX6_load 104 = .ok (.bipush 59, 2) := by decide +kernel
theorem dX6_load_106 : decode cX6_load 106 = .ok (.invokevirtual 288, 3) := by decide +kernel
theorem dX6_load_109 : decode cX6_load 109 = .ok (.istore_n 2, 1) := by decide +kernel
theorem dX6_load_110 : decode cX6_load 110 = .ok (.iinc 3 1, 3) := by decide +kernel
theorem dX6_load_113 : decode cX6_load 113 = .ok (.goto (-84), 3) := by decide +kernel
theorem dX6_load_116 : decode cX6_load 116 = .ok (.aload_n 0, 1) := by decide +kernel
theorem dX6_load_117 : decode cX6_load 117 = .ok (.getfield 34, 3) := by decide +kernel
theorem dX6_load_120 : decode cX6_load 120 = .ok (.iconst 0, 1) := by decide +kernel
theorem dX6_load_121 : decode cX6_load 121 = .ok (.putfield 244, 3) := by decide +kernel
theorem dX6_load_124 : decode cX6_load 124 = .ok (.iload_n 1, 1) := by decide +kernel
theorem dX6_load_125 : decode cX6_load 125 = .ok (.ireturn, 1) := by decide +kernel
set_option maxRecDepth 20000 in
theorem ggX6_save_X3_copyFrom : GoodIn wsX6_save wsX3_copyFrom := goodIn_r _ [9, 10, 11, 12, 13, 14, 15, 16, 17, 18, 19, 20, 21, 22, 23, 24, 25, 26, 27, 28, 29, 30, 31, 32, 33, 34, 35, 36, 37, 38, 39, 40, 41, 42, 43, 44, 45, 46, 47, 53, 54, 55, 56, 57, 58, 59, 60, 61, 62, 63, 64, 65, 66, 67, 68, 69, 70, 71, 72, 73, 74, 75] rfl (by decide +kernel)
set_option maxRecDepth 20000 in
theorem gX6_save_X3_copyFrom : GoodIn wsX6_save (wsV RX6 292 RX3 yX3_copyFrom wsX3_copyFrom) := goodIn_app (goodIn_of _ (by decide +kernel)) ggX6_save_X3_copyFrom
theorem dX6_save_0 : decode cX6_save 0 = .ok (.iload_n 1, 1) := by decide +kernel
theorem dX6_save_1 : decode cX6_save 1 = .ok (.ifCond .lt 8, 3) := by decide +kernel
theorem dX6_save_4 : decode cX6_save 4 = .ok (.iload_n 1, 1) := by decide +kernel
theorem dX6_save_5 : decode cX6_save 5 = .ok (.iconst 2, 1) := by decide +kernel
theorem dX6_save_6 : decode cX6_save 6 = .ok (.if_icmp .lt 6, 3) := by decide +kernel
theorem dX6_save_9 : decode cX6_save 9 = .ok (.bipush (-2), 2) := by decide +kernel
theorem dX6_save_11 : decode cX6_save 11 = .ok (.ireturn, 1) := by decide +kernel
theorem dX6_save_12 : decode cX6_save 12 = .ok (.aload_n 0, 1) := by decide +kernel
theorem dX6_save_13 : decode cX6_save 13 = .ok (.getfield 16, 3) := by decide +kernel
theorem dX6_save_16 : decode cX6_save 16 = .ok (.iload_n 1, 1) := by decide +kernel
theorem dX6_save_17 : decode cX6_save 17 = .ok (.aaload, 1) := by decide +kernel
theorem dX6_save_18 : decode cX6_save 18 = .ok (.aload_n 0, 1) := by decide +kernel
theorem dX6_save_19 : decode cX6_save 19 = .ok (.getfield 10, 3) := by decide +kernel
theorem dX6_save_22 : decode cX6_save 22 = .ok (.invokevirtual 292, 3) := by decide +kernel
theorem dX6_save_25 : decode cX6_save 25 = .ok (.aload_n 0, 1) := by decide +kernel
theorem dX6_save_26 : decode cX6_save 26 = .ok (.getfield 20, 3) := by decide +kernel
theorem dX6_save_29 : decode cX6_save 29 = .ok (.iload_n 1, 1) := by decide +kernel
theorem dX6_save_30 : decode cX6_save 30 = .ok (.iconst 1, 1) := by decide +kernel
theorem dX6_save_31 : decode cX6_save 31 = .ok (.bastore, 1) := by decide +kernel
theorem dX6_save_32 : decode cX6_save 32 = .ok (.aload_n 0, 1) := by decide +kernel
theorem dX6_save_33 : decode cX6_save 33 = .ok (.getfield 10, 3) := by decide +kernel
theorem dX6_save_36 : decode cX6_save 36 = .ok (.getfield 176, 3) := by decide +kernel
theorem dX6_save_39 : decode cX6_save 39 = .ok (.ireturn, 1) := by decide +kernel
set_option maxRecDepth 20000 in
theorem ggX6_restore_X3_copyFrom : GoodIn wsX6_restore wsX3_copyFrom := goodIn_r _ [9, 10, 11, 12, 13, 14, 15, 16, 17, 18, 19, 20, 21, 22, 23, 24, 25, 26, 27, 28, 29, 30, 31, 32, 33, 34, 35, 36, 37, 38, 39, 40, 41, 42, 43, 44, 45, 46, 47, 53, 54, 55, 56, 57, 58, 59, 60, 61, 62, 63, 64, 65, 66, 67, 68, 69, 70, 71, 72, 73, 74, 75] rfl (by decide +kernel)
set_option maxRecDepth 20000 in
theorem gX6_restore_X3_copyFrom : GoodIn wsX6_restore (wsV RX6 292 RX3 yX3_copyFrom wsX3_copyFrom) := goodIn_app (goodIn_of _ (by decide +kernel)) ggX6_restore_X3_copyFrom
theorem dX6_restore_0 : decode cX6_restore 0 = .ok (.iload_n 1, 1) := by decide +kernel
theorem dX6_restore_1 : decode cX6_restore 1 = .ok (.ifCond .lt 8, 3) := by decide +kernel
theorem dX6_restore_4 : decode cX6_restore 4 = .ok (.iload_n 1, 1) := by decide +kernel
theorem dX6_restore_5 : decode cX6_restore 5 = .ok (.iconst 2, 1) := by decide +kernel
theorem dX6_restore_6 : decode cX6_restore 6 = .ok (.if_icmp .lt 6, 3) := by decide +kernel
theorem dX6_restore_9 : decode cX6_restore 9 = .ok (.bipush (-2), 2) := by decide +kernel
theorem dX6_restore_11 : decode cX6_restore 11 = .ok (.ireturn, 1) := by decide +kernel
theorem dX6_restore_12 : decode cX6_restore 12 = .ok (.aload_n 0, 1) := by decide +kernel
theorem dX6_restore_13 : decode cX6_restore 13 = .ok (.getfield 20, 3) := by decide +kernel
theorem dX6_restore_16 : decode cX6_restore 16 = .ok (.iload_n 1, 1) := by decide +kernel
theorem dX6_restore_17 : decode cX6_restore 17 = .ok (.baload, 1) := by decide +kernel
theorem dX6_restore_18 : decode cX6_restore 18 = .ok (.ifCond .ne 6, 3) := by decide +kernel
theorem dX6_restore_21 : decode cX6_restore 21 = .ok (.bipush (-5), 2) := by decide +kernel
theorem dX6_restore_23 : decode cX6_restore 23 = .ok (.ireturn, 1) := by decide +kernel
theorem dX6_restore_24 : decode cX6_restore 24 = .ok (.aload_n 0, 1) := by decide +kernel
theorem dX6_restore_25 : decode cX6_restore 25 = .ok (.getfield 10, 3) := by decide +kernel
theorem dX6_restore_28 : decode cX6_restore 28 = .ok (.aload_n 0, 1) := by decide +kernel
theorem dX6_restore_29 : decode cX6_restore 29 = .ok (.getfield 16, 3) := by decide +kernel
theorem dX6_restore_32 : decode cX6_restore 32 = .ok (.iload_n 1, 1) := by decide +kernel
theorem dX6_restore_33 : decode cX6_restore 33 = .ok (.aaload, 1) := by decide +kernel
theorem dX6_restore_34 : decode cX6_restore 34 = .ok (.invokevirtual 292, 3) := by decide +kernel
theorem dX6_restore_37 : decode cX6_restore 37 = .ok (.aload_n 0, 1) := by decide +kernel
theorem dX6_restore_38 : decode cX6_restore 38 = .ok (.getfield 10, 3) := by decide +kernel
theorem dX6_restore_41 : decode cX6_restore 41 = .ok (.getfield 176, 3) := by decide +kernel
theorem dX6_restore_44 : decode cX6_restore 44 = .ok (.ireturn, 1) := by decide +kernel
theorem dX6_isDay_0 : decode cX6_isDay 0 = .ok (.iload_n 0, 1) := by decide +kernel
theorem dX6_isDay_1 : decode cX6_isDay 1 = .ok (.ifCond .lt 13, 3) := by decide +kernel
theorem dX6_isDay_4 : decode cX6_isDay 4 = .ok (.iload_n 0, 1) := by decide +kernel
theorem dX6_isDay_5 : decode cX6_isDay 5 = .ok (.bipush 60, 2) := by decide +kernel
theorem dX6_isDay_7 : decode cX6_isDay 7 = .ok (.if_icmp .ge 7, 3) := by decide +kernel
theorem dX6_isDay_10 : decode cX6_isDay 10 = .ok (.iconst 1, 1) := by decide +kernel
theorem dX6_isDay_11 : decode cX6_isDay 11 = .ok (.goto 4, 3) := by decide +kernel
theorem dX6_isDay_14 : decode cX6_isDay 14 = .ok (.iconst 0, 1) := by decide +kernel
theorem dX6_isDay_15 : decode cX6_isDay 15 = .ok (.ireturn, 1) := by decide +kernel
theorem dJ9_max_7cf53_0 : decode cJ9_max_7cf53 0 = .ok (.iload_n 0, 1) := by decide +kernel
theorem dJ9_max_7cf53_1 : decode cJ9_max_7cf53 1 = .ok (.iload_n 1, 1) := by decide +kernel
theorem dJ9_max_7cf53_2 : decode cJ9_max_7cf53 2 = .ok (.if_icmp .lt 7, 3) := by decide +kernel
theorem dJ9_max_7cf53_5 : decode cJ9_max_7cf53 5 = .ok (.iload_n 0, 1) := by decide +kernel
theorem dJ9_max_7cf53_6 : decode cJ9_max_7cf53 6 = .ok (.goto 4, 3) := by decide +kernel
theorem dJ9_max_7cf53_9 : decode cJ9_max_7cf53 9 = .ok (.iload_n 1, 1) := by decide +kernel
theorem dJ9_max_7cf53_10 : decode cJ9_max_7cf53 10 = .ok (.ireturn, 1) := by decide +kernel
theorem dJ9_min_7cf53_0 : decode cJ9_min_7cf53 0 = .ok (.iload_n 0, 1) := by decide +kernel
theorem dJ9_min_7cf53_1 : decode cJ9_min_7cf53 1 = .ok (.iload_n 1, 1) := by decide +kernel
theorem dJ9_min_7cf53_2 : decode cJ9_min_7cf53 2 = .ok (.if_icmp .gt 7, 3) := by decide +kernel
theorem dJ9_min_7cf53_5 : decode cJ9_min_7cf53 5 = .ok (.iload_n 0, 1) := by decide +kernel
theorem dJ9_min_7cf53_6 : decode cJ9_min_7cf53 6 = .ok (.goto 4, 3) := by decide +kernel
theorem dJ9_min_7cf53_9 : decode cJ9_min_7cf53 9 = .ok (.iload_n 1, 1) := by decide +kernel
theorem dJ9_min_7cf53_10 : decode cJ9_min_7cf53 10 = .ok (.ireturn, 1) := by decide +kernel
theorem dL_cell_0 : decode cL_cell 0 = .ok (.iload_n 1, 1) := by decide +kernel
theorem dL_cell_1 : decode cL_cell 1 = .ok (.aload_n 0, 1) := by decide +kernel
theorem dL_cell_2 : decode cL_cell 2 = .ok (.arraylength, 1) := by decide +kernel
theorem dL_cell_3 : decode cL_cell 3 = .ok (.if_icmp .ge 9, 3) := by decide +kernel
theorem dL_cell_6 : decode cL_cell 6 = .ok (.aload_n 0, 1) := by decide +kernel
theorem dL_cell_7 : decode cL_cell 7 = .ok (.iload_n 1, 1) := by decide +kernel
theorem dL_cell_8 : decode cL_cell 8 = .ok (.iaload, 1) := by decide +kernel
theorem dL_cell_9 : decode cL_cell 9 = .ok (.goto 11, 3) := by decide +kernel
theorem dL_cell_12 : decode cL_cell 12 = .ok (.ldc 7, 2) := by decide +kernel
theorem dL_cell_14 : decode cL_cell 14 = .ok (.iload_n 1, 1) := by decide +kernel
theorem dL_cell_15 : decode cL_cell 15 = .ok (.sipush 1549, 3) := by decide +kernel
theorem dL_cell_18 : decode cL_cell 18 = .ok (.iadd, 1) := by decide +kernel
theorem dL_cell_19 : decode cL_cell 19 = .ok (.imul, 1) := by decide +kernel
theorem dL_cell_20 : decode cL_cell 20 = .ok (.ireturn, 1) := by decide +kernel
theorem dL_up_0 : decode cL_up 0 = .ok (.iload_n 0, 1) := by decide +kernel
theorem dL_up_1 : decode cL_up 1 = .ok (.ldc 8, 2) := by decide +kernel
theorem dL_up_3 : decode cL_up 3 = .ok (.iand, 1) := by decide +kernel
theorem dL_up_4 : decode cL_up 4 = .ok (.iload_n 1, 1) := by decide +kernel
theorem dL_up_5 : decode cL_up 5 = .ok (.irem, 1) := by decide +kernel
theorem dL_up_6 : decode cL_up 6 = .ok (.ireturn, 1) := by decide +kernel
set_option maxRecDepth 20000 in
theorem ggL_law_X6_init : GoodIn wsL_law wsX6_init := goodIn_r _ [6, 7, 8, 9, 10, 11, 12, 13, 14, 15, 16, 17, 18, 19, 20, 21, 22, 23, 24, 25, 26, 27, 28, 29, 30, 31, 32, 33, 34, 35, 36, 37, 38, 39, 40, 41, 42, 43, 44, 45, 46, 47, 48, 49, 50, 51, 52, 53, 54, 55, 56, 57, 58, 59, 60, 61, 62, 63, 64, 65, 66, 532, 533, 534, 535, 536, 537, 538, 539, 540, 527, 528, 529, 530, 531, 541, 542, 543, 544, 545, 546, 547, 548, 549, 550, 551, 552, 553, 554, 555, 556, 557, 558, 559, 560, 561, 562, 563, 564, 565, 566, 567, 568] rfl (by decide +kernel)
set_option maxRecDepth 20000 in
theorem gL_law_X6_init : GoodIn wsL_law (wsX6_init) := ggL_law_X6_init
set_option maxRecDepth 20000 in
theorem ggL_law_L_cell : GoodIn wsL_law wsL_cell := goodIn_r _ [70, 71] rfl (by decide +kernel)
set_option maxRecDepth 20000 in
theorem gL_law_L_cell : GoodIn wsL_law (va_wsS RL 12 yL_cell wsL_cell) := goodIn_app (goodIn_of _ (by decide +kernel)) ggL_law_L_cell
set_option maxRecDepth 20000 in
theorem ggL_law_L_refused : GoodIn wsL_law wsL_refused := goodIn_r _ [74, 75, 3, 76, 77, 69, 78, 79, 80, 81, 82, 2, 83, 13, 84, 85, 86, 87, 12, 88, 30, 89, 90, 91, 92, 93, 94, 95, 96, 97, 98, 99, 100, 101, 102, 103, 104, 105, 106, 107, 108, 109, 110, 111, 112, 113, 114, 115, 116, 117, 118, 119, 120, 121, 122, 123, 124, 125, 126, 127, 128, 129, 130, 131, 132, 133, 35, 134, 135, 136, 137, 138, 34, 139, 140, 141, 43, 142, 143, 144, 145, 146, 147, 148, 149, 150, 151, 152, 153, 154, 155, 156, 157, 41, 158, 50, 159, 160, 161, 162, 163, 164, 165, 166, 167, 168, 169, 170, 171, 20, 172, 173, 174, 175, 176, 177, 178, 179, 19, 180, 181, 182, 183, 184, 185, 57, 58, 186, 59, 187, 188, 189, 190, 191, 32, 192, 193, 194, 195, 196, 37, 197, 198, 199, 200, 201, 202, 203, 204, 205, 206, 207, 208, 209, 210, 211, 212, 213, 214, 215, 216, 217, 60, 61, 218, 219, 220, 221, 222, 223, 224, 225, 226, 227, 228, 229, 230, 231, 232, 233, 234, 235, 236, 237, 238, 239, 240, 241, 242, 243, 244, 245, 246, 247, 248, 249, 250, 251, 252, 253, 254, 255, 256, 257, 258, 259, 260, 261, 262, 263, 264, 265, 266, 267, 268, 269, 270, 271, 272, 273, 274, 275, 276, 277, 278, 279, 280, 281, 282, 283, 284, 285, 286, 287, 288, 289, 290, 291, 292, 293, 294, 295, 296, 297, 298, 299, 300, 301, 302, 303, 304, 305, 306, 307, 308, 309, 310, 311, 312, 313, 314, 315, 316, 317, 318, 319, 320, 321, 322, 323, 324, 325, 326, 327, 328, 329, 330, 331, 332, 333, 334, 335, 336, 337, 338, 339, 340, 341, 342, 343, 344, 345, 346, 347, 348, 349, 350, 24, 351, 352, 353, 354, 355, 356, 357, 358, 359, 360, 361, 362, 363, 364, 365, 366, 367, 368, 369, 370, 371, 372, 373, 374, 375, 376, 377, 378, 379, 380, 381, 382, 383, 384, 385, 386, 387, 388, 23, 389, 390, 391, 392, 393, 394, 395, 396, 397, 398, 399, 400, 401, 402, 403, 66, 404, 405, 406, 407, 408, 409, 410, 411, 412, 413, 414, 415, 416, 417, 418, 14, 16, 419, 420, 421, 422, 423, 424, 425, 39, 426, 427, 428, 429, 430, 431, 432, 433, 434, 435, 436, 437, 438, 439, 440, 441, 442, 443, 444, 445, 446, 447, 527, 528, 529, 530, 531, 532, 533, 534, 535, 536, 537, 538, 539, 540, 555, 556, 560, 561, 562, 563, 564, 565, 566, 567, 568, 557, 558, 559, 541, 542, 543, 544, 545, 546, 547, 548, 549, 550, 551, 552, 553, 554] rfl (by decide +kernel)
set_option maxRecDepth 20000 in
theorem gL_law_L_refused : GoodIn wsL_law (va_wsS RL 18 yL_refused wsL_refused) := goodIn_app (goodIn_of _ (by decide +kernel)) ggL_law_L_refused
set_option maxRecDepth 20000 in
theorem ggL_law_L_up : GoodIn wsL_law wsL_up := goodIn_r _ [78, 79] rfl (by decide +kernel)
set_option maxRecDepth 20000 in
theorem gL_law_L_up : GoodIn wsL_law (va_wsS RL 22 yL_up wsL_up) := goodIn_app (goodIn_of _ (by decide +kernel)) ggL_law_L_up
set_option maxRecDepth 20000 in
theorem ggL_law_X6_route : GoodIn wsL_law wsX6_route := goodIn_r _ [83, 13, 84, 85, 86, 87, 12, 88, 30, 89, 90, 91, 527, 528, 529, 530, 531, 532, 533, 534, 535, 536, 537, 538, 539, 540, 555, 556] rfl (by decide +kernel)
set_option maxRecDepth 20000 in
theorem gL_law_X6_route : GoodIn wsL_law (wsV RL 26 RX6 yX6_route wsX6_route) := goodIn_app (goodIn_of _ (by decide +kernel)) ggL_law_X6_route
set_option maxRecDepth 20000 in
theorem ggL_law_X6_join : GoodIn wsL_law wsX6_join := goodIn_r _ [451, 13, 350, 452, 453, 454, 12, 455, 121, 527, 528, 529, 530, 531, 532, 533, 534, 535, 536, 537, 538, 539, 540] rfl (by decide +kernel)
set_option maxRecDepth 20000 in
theorem gL_law_X6_join : GoodIn wsL_law (wsV RL 29 RX6 yX6_join wsX6_join) := goodIn_app (goodIn_of _ (by decide +kernel)) ggL_law_X6_join
set_option maxRecDepth 20000 in
theorem ggL_law_X6_set : GoodIn wsL_law wsX6_set := goodIn_r _ [106, 107, 108, 109, 13, 110, 527, 528, 529, 530, 531, 532, 533, 534, 535, 536, 537, 538, 539, 540] rfl (by decide +kernel)
set_option maxRecDepth 20000 in
theorem gL_law_X6_set : GoodIn wsL_law (wsV RL 33 RX6 yX6_set wsX6_set) := goodIn_app (goodIn_of _ (by decide +kernel)) ggL_law_X6_set
set_option maxRecDepth 20000 in
theorem ggL_law_L_act : GoodIn wsL_law wsL_act := goodIn_r _ [458, 346, 347, 348, 2, 349, 13, 110, 297, 84, 350, 116, 24, 351, 323, 324, 325, 12, 326, 138, 34, 176, 139, 140, 141, 43, 142, 143, 327, 328, 329, 330, 242, 331, 332, 333, 334, 283, 352, 353, 354, 355, 35, 76, 77, 69, 78, 79, 111, 112, 113, 114, 115, 117, 118, 119, 120, 121, 122, 123, 124, 125, 126, 100, 101, 102, 89, 127, 128, 129, 130, 131, 132, 133, 134, 135, 136, 137, 144, 145, 146, 147, 148, 149, 150, 151, 152, 153, 154, 155, 156, 157, 41, 158, 50, 159, 160, 161, 162, 163, 164, 165, 166, 167, 316, 317, 318, 319, 320, 321, 322, 335, 336, 337, 338, 339, 340, 341, 342, 247, 343, 250, 251, 298, 248, 299, 249, 307, 344, 252, 253, 254, 255, 345, 194, 195, 196, 37, 32, 197, 459, 460, 461, 36, 75, 361, 362, 363, 364, 20, 365, 366, 367, 177, 178, 179, 19, 180, 181, 182, 183, 184, 185, 57, 58, 186, 59, 187, 188, 189, 190, 191, 192, 193, 368, 369, 370, 371, 308, 309, 310, 311, 96, 97, 98, 312, 313, 291, 314, 315, 207, 208, 209, 210, 211, 212, 213, 198, 199, 200, 201, 30, 91, 202, 203, 204, 205, 90, 206, 172, 173, 174, 175, 168, 169, 170, 171, 214, 215, 216, 217, 60, 61, 218, 219, 220, 221, 222, 223, 224, 225, 226, 227, 228, 229, 230, 231, 232, 233, 234, 235, 236, 237, 238, 239, 240, 241, 243, 244, 245, 246, 256, 257, 258, 259, 260, 261, 262, 263, 264, 265, 266, 267, 268, 269, 270, 271, 272, 462, 463, 464, 465, 466, 467, 273, 274, 275, 276, 277, 278, 279, 280, 281, 282, 284, 285, 286, 287, 288, 289, 290, 292, 356, 357, 358, 359, 360, 303, 304, 305, 306, 468, 469, 470, 471, 472, 473, 474, 475, 476, 477, 478, 479, 480, 481, 482, 434, 483, 527, 528, 529, 530, 531, 532, 533, 534, 535, 536, 537, 538, 539, 540, 548, 549, 550, 551, 552, 553, 554, 560, 561, 562, 563, 564, 565, 566, 567, 568, 557, 558, 559, 541, 542, 543, 544, 545, 546, 547, 555, 556] rfl (by decide +kernel)
set_option maxRecDepth 20000 in
theorem gL_law_L_act : GoodIn wsL_law (va_wsS RL 37 yL_act wsL_act) := goodIn_app (goodIn_of _ (by decide +kernel)) ggL_law_L_act
set_option maxRecDepth 20000 in
theorem ggL_law_L_fits : GoodIn wsL_law wsL_fits := goodIn_r _ [486, 346, 347, 348, 2, 349, 13, 110, 297, 84, 350, 116, 24, 351, 323, 324, 325, 12, 326, 138, 34, 176, 139, 140, 141, 43, 142, 143, 327, 328, 329, 330, 242, 331, 332, 333, 334, 283, 352, 353, 354, 355, 35, 339, 340, 341, 342, 247, 343, 250, 251, 298, 248, 299, 249, 307, 344, 252, 253, 254, 255, 345, 194, 195, 196, 37, 32, 163, 197, 308, 309, 310, 311, 96, 97, 98, 312, 313, 291, 314, 122, 123, 124, 125, 126, 100, 101, 102, 89, 127, 128, 315, 207, 208, 209, 167, 210, 211, 212, 213, 154, 144, 145, 146, 147, 148, 149, 198, 199, 200, 201, 30, 91, 202, 203, 204, 205, 90, 206, 172, 173, 174, 175, 527, 528, 529, 530, 531, 532, 533, 534, 535, 536, 537, 538, 539, 540, 548, 549, 550, 551, 552, 553, 554, 560, 561, 562, 563, 564, 565, 566, 567, 568, 557, 558, 559, 555, 556] rfl (by decide +kernel)
set_option maxRecDepth 20000 in
theorem gL_law_L_fits : GoodIn wsL_law (va_wsS RL 41 yL_fits wsL_fits) := goodIn_app (goodIn_of _ (by decide +kernel)) ggL_law_L_fits
set_option maxRecDepth 20000 in
theorem ggL_law_L_adds : GoodIn wsL_law wsL_adds := goodIn_r _ [489, 346, 347, 348, 2, 349, 13, 110, 297, 84, 350, 116, 24, 351, 323, 324, 325, 12, 326, 138, 34, 176, 139, 140, 141, 43, 142, 143, 327, 328, 329, 330, 242, 331, 332, 333, 334, 283, 352, 353, 354, 355, 35, 316, 317, 318, 319, 115, 320, 321, 322, 117, 118, 119, 120, 121, 335, 336, 337, 338, 339, 340, 341, 342, 247, 343, 250, 251, 298, 248, 299, 249, 307, 344, 252, 253, 254, 255, 345, 194, 195, 196, 37, 32, 163, 197, 527, 528, 529, 530, 531, 532, 533, 534, 535, 536, 537, 538, 539, 540, 548, 549, 550, 551, 552, 553, 554, 560, 561, 562, 563, 564, 565, 566, 567, 568, 557, 558, 559] rfl (by decide +kernel)
set_option maxRecDepth 20000 in
theorem gL_law_L_adds : GoodIn wsL_law (va_wsS RL 45 yL_adds wsL_adds) := goodIn_app (goodIn_of _ (by decide +kernel)) ggL_law_L_adds
set_option maxRecDepth 20000 in
theorem ggL_law_L_drawn : GoodIn wsL_law wsL_drawn := goodIn_r _ [492, 493, 346, 347, 348, 2, 349, 13, 110, 297, 84, 350, 116, 24, 351, 323, 324, 325, 12, 326, 138, 34, 176, 139, 140, 141, 43, 142, 143, 327, 328, 329, 330, 242, 331, 332, 333, 334, 283, 352, 353, 354, 355, 35, 372, 373, 374, 375, 247, 248, 251, 20, 250, 376, 252, 253, 254, 255, 129, 130, 131, 132, 133, 127, 128, 177, 178, 179, 19, 180, 181, 182, 183, 184, 185, 57, 58, 186, 59, 187, 145, 146, 147, 148, 149, 188, 189, 190, 191, 32, 163, 165, 192, 156, 157, 41, 158, 50, 193, 194, 195, 196, 37, 197, 368, 369, 370, 371, 198, 199, 200, 201, 30, 91, 202, 203, 204, 205, 90, 206, 207, 208, 209, 167, 210, 211, 212, 213, 154, 144, 214, 215, 216, 217, 60, 61, 218, 219, 220, 221, 222, 223, 224, 225, 226, 76, 77, 69, 78, 79, 339, 340, 341, 342, 343, 298, 299, 249, 307, 344, 345, 415, 416, 417, 418, 14, 16, 419, 420, 421, 422, 89, 121, 423, 424, 425, 39, 426, 427, 428, 429, 430, 431, 432, 433, 434, 435, 436, 437, 438, 439, 440, 441, 442, 443, 103, 104, 105, 106, 107, 108, 109, 168, 169, 170, 171, 122, 123, 124, 125, 126, 100, 101, 102, 172, 173, 174, 175, 227, 228, 229, 230, 231, 232, 233, 234, 235, 236, 237, 238, 239, 240, 241, 444, 445, 446, 447, 527, 528, 529, 530, 531, 532, 533, 534, 535, 536, 537, 538, 539, 540, 548, 549, 550, 551, 552, 553, 554, 560, 561, 562, 563, 564, 565, 566, 567, 568, 541, 542, 543, 544, 545, 546, 547, 557, 558, 559, 555, 556] rfl (by decide +kernel)
set_option maxRecDepth 20000 in
theorem gL_law_L_drawn : GoodIn wsL_law (va_wsS RL 48 yL_drawn wsL_drawn) := goodIn_app (goodIn_of _ (by decide +kernel)) ggL_law_L_drawn
set_option maxRecDepth 20000 in
theorem ggL_law_L_told : GoodIn wsL_law wsL_told := goodIn_r _ [496, 497, 498, 499, 500, 501, 76, 77, 69, 78, 79, 415, 416, 417, 2, 418, 14, 13, 16, 297, 419, 420, 421, 12, 422, 133, 89, 121, 138, 30, 32, 34, 35, 37, 423, 424, 425, 39, 426, 427, 428, 429, 430, 431, 41, 432, 433, 434, 50, 435, 436, 437, 43, 438, 143, 149, 148, 439, 440, 154, 441, 442, 443, 111, 112, 113, 114, 115, 116, 117, 118, 119, 120, 122, 123, 124, 125, 126, 100, 101, 102, 127, 128, 129, 130, 131, 132, 134, 135, 136, 137, 139, 140, 141, 142, 144, 145, 146, 147, 150, 151, 152, 153, 155, 156, 157, 158, 159, 160, 161, 162, 163, 164, 165, 166, 167, 346, 347, 348, 349, 110, 84, 350, 24, 351, 323, 324, 325, 326, 176, 327, 328, 329, 330, 242, 331, 332, 333, 334, 283, 352, 353, 354, 355, 444, 445, 446, 447, 502, 503, 504, 505, 506, 507, 508, 509, 510, 511, 23, 512, 513, 514, 515, 516, 517, 518, 519, 66, 391, 520, 521, 522, 523, 386, 387, 388, 389, 390, 392, 393, 394, 395, 396, 397, 398, 399, 400, 401, 402, 403, 404, 405, 406, 407, 408, 409, 410, 411, 377, 378, 379, 380, 381, 382, 383, 384, 385, 412, 413, 414, 339, 340, 341, 342, 247, 343, 250, 251, 298, 248, 299, 249, 307, 344, 252, 253, 254, 255, 345, 194, 195, 196, 197, 243, 244, 245, 246, 256, 257, 258, 259, 260, 261, 262, 263, 264, 265, 266, 199, 200, 201, 91, 202, 203, 204, 205, 90, 206, 207, 208, 209, 210, 211, 212, 213, 267, 268, 269, 270, 271, 189, 190, 191, 192, 272, 239, 240, 241, 527, 528, 529, 530, 531, 532, 533, 534, 535, 536, 537, 538, 539, 540, 555, 556, 557, 558, 559, 560, 561, 562, 563, 564, 565, 566, 567, 568, 548, 549, 550, 551, 552, 553, 554] rfl (by decide +kernel)
set_option maxRecDepth 20000 in
theorem gL_law_L_told : GoodIn wsL_law (va_wsS RL 51 yL_told wsL_told) := goodIn_app (goodIn_of _ (by decide +kernel)) ggL_law_L_told
set_option maxRecDepth 20000 in
theorem ggL_law_L_kept : GoodIn wsL_law wsL_kept := goodIn_r _ [526, 415, 416, 417, 2, 418, 14, 13, 16, 297, 419, 420, 421, 12, 422, 133, 89, 121, 138, 30, 32, 34, 35, 37, 423, 424, 425, 39, 426, 427, 428, 429, 430, 431, 41, 432, 433, 434, 50, 435, 436, 437, 43, 438, 143, 149, 148, 439, 440, 154, 441, 442, 443, 346, 347, 348, 349, 110, 84, 350, 116, 24, 351, 323, 324, 325, 326, 176, 139, 140, 141, 142, 327, 328, 329, 330, 242, 331, 332, 333, 334, 283, 352, 353, 354, 355, 316, 317, 318, 319, 115, 320, 321, 322, 117, 118, 119, 120, 335, 336, 337, 338, 339, 340, 341, 342, 247, 343, 250, 251, 298, 248, 299, 249, 307, 344, 252, 253, 254, 255, 345, 194, 195, 196, 163, 197, 103, 104, 105, 106, 107, 108, 109, 92, 93, 94, 95, 96, 97, 98, 99, 100, 101, 102, 111, 112, 113, 114, 122, 123, 124, 125, 126, 127, 128, 129, 130, 131, 132, 134, 135, 136, 137, 144, 145, 146, 147, 150, 151, 152, 153, 155, 156, 157, 158, 159, 160, 161, 162, 164, 165, 166, 167, 168, 169, 170, 171, 20, 172, 173, 174, 175, 177, 178, 179, 19, 180, 181, 182, 183, 184, 185, 57, 58, 186, 59, 187, 188, 189, 190, 191, 192, 193, 198, 199, 200, 201, 91, 202, 203, 204, 205, 90, 206, 207, 208, 209, 210, 211, 212, 213, 214, 215, 216, 217, 60, 61, 218, 219, 220, 221, 222, 223, 224, 225, 226, 227, 228, 229, 230, 231, 232, 233, 234, 235, 236, 237, 238, 239, 240, 241, 273, 274, 275, 276, 277, 278, 279, 280, 281, 282, 284, 285, 286, 287, 288, 289, 290, 291, 292, 265, 471, 472, 473, 474, 475, 476, 477, 478, 479, 480, 481, 482, 483, 313, 314, 76, 77, 69, 78, 79, 444, 445, 446, 447, 527, 528, 529, 530, 531, 532, 533, 534, 535, 536, 537, 538, 539, 540, 555, 556, 557, 558, 559, 560, 561, 562, 563, 564, 565, 566, 567, 568, 548, 549, 550, 551, 552, 553, 554, 541, 542, 543, 544, 545, 546, 547] rfl (by decide +kernel)
set_option maxRecDepth 20000 in
theorem gL_law_L_kept : GoodIn wsL_law (va_wsS RL 54 yL_kept wsL_kept) := goodIn_app (goodIn_of _ (by decide +kernel)) ggL_law_L_kept
theorem dL_law_0 : decode cL_law 0 = .ok (.new 9, 3) := by decide +kernel
theorem dL_law_3 : decode cL_law 3 = .ok (.dup, 1) := by decide +kernel
theorem dL_law_4 : decode cL_law 4 = .ok (.invokespecial 11, 3) := by decide +kernel
theorem dL_law_7 : decode cL_law 7 = .ok (.astore_n 1, 1) := by decide +kernel
theorem dL_law_8 : decode cL_law 8 = .ok (.iconst 0, 1) := by decide +kernel
theorem dL_law_9 : decode cL_law 9 = .ok (.istore_n 2, 1) := by decide +kernel
theorem dL_law_10 : decode cL_law 10 = .ok (.aload_n 1, 1) := by decide +kernel
theorem dL_law_11 : decode cL_law 11 = .ok (.aload_n 0, 1) := by decide +kernel
theorem dL_law_12 : decode cL_law 12 = .ok (.iload_n 2, 1) := by decide +kernel
theorem dL_law_13 : decode cL_law 13 = .ok (.iinc 2 1, 3) := by decide +kernel
theorem dL_law_16 : decode cL_law 16 = .ok (.invokestatic 12, 3) := by decide +kernel
theorem dL_law_19 : decode cL_law 19 = .ok (.invokestatic 18, 3) := by decide +kernel
theorem dL_law_22 : decode cL_law 22 = .ok (.ifCond .ne 5, 3) := by decide +kernel
theorem dL_law_25 : decode cL_law 25 = .ok (.iconst 0, 1) := by decide +kernel
theorem dL_law_26 : decode cL_law 26 = .ok (.ireturn, 1) := by decide +kernel
theorem dL_law_27 : decode cL_law 27 = .ok (.aload_n 0, 1) := by decide +kernel
theorem dL_law_28 : decode cL_law 28 = .ok (.iload_n 2, 1) := by decide +kernel
theorem dL_law_29 : decode cL_law 29 = .ok (.iinc 2 1, 3) := by decide +kernel
theorem dL_law_32 : decode cL_law 32 = .ok (.invokestatic 12, 3) := by decide +kernel
theorem dL_law_35 : decode cL_law 35 = .ok (.istore_n 3, 1) := by decide +kernel
theorem dL_law_36 : decode cL_law 36 = .ok (.iconst 0, 1) := by decide +kernel
theorem dL_law_37 : decode cL_law 37 = .ok (.istore 4, 2) := by decide +kernel
theorem dL_law_39 : decode cL_law 39 = .ok (.iload 4, 2) := by decide +kernel
theorem dL_law_41 : decode cL_law 41 = .ok (.iconst 1, 1) := by decide +kernel
theorem dL_law_42 : decode cL_law 42 = .ok (.iload_n 3, 1) := by decide +kernel
theorem dL_law_43 : decode cL_law 43 = .ok (.iconst 4, 1) := by decide +kernel
theorem dL_law_44 : decode cL_law 44 = .ok (.invokestatic 22, 3) := by decide +kernel
theorem dL_law_47 : decode cL_law 47 = .ok (.iadd, 1) := by decide +kernel
theorem dL_law_48 : decode cL_law 48 = .ok (.if_icmp .ge 56, 3) := by decide +kernel
theorem dL_law_51 : decode cL_law 51 = .ok (.iconst 1, 1) := by decide +kernel
theorem dL_law_52 : decode cL_law 52 = .ok (.iload_n 3, 1) := by decide +kernel
theorem dL_law_53 : decode cL_law 53 = .ok (.iconst 2, 1) := by decide +kernel
theorem dL_law_54 : decode cL_law 54 = .ok (.iload 4, 2) := by decide +kernel
theorem dL_law_56 : decode cL_law 56 = .ok (.imul, 1) := by decide +kernel
theorem dL_law_57 : decode cL_law 57 = .ok (.iconst 2, 1) := by decide +kernel
theorem dL_law_58 : decode cL_law 58 = .ok (.iadd, 1) := by decide +kernel
theorem dL_law_59 : decode cL_law 59 = .ok (.ishr, 1) := by decide +kernel
theorem dL_law_60 : decode cL_law 60 = .ok (.bipush 12, 2) := by decide +kernel
theorem dL_law_62 : decode cL_law 62 = .ok (.invokestatic 22, 3) := by decide +kernel
theorem dL_law_65 : decode cL_law 65 = .ok (.iadd, 1) := by decide +kernel
theorem dL_law_66 : decode cL_law 66 = .ok (.istore 5, 2) := by decide +kernel
theorem dL_law_68 : decode cL_law 68 = .ok (.aload_n 1, 1) := by decide +kernel
theorem dL_law_69 : decode cL_law 69 = .ok (.iload 5, 2) := by decide +kernel
theorem dL_law_71 : decode cL_law 71 = .ok (.iload_n 3, 1) := by decide +kernel
theorem dL_law_72 : decode cL_law 72 = .ok (.iconst 2, 1) := by decide +kernel
theorem dL_law_73 : decode cL_law 73 = .ok (.iload 4, 2) := by decide +kernel
theorem dL_law_75 : decode cL_law 75 = .ok (.imul, 1) := by decide +kernel
theorem dL_law_76 : decode cL_law 76 = .ok (.iconst 5, 1) := by decide +kernel
theorem dL_law_77 : decode cL_law 77 = .ok (.iadd, 1) := by decide +kernel
theorem dL_law_78 : decode cL_law 78 = .ok (.ishr, 1) := by decide +kernel
theorem dL_law_79 : decode cL_law 79 = .ok (.iload 5, 2) := by decide +kernel
theorem dL_law_81 : decode cL_law 81 = .ok (.iconst 1, 1) := by decide +kernel
theorem dL_law_82 : decode cL_law 82 = .ok (.iadd, 1) := by decide +kernel
theorem dL_law_83 : decode cL_law 83 = .ok (.invokestatic 22, 3) := by decide +kernel
theorem dL_law_86 : decode cL_law 86 = .ok (.iconst 2, 1) := by decide +kernel
theorem dL_law_87 : decode cL_law 87 = .ok (.idiv, 1) := by decide +kernel
theorem dL_law_88 : decode cL_law 88 = .ok (.invokevirtual 26, 3) := by decide +kernel
theorem dL_law_91 : decode cL_law 91 = .ok (.iload 4, 2) := by decide +kernel
theorem dL_law_93 : decode cL_law 93 = .ok (.if_icmp .eq 5, 3) := by decide +kernel
theorem dL_law_96 : decode cL_law 96 = .ok (.iconst 0, 1) := by decide +kernel
theorem dL_law_97 : decode cL_law 97 = .ok (.ireturn, 1) := by decide +kernel
theorem dL_law_98 : decode cL_law 98 = .ok (.iinc 4 1, 3) := by decide +kernel
theorem dL_law_101 : decode cL_law 101 = .ok (.goto (-62), 3) := by decide +kernel
theorem dL_law_104 : decode cL_law 104 = .ok (.iconst 0, 1) := by decide +kernel
theorem dL_law_105 : decode cL_law 105 = .ok (.istore 4, 2) := by decide +kernel
theorem dL_law_107 : decode cL_law 107 = .ok (.iload 4, 2) := by decide +kernel
theorem dL_law_109 : decode cL_law 109 = .ok (.iconst 2, 1) := by decide +kernel
theorem dL_law_110 : decode cL_law 110 = .ok (.iload_n 3, 1) := by decide +kernel
theorem dL_law_111 : decode cL_law 111 = .ok (.iconst 4, 1) := by decide +kernel
theorem dL_law_112 : decode cL_law 112 = .ok (.ishr, 1) := by decide +kernel
theorem dL_law_113 : decode cL_law 113 = .ok (.bipush 9, 2) := by decide +kernel
theorem dL_law_115 : decode cL_law 115 = .ok (.invokestatic 22, 3) := by decide +kernel
theorem dL_law_118 : decode cL_law 118 = .ok (.iadd, 1) := by decide +kernel
theorem dL_law_119 : decode cL_law 119 = .ok (.if_icmp .ge 20, 3) := by decide +kernel
theorem dL_law_122 : decode cL_law 122 = .ok (.aload_n 1, 1) := by decide +kernel
theorem dL_law_123 : decode cL_law 123 = .ok (.invokevirtual 29, 3) := by decide +kernel
theorem dL_law_126 : decode cL_law 126 = .ok (.iload 4, 2) := by decide +kernel
theorem dL_law_128 : decode cL_law 128 = .ok (.if_icmp .eq 5, 3) := by decide +kernel
theorem dL_law_131 : decode cL_law 131 = .ok (.iconst 0, 1) := by decide +kernel
theorem dL_law_132 : decode cL_law 132 = .ok (.ireturn, 1) := by decide +kernel
theorem dL_law_133 : decode cL_law 133 = .ok (.iinc 4 1, 3) := by decide +kernel
theorem dL_law_136 : decode cL_law 136 = .ok (.goto (-29), 3) := by decide +kernel
theorem dL_law_139 : decode cL_law 139 = .ok (.aload_n 1, 1) := by decide +kernel
theorem dL_law_140 : decode cL_law 140 = .ok (.iconst 0, 1) := by decide +kernel
theorem dL_law_141 : decode cL_law 141 = .ok (.iconst 1, 1) := by decide +kernel
theorem dL_law_142 : decode cL_law 142 = .ok (.iload_n 3, 1) := by decide +kernel
theorem dL_law_143 : decode cL_law 143 = .ok (.bipush 7, 2) := by decide +kernel
theorem dL_law_145 : decode cL_law 145 = .ok (.ishr, 1) := by decide +kernel
theorem dL_law_146 : decode cL_law 146 = .ok (.sipush 300, 3) := by decide +kernel
theorem dL_law_149 : decode cL_law 149 = .ok (.invokestatic 22, 3) := by decide +kernel
theorem dL_law_152 : decode cL_law 152 = .ok (.iadd, 1) := by decide +kernel
theorem dL_law_153 : decode cL_law 153 = .ok (.invokevirtual 33, 3) := by decide +kernel
theorem dL_law_156 : decode cL_law 156 = .ok (.pop, 1) := by decide +kernel
theorem dL_law_157 : decode cL_law 157 = .ok (.aload_n 1, 1) := by decide +kernel
theorem dL_law_158 : decode cL_law 158 = .ok (.iconst 1, 1) := by decide +kernel
theorem dL_law_159 : decode cL_law 159 = .ok (.iload_n 3, 1) := by decide +kernel
theorem dL_law_160 : decode cL_law 160 = .ok (.iconst 5, 1) := by decide +kernel
theorem dL_law_161 : decode cL_law 161 = .ok (.ishr, 1) := by decide +kernel
theorem dL_law_162 : decode cL_law 162 = .ok (.bipush 10, 2) := by decide +kernel
theorem dL_law_164 : decode cL_law 164 = .ok (.invokestatic 22, 3) := by decide +kernel
theorem dL_law_167 : decode cL_law 167 = .ok (.invokevirtual 33, 3) := by decide +kernel
theorem dL_law_170 : decode cL_law 170 = .ok (.pop, 1) := by decide +kernel
theorem dL_law_171 : decode cL_law 171 = .ok (.aload_n 1, 1) := by decide +kernel
theorem dL_law_172 : decode cL_law 172 = .ok (.iconst 2, 1) := by decide +kernel
theorem dL_law_173 : decode cL_law 173 = .ok (.iconst 1, 1) := by decide +kernel
theorem dL_law_174 : decode cL_law 174 = .ok (.iload_n 3, 1) := by decide +kernel
theorem dL_law_175 : decode cL_law 175 = .ok (.bipush 9, 2) := by decide +kernel
theorem dL_law_177 : decode cL_law 177 = .ok (.ishr, 1) := by decide +kernel
theorem dL_law_178 : decode cL_law 178 = .ok (.iconst 3, 1) := by decide +kernel
theorem dL_law_179 : decode cL_law 179 = .ok (.invokestatic 22, 3) := by decide +kernel
theorem dL_law_182 : decode cL_law 182 = .ok (.iadd, 1) := by decide +kernel
theorem dL_law_183 : decode cL_law 183 = .ok (.invokevirtual 33, 3) := by decide +kernel
theorem dL_law_186 : decode cL_law 186 = .ok (.pop, 1) := by decide +kernel
theorem dL_law_187 : decode cL_law 187 = .ok (.aload_n 1, 1) := by decide +kernel
theorem dL_law_188 : decode cL_law 188 = .ok (.iconst 5, 1) := by decide +kernel
theorem dL_law_189 : decode cL_law 189 = .ok (.iload_n 3, 1) := by decide +kernel
theorem dL_law_190 : decode cL_law 190 = .ok (.ldc 36, 2) := by decide +kernel
theorem dL_law_192 : decode cL_law 192 = .ok (.invokestatic 22, 3) := by decide +kernel
theorem dL_law_195 : decode cL_law 195 = .ok (.invokevirtual 33, 3) := by decide +kernel
theorem dL_law_198 : decode cL_law 198 = .ok (.pop, 1) := by decide +kernel
theorem dL_law_199 : decode cL_law 199 = .ok (.iconst 0, 1) := by decide +kernel
theorem dL_law_200 : decode cL_law 200 = .ok (.istore 4, 2) := by decide +kernel
theorem dL_law_202 : decode cL_law 202 = .ok (.iload 4, 2) := by decide +kernel
theorem dL_law_204 : decode cL_law 204 = .ok (.bipush 26, 2) := by decide +kernel
theorem dL_law_206 : decode cL_law 206 = .ok (.if_icmp .ge 66, 3) := by decide +kernel
theorem dL_law_209 : decode cL_law 209 = .ok (.aload_n 0, 1) := by decide +kernel
theorem dL_law_210 : decode cL_law 210 = .ok (.iload_n 2, 1) := by decide +kernel
theorem dL_law_211 : decode cL_law 211 = .ok (.iinc 2 1, 3) := by decide +kernel
theorem dL_law_214 : decode cL_law 214 = .ok (.invokestatic 12, 3) := by decide +kernel
theorem dL_law_217 : decode cL_law 217 = .ok (.istore_n 3, 1) := by decide +kernel
theorem dL_law_218 : decode cL_law 218 = .ok (.aload_n 1, 1) := by decide +kernel
theorem dL_law_219 : decode cL_law 219 = .ok (.iload_n 3, 1) := by decide +kernel
theorem dL_law_220 : decode cL_law 220 = .ok (.aload_n 0, 1) := by decide +kernel
theorem dL_law_221 : decode cL_law 221 = .ok (.iload_n 2, 1) := by decide +kernel
theorem dL_law_222 : decode cL_law 222 = .ok (.iinc 2 1, 3) := by decide +kernel
theorem dL_law_225 : decode cL_law 225 = .ok (.invokestatic 12, 3) := by decide +kernel
theorem dL_law_228 : decode cL_law 228 = .ok (.aload_n 0, 1) := by decide +kernel
theorem dL_law_229 : decode cL_law 229 = .ok (.iload_n 2, 1) := by decide +kernel
theorem dL_law_230 : decode cL_law 230 = .ok (.iinc 2 1, 3) := by decide +kernel
theorem dL_law_233 : decode cL_law 233 = .ok (.invokestatic 12, 3) := by decide +kernel
theorem dL_law_236 : decode cL_law 236 = .ok (.invokestatic 37, 3) := by decide +kernel
theorem dL_law_239 : decode cL_law 239 = .ok (.ifCond .eq 25, 3) := by decide +kernel
theorem dL_law_242 : decode cL_law 242 = .ok (.iload 4, 2) := by decide +kernel
theorem dL_law_244 : decode cL_law 244 = .ok (.iconst 4, 1) := by decide +kernel
theorem dL_law_245 : decode cL_law 245 = .ok (.irem, 1) := by decide +kernel
theorem dL_law_246 : decode cL_law 246 = .ok (.iconst 3, 1) := by decide +kernel
theorem dL_law_247 : decode cL_law 247 = .ok (.if_icmp .ne 19, 3) := by decide +kernel
theorem dL_law_250 : decode cL_law 250 = .ok (.aload_n 1, 1) := by decide +kernel
theorem dL_law_251 : decode cL_law 251 = .ok (.invokestatic 41, 3) := by decide +kernel
theorem dL_law_254 : decode cL_law 254 = .ok (.ifCond .eq 10, 3) := by decide +kernel
theorem dL_law_257 : decode cL_law 257 = .ok (.aload_n 1, 1) := by decide +kernel
theorem dL_law_258 : decode cL_law 258 = .ok (.invokestatic 45, 3) := by decide +kernel
theorem dL_law_261 : decode cL_law 261 = .ok (.ifCond .ne 5, 3) := by decide +kernel
theorem dL_law_264 : decode cL_law 264 = .ok (.iconst 0, 1) := by decide +kernel
theorem dL_law_265 : decode cL_law 265 = .ok (.ireturn, 1) := by decide +kernel
theorem dL_law_266 : decode cL_law 266 = .ok (.iinc 4 1, 3) := by decide +kernel
theorem dL_law_269 : decode cL_law 269 = .ok (.goto (-67), 3) := by decide +kernel
theorem dL_law_272 : decode cL_law 272 = .ok (.aload_n 0, 1) := by decide +kernel
theorem dL_law_273 : decode cL_law 273 = .ok (.iload_n 2, 1) := by decide +kernel
theorem dL_law_274 : decode cL_law 274 = .ok (.iinc 2 1, 3) := by decide +kernel
theorem dL_law_277 : decode cL_law 277 = .ok (.invokestatic 12, 3) := by decide +kernel
theorem dL_law_280 : decode cL_law 280 = .ok (.istore_n 3, 1) := by decide +kernel
theorem dL_law_281 : decode cL_law 281 = .ok (.aload_n 1, 1) := by decide +kernel
theorem dL_law_282 : decode cL_law 282 = .ok (.iload_n 3, 1) := by decide +kernel
theorem dL_law_283 : decode cL_law 283 = .ok (.invokestatic 48, 3) := by decide +kernel
theorem dL_law_286 : decode cL_law 286 = .ok (.ifCond .eq 51, 3) := by decide +kernel
theorem dL_law_289 : decode cL_law 289 = .ok (.aload_n 1, 1) := by decide +kernel
theorem dL_law_290 : decode cL_law 290 = .ok (.aload_n 0, 1) := by decide +kernel
theorem dL_law_291 : decode cL_law 291 = .ok (.iload_n 2, 1) := by decide +kernel
theorem dL_law_292 : decode cL_law 292 = .ok (.iinc 2 1, 3) := by decide +kernel
theorem dL_law_295 : decode cL_law 295 = .ok (.invokestatic 12, 3) := by decide +kernel
theorem dL_law_298 : decode cL_law 298 = .ok (.invokestatic 51, 3) := by decide +kernel
theorem dL_law_301 : decode cL_law 301 = .ok (.ifCond .eq 36, 3) := by decide +kernel
theorem dL_law_304 : decode cL_law 304 = .ok (.aload_n 1, 1) := by decide +kernel
theorem dL_law_305 : decode cL_law 305 = .ok (.aload_n 0, 1) := by decide +kernel
theorem dL_law_306 : decode cL_law 306 = .ok (.iload_n 2, 1) := by decide +kernel
theorem dL_law_307 : decode cL_law 307 = .ok (.iinc 2 1, 3) := by decide +kernel
theorem dL_law_310 : decode cL_law 310 = .ok (.invokestatic 12, 3) := by decide +kernel
theorem dL_law_313 : decode cL_law 313 = .ok (.invokestatic 54, 3) := by decide +kernel
theorem dL_law_316 : decode cL_law 316 = .ok (.ifCond .eq 21, 3) := by decide +kernel
theorem dL_law_319 : decode cL_law 319 = .ok (.aload_n 1, 1) := by decide +kernel
theorem dL_law_320 : decode cL_law 320 = .ok (.invokestatic 41, 3) := by decide +kernel
theorem dL_law_323 : decode cL_law 323 = .ok (.ifCond .eq 14, 3) := by decide +kernel
theorem dL_law_326 : decode cL_law 326 = .ok (.aload_n 1, 1) := by decide +kernel
theorem dL_law_327 : decode cL_law 327 = .ok (.invokestatic 45, 3) := by decide +kernel
theorem dL_law_330 : decode cL_law 330 = .ok (.ifCond .eq 7, 3) := by decide +kernel
theorem dL_law_333 : decode cL_law 333 = .ok (.iconst 1, 1) := by decide +kernel
theorem dL_law_334 : decode cL_law 334 = .ok (.goto 4, 3) := by decide +kernel
theorem dL_law_337 : decode cL_law 337 = .ok (.iconst 0, 1) := by decide +kernel
theorem dL_law_338 : decode cL_law 338 = .ok (.ireturn, 1) := by decide +kernel
set_option maxRecDepth 20000 in
theorem ggL_act_X6_count : GoodIn wsL_act wsX6_count := goodIn_r _ [5, 6, 7, 8, 9, 10, 11, 12, 13, 14, 15, 16, 17, 18, 19, 20, 21, 22, 23, 24, 25, 26, 27, 28, 29, 30, 31, 32, 33, 34, 35, 36, 37, 38, 39, 40, 41, 42, 318, 319, 320, 321, 322, 323, 324, 325, 326, 327, 328, 329, 330, 331, 332, 333, 334, 335, 336, 337, 338, 339, 340, 341, 342, 343, 344, 345, 346, 347] rfl (by decide +kernel)
set_option maxRecDepth 20000 in
theorem gL_act_X6_count : GoodIn wsL_act (wsV RL 57 RX6 yX6_count wsX6_count) := goodIn_app (goodIn_of _ (by decide +kernel)) ggL_act_X6_count
set_option maxRecDepth 20000 in
theorem ggL_act_L_up : GoodIn wsL_act wsL_up := goodIn_r _ [46, 47] rfl (by decide +kernel)
set_option maxRecDepth 20000 in
theorem gL_act_L_up : GoodIn wsL_act (va_wsS RL 22 yL_up wsL_up) := goodIn_app (goodIn_of _ (by decide +kernel)) ggL_act_L_up
set_option maxRecDepth 20000 in
theorem ggL_act_X6_apply : GoodIn wsL_act wsX6_apply := goodIn_r _ [51, 6, 52, 11, 53, 54, 55, 17, 56, 57, 58, 59, 60, 61, 62, 63, 64, 65, 66, 67, 4, 68, 69, 70, 71, 72, 73, 42, 74, 75, 76, 77, 19, 20, 22, 23, 24, 25, 26, 27, 78, 79, 80, 81, 82, 83, 84, 85, 86, 87, 88, 89, 90, 91, 92, 93, 94, 95, 96, 97, 98, 99, 100, 101, 102, 103, 318, 319, 320, 321, 322, 323, 324, 325, 326, 327, 328, 329, 330, 331, 339, 340, 341, 342, 343, 344, 345, 346, 347, 348, 349, 350] rfl (by decide +kernel)
set_option maxRecDepth 20000 in
theorem gL_act_X6_apply : GoodIn wsL_act (wsV RL 61 RX6 yX6_apply wsX6_apply) := goodIn_app (goodIn_of _ (by decide +kernel)) ggL_act_X6_apply
set_option maxRecDepth 20000 in
theorem ggL_act_X6_climber : GoodIn wsL_act wsX6_climber := goodIn_r _ [107, 6, 52, 108, 109, 110, 53, 54, 55, 17, 56, 57, 14, 15, 16, 18, 19, 20, 21, 22, 23, 24, 25, 26, 27, 28, 29, 30, 31, 32, 33, 34, 35, 36, 37, 111, 112, 113, 114, 318, 319, 320, 321, 322, 323, 324, 325, 326, 327, 328, 329, 330, 331, 348, 349, 350, 339, 340, 341, 342, 343, 344, 345, 346, 347] rfl (by decide +kernel)
set_option maxRecDepth 20000 in
theorem gL_act_X6_climber : GoodIn wsL_act (wsV RL 65 RX6 yX6_climber wsX6_climber) := goodIn_app (goodIn_of _ (by decide +kernel)) ggL_act_X6_climber
set_option maxRecDepth 20000 in
theorem ggL_act_X6_application : GoodIn wsL_act wsX6_application := goodIn_r _ [118, 6, 119, 120, 121, 122, 123, 124, 125, 126, 127, 128, 129, 130, 131, 17, 132, 19, 133, 134, 135, 136, 137, 138, 99, 139, 318, 319, 320, 321, 322, 323, 324, 325, 326, 327, 328, 329, 330, 331, 339, 340, 341, 342, 343, 344, 345, 346, 347, 348, 349, 350] rfl (by decide +kernel)
set_option maxRecDepth 20000 in
theorem gL_act_X6_application : GoodIn wsL_act (wsV RL 68 RX6 yX6_application wsX6_application) := goodIn_app (goodIn_of _ (by decide +kernel)) ggL_act_X6_application
set_option maxRecDepth 20000 in
theorem ggL_act_L_holds : GoodIn wsL_act wsL_holds := goodIn_r _ [142, 143, 144, 1, 2, 3, 4, 5, 6, 7, 8, 9, 10, 11, 12, 13, 14, 15, 16, 17, 18, 19, 20, 21, 22, 23, 24, 25, 26, 27, 28, 29, 30, 31, 32, 33, 34, 35, 36, 37, 38, 39, 40, 41, 42, 115, 116, 117, 118, 119, 120, 121, 122, 123, 124, 125, 126, 127, 128, 129, 130, 131, 132, 133, 134, 135, 136, 137, 138, 99, 139, 104, 105, 106, 107, 52, 108, 109, 110, 53, 54, 55, 56, 57, 111, 112, 113, 114, 145, 146, 147, 148, 149, 150, 151, 152, 153, 154, 155, 156, 157, 158, 159, 160, 161, 162, 163, 164, 165, 166, 167, 79, 80, 81, 82, 83, 168, 169, 170, 171, 101, 172, 90, 91, 92, 93, 94, 173, 174, 175, 176, 177, 178, 179, 180, 181, 182, 183, 184, 185, 186, 187, 188, 58, 59, 60, 61, 62, 63, 64, 65, 66, 67, 68, 189, 190, 191, 192, 103, 193, 194, 195, 196, 88, 78, 197, 198, 199, 200, 201, 202, 203, 204, 205, 206, 207, 208, 209, 210, 211, 212, 213, 214, 215, 216, 69, 70, 71, 72, 73, 217, 218, 219, 220, 221, 222, 223, 224, 225, 226, 227, 228, 229, 230, 231, 232, 233, 234, 235, 236, 237, 238, 239, 240, 241, 242, 243, 244, 245, 246, 318, 319, 320, 321, 322, 323, 324, 325, 326, 327, 328, 329, 330, 331, 332, 333, 334, 335, 336, 337, 338, 339, 340, 341, 342, 343, 344, 345, 346, 347, 348, 349, 350, 351, 352, 353, 354, 355, 356, 357, 358, 359] rfl (by decide +kernel)
set_option maxRecDepth 20000 in
theorem gL_act_L_holds : GoodIn wsL_act (va_wsS RL 71 yL_holds wsL_holds) := goodIn_app (goodIn_of _ (by decide +kernel)) ggL_act_L_holds
set_option maxRecDepth 20000 in
theorem ggL_act_X6_cancel : GoodIn wsL_act wsX6_cancel := goodIn_r _ [250, 6, 119, 124, 126, 121, 122, 129, 130, 131, 17, 132, 19, 251, 85, 86, 25, 87, 88, 252, 253, 254, 255, 101, 73, 32, 256, 257, 258, 259, 20, 138, 99, 139, 260, 70, 71, 72, 42, 67, 4, 68, 261, 198, 199, 200, 201, 202, 203, 204, 205, 206, 207, 208, 190, 191, 192, 103, 193, 194, 195, 196, 78, 79, 80, 81, 82, 83, 262, 263, 264, 265, 21, 266, 169, 170, 171, 172, 90, 91, 92, 93, 94, 267, 244, 245, 246, 137, 318, 319, 320, 321, 322, 323, 324, 325, 326, 327, 328, 329, 330, 331, 339, 340, 341, 342, 343, 344, 345, 346, 347, 348, 349, 350, 358, 359] rfl (by decide +kernel)
set_option maxRecDepth 20000 in
theorem gL_act_X6_cancel : GoodIn wsL_act (wsV RL 75 RX6 yX6_cancel wsX6_cancel) := goodIn_app (goodIn_of _ (by decide +kernel)) ggL_act_X6_cancel
set_option maxRecDepth 20000 in
theorem ggL_act_L_cancels : GoodIn wsL_act wsL_cancels := goodIn_r _ [270, 115, 116, 117, 4, 118, 6, 119, 120, 121, 122, 123, 124, 125, 126, 127, 128, 129, 130, 131, 17, 132, 19, 133, 134, 135, 136, 137, 138, 99, 139, 1, 2, 3, 5, 7, 8, 9, 10, 11, 12, 13, 14, 15, 16, 18, 20, 21, 22, 23, 24, 25, 26, 27, 28, 29, 30, 31, 32, 33, 34, 35, 36, 37, 38, 39, 40, 41, 42, 247, 248, 249, 250, 251, 85, 86, 87, 88, 252, 253, 254, 255, 101, 73, 256, 257, 258, 259, 260, 70, 71, 72, 67, 68, 261, 198, 199, 200, 201, 202, 203, 204, 205, 206, 207, 208, 190, 191, 192, 103, 193, 194, 195, 196, 78, 79, 80, 81, 82, 83, 262, 263, 264, 265, 266, 169, 170, 171, 172, 90, 91, 92, 93, 94, 267, 244, 245, 246, 178, 179, 180, 181, 182, 183, 184, 185, 186, 187, 188, 58, 59, 60, 61, 62, 63, 64, 65, 66, 189, 197, 209, 210, 211, 212, 104, 105, 106, 107, 52, 108, 109, 110, 53, 54, 55, 56, 57, 111, 112, 113, 114, 318, 319, 320, 321, 322, 323, 324, 325, 326, 327, 328, 329, 330, 331, 339, 340, 341, 342, 343, 344, 345, 346, 347, 348, 349, 350, 332, 333, 334, 335, 336, 337, 338, 358, 359] rfl (by decide +kernel)
set_option maxRecDepth 20000 in
theorem gL_act_L_cancels : GoodIn wsL_act (va_wsS RL 78 yL_cancels wsL_cancels) := goodIn_app (goodIn_of _ (by decide +kernel)) ggL_act_L_cancels
set_option maxRecDepth 20000 in
theorem ggL_act_L_closes : GoodIn wsL_act wsL_closes := goodIn_r _ [273, 143, 1, 2, 3, 4, 5, 6, 7, 8, 9, 10, 11, 12, 13, 14, 15, 16, 17, 18, 19, 20, 21, 22, 23, 24, 25, 26, 27, 28, 29, 30, 31, 32, 33, 34, 35, 36, 37, 38, 39, 40, 41, 42, 115, 116, 117, 118, 119, 120, 121, 122, 123, 124, 125, 126, 127, 128, 129, 130, 131, 132, 133, 134, 135, 136, 137, 138, 99, 139, 274, 275, 276, 277, 278, 279, 67, 68, 69, 70, 71, 72, 73, 280, 281, 282, 283, 101, 284, 285, 286, 287, 288, 289, 290, 187, 291, 103, 100, 260, 203, 204, 205, 206, 201, 207, 208, 190, 191, 192, 193, 194, 195, 196, 88, 78, 79, 80, 81, 82, 83, 232, 233, 234, 235, 178, 179, 180, 181, 182, 183, 184, 185, 186, 188, 58, 59, 60, 61, 62, 63, 64, 65, 66, 189, 197, 198, 199, 200, 202, 209, 210, 211, 212, 292, 293, 294, 295, 296, 263, 264, 265, 266, 169, 170, 171, 172, 90, 91, 92, 93, 94, 318, 319, 320, 321, 322, 323, 324, 325, 326, 327, 328, 329, 330, 331, 332, 333, 334, 335, 336, 337, 338, 339, 340, 341, 342, 343, 344, 345, 346, 347, 348, 349, 350, 358, 359] rfl (by decide +kernel)
set_option maxRecDepth 20000 in
theorem gL_act_L_closes : GoodIn wsL_act (va_wsS RL 81 yL_closes wsL_closes) := goodIn_app (goodIn_of _ (by decide +kernel)) ggL_act_L_closes
set_option maxRecDepth 20000 in
theorem ggL_act_X6_show : GoodIn wsL_act wsX6_show := goodIn_r _ [300, 6, 119, 124, 122, 8, 127, 129, 130, 131, 17, 132, 19, 318, 319, 320, 321, 322, 323, 324, 325, 326, 327, 328, 329, 330, 331, 339, 340, 341, 342, 343, 344, 345, 346, 347] rfl (by decide +kernel)
set_option maxRecDepth 20000 in
theorem gL_act_X6_show : GoodIn wsL_act (wsV RL 84 RX6 yX6_show wsX6_show) := goodIn_app (goodIn_of _ (by decide +kernel)) ggL_act_X6_show
set_option maxRecDepth 20000 in
theorem ggL_act_L_ends : GoodIn wsL_act wsL_ends := goodIn_r _ [303, 143, 1, 2, 3, 4, 5, 6, 7, 8, 9, 10, 11, 12, 13, 14, 15, 16, 17, 18, 19, 20, 21, 22, 23, 24, 25, 26, 27, 28, 29, 30, 31, 32, 33, 34, 35, 36, 37, 38, 39, 40, 41, 42, 304, 305, 306, 307, 308, 309, 310, 311, 101, 73, 284, 138, 99, 137, 312, 313, 314, 92, 315, 316, 94, 317, 186, 187, 188, 232, 233, 234, 235, 78, 79, 80, 81, 82, 83, 104, 105, 106, 107, 52, 108, 109, 110, 53, 54, 55, 56, 57, 111, 112, 113, 114, 115, 116, 117, 118, 119, 120, 121, 122, 123, 124, 125, 126, 127, 128, 129, 130, 131, 132, 133, 134, 135, 136, 139, 318, 319, 320, 321, 322, 323, 324, 325, 326, 327, 328, 329, 330, 331, 332, 333, 334, 335, 336, 337, 338, 339, 340, 341, 342, 343, 344, 345, 346, 347, 348, 349, 350] rfl (by decide +kernel)
set_option maxRecDepth 20000 in
theorem gL_act_L_ends : GoodIn wsL_act (va_wsS RL 87 yL_ends wsL_ends) := goodIn_app (goodIn_of _ (by decide +kernel)) ggL_act_L_ends
theorem dL_act_0 : decode cL_act 0 = .ok (.aload_n 0, 1) := by decide +kernel
theorem dL_act_1 : decode cL_act 1 = .ok (.iconst 0, 1) := by decide +kernel
theorem dL_act_2 : decode cL_act 2 = .ok (.invokevirtual 57, 3) := by decide +kernel
theorem dL_act_5 : decode cL_act 5 = .ok (.istore 4, 2) := by decide +kernel
theorem dL_act_7 : decode cL_act 7 = .ok (.iload 4, 2) := by decide +kernel
theorem dL_act_9 : decode cL_act 9 = .ok (.iload_n 2, 1) := by decide +kernel
theorem dL_act_10 : decode cL_act 10 = .ok (.bipush 7, 2) := by decide +kernel
theorem dL_act_12 : decode cL_act 12 = .ok (.invokestatic 22, 3) := by decide +kernel
theorem dL_act_15 : decode cL_act 15 = .ok (.iadd, 1) := by decide +kernel
theorem dL_act_16 : decode cL_act 16 = .ok (.bipush 59, 2) := by decide +kernel
theorem dL_act_18 : decode cL_act 18 = .ok (.if_icmp .le 8, 3) := by decide +kernel
theorem dL_act_21 : decode cL_act 21 = .ok (.bipush 59, 2) := by decide +kernel
theorem dL_act_23 : decode cL_act 23 = .ok (.goto 12, 3) := by decide +kernel
theorem dL_act_26 : decode cL_act 26 = .ok (.iload 4, 2) := by decide +kernel
theorem dL_act_28 : decode cL_act 28 = .ok (.iload_n 2, 1) := by decide +kernel
theorem dL_act_29 : decode cL_act 29 = .ok (.bipush 7, 2) := by decide +kernel
theorem dL_act_31 : decode cL_act 31 = .ok (.invokestatic 22, 3) := by decide +kernel
theorem dL_act_34 : decode cL_act 34 = .ok (.iadd, 1) := by decide +kernel
theorem dL_act_35 : decode cL_act 35 = .ok (.istore 5, 2) := by decide +kernel
theorem dL_act_37 : decode cL_act 37 = .ok (.iload_n 3, 1) := by decide +kernel
theorem dL_act_38 : decode cL_act 38 = .ok (.aload_n 0, 1) := by decide +kernel
theorem dL_act_39 : decode cL_act 39 = .ok (.iconst 1, 1) := by decide +kernel
theorem dL_act_40 : decode cL_act 40 = .ok (.invokevirtual 57, 3) := by decide +kernel
theorem dL_act_43 : decode cL_act 43 = .ok (.invokestatic 22, 3) := by decide +kernel
theorem dL_act_46 : decode cL_act 46 = .ok (.istore 6, 2) := by decide +kernel
theorem dL_act_48 : decode cL_act 48 = .ok (.aload_n 0, 1) := by decide +kernel
theorem dL_act_49 : decode cL_act 49 = .ok (.iconst 3, 1) := by decide +kernel
theorem dL_act_50 : decode cL_act 50 = .ok (.invokevirtual 57, 3) := by decide +kernel
theorem dL_act_53 : decode cL_act 53 = .ok (.istore 7, 2) := by decide +kernel
theorem dL_act_55 : decode cL_act 55 = .ok (.iload_n 1, 1) := by decide +kernel
theorem dL_act_56 : decode cL_act 56 = .ok (.bipush 10, 2) := by decide +kernel
theorem dL_act_58 : decode cL_act 58 = .ok (.invokestatic 22, 3) := by decide +kernel
theorem dL_act_61 : decode cL_act 61 = .ok (.tableswitch 468 0 8 #[51, 51, 51, 51, 263, 263, 272, 307, 332], 51) := by decide +kernel
theorem dL_act_112 : decode cL_act 112 = .ok (.iload_n 3, 1) := by decide +kernel
theorem dL_act_113 : decode cL_act 113 = .ok (.iconst 3, 1) := by decide +kernel
theorem dL_act_114 : decode cL_act 114 = .ok (.ishr, 1) := by decide +kernel
theorem dL_act_115 : decode cL_act 115 = .ok (.aload_n 0, 1) := by decide +kernel
theorem dL_act_116 : decode cL_act 116 = .ok (.iconst 2, 1) := by decide +kernel
theorem dL_act_117 : decode cL_act 117 = .ok (.invokevirtual 57, 3) := by decide +kernel
theorem dL_act_120 : decode cL_act 120 = .ok (.invokestatic 22, 3) := by decide +kernel
theorem dL_act_123 : decode cL_act 123 = .ok (.istore 8, 2) := by decide +kernel
theorem dL_act_125 : decode cL_act 125 = .ok (.aload_n 0, 1) := by decide +kernel
theorem dL_act_126 : decode cL_act 126 = .ok (.iload 8, 2) := by decide +kernel
theorem dL_act_128 : decode cL_act 128 = .ok (.iload 6, 2) := by decide +kernel
theorem dL_act_130 : decode cL_act 130 = .ok (.iload 5, 2) := by decide +kernel
theorem dL_act_132 : decode cL_act 132 = .ok (.iconst 1, 1) := by decide +kernel
theorem dL_act_133 : decode cL_act 133 = .ok (.iload_n 3, 1) := by decide +kernel
theorem dL_act_134 : decode cL_act 134 = .ok (.bipush 7, 2) := by decide +kernel
theorem dL_act_136 : decode cL_act 136 = .ok (.ishr, 1) := by decide +kernel
theorem dL_act_137 : decode cL_act 137 = .ok (.iconst 4, 1) := by decide +kernel
theorem dL_act_138 : decode cL_act 138 = .ok (.invokestatic 22, 3) := by decide +kernel
theorem dL_act_141 : decode cL_act 141 = .ok (.iadd, 1) := by decide +kernel
theorem dL_act_142 : decode cL_act 142 = .ok (.invokevirtual 61, 3) := by decide +kernel
theorem dL_act_145 : decode cL_act 145 = .ok (.istore 9, 2) := by decide +kernel
theorem dL_act_147 : decode cL_act 147 = .ok (.aload_n 0, 1) := by decide +kernel
theorem dL_act_148 : decode cL_act 148 = .ok (.iload 8, 2) := by decide +kernel
theorem dL_act_150 : decode cL_act 150 = .ok (.iconst 2, 1) := by decide +kernel
theorem dL_act_151 : decode cL_act 151 = .ok (.invokevirtual 65, 3) := by decide +kernel
theorem dL_act_154 : decode cL_act 154 = .ok (.iload 5, 2) := by decide +kernel
theorem dL_act_156 : decode cL_act 156 = .ok (.if_icmp .lt 7, 3) := by decide +kernel
theorem dL_act_159 : decode cL_act 159 = .ok (.iconst 1, 1) := by decide +kernel
theorem dL_act_160 : decode cL_act 160 = .ok (.goto 4, 3) := by decide +kernel
theorem dL_act_163 : decode cL_act 163 = .ok (.iconst 0, 1) := by decide +kernel
theorem dL_act_164 : decode cL_act 164 = .ok (.istore 10, 2) := by decide +kernel
theorem dL_act_166 : decode cL_act 166 = .ok (.iload 9, 2) := by decide +kernel
theorem dL_act_168 : decode cL_act 168 = .ok (.ifCond .ge 43, 3) := by decide +kernel
theorem dL_act_171 : decode cL_act 171 = .ok (.iload 9, 2) := by decide +kernel
theorem dL_act_173 : decode cL_act 173 = .ok (.bipush (-4), 2) := by decide +kernel
theorem dL_act_175 : decode cL_act 175 = .ok (.if_icmp .ne 23, 3) := by decide +kernel
theorem dL_act_178 : decode cL_act 178 = .ok (.iload 7, 2) := by decide +kernel
theorem dL_act_180 : decode cL_act 180 = .ok (.bipush 40, 2) := by decide +kernel
theorem dL_act_182 : decode cL_act 182 = .ok (.if_icmp .ne 12, 3) := by decide +kernel
theorem dL_act_185 : decode cL_act 185 = .ok (.iload 10, 2) := by decide +kernel
theorem dL_act_187 : decode cL_act 187 = .ok (.ifCond .ne 7, 3) := by decide +kernel
theorem dL_act_190 : decode cL_act 190 = .ok (.iconst 1, 1) := by decide +kernel
theorem dL_act_191 : decode cL_act 191 = .ok (.goto 19, 3) := by decide +kernel
theorem dL_act_194 : decode cL_act 194 = .ok (.iconst 0, 1) := by decide +kernel
theorem dL_act_195 : decode cL_act 195 = .ok (.goto 15, 3) := by decide +kernel
theorem dL_act_198 : decode cL_act 198 = .ok (.iload 9, 2) := by decide +kernel
theorem dL_act_200 : decode cL_act 200 = .ok (.bipush (-5), 2) := by decide +kernel
theorem dL_act_202 : decode cL_act 202 = .ok (.if_icmp .ne 7, 3) := by decide +kernel
theorem dL_act_205 : decode cL_act 205 = .ok (.iconst 1, 1) := by decide +kernel
theorem dL_act_206 : decode cL_act 206 = .ok (.goto 4, 3) := by decide +kernel
theorem dL_act_209 : decode cL_act 209 = .ok (.iconst 0, 1) := by decide +kernel
theorem dL_act_210 : decode cL_act 210 = .ok (.ireturn, 1) := by decide +kernel
theorem dL_act_211 : decode cL_act 211 = .ok (.iload 9, 2) := by decide +kernel
theorem dL_act_213 : decode cL_act 213 = .ok (.iload 7, 2) := by decide +kernel
theorem dL_act_215 : decode cL_act 215 = .ok (.if_icmp .ne 107, 3) := by decide +kernel
theorem dL_act_218 : decode cL_act 218 = .ok (.iload 10, 2) := by decide +kernel
theorem dL_act_220 : decode cL_act 220 = .ok (.ifCond .ne 102, 3) := by decide +kernel
theorem dL_act_223 : decode cL_act 223 = .ok (.aload_n 0, 1) := by decide +kernel
theorem dL_act_224 : decode cL_act 224 = .ok (.iload 9, 2) := by decide +kernel
theorem dL_act_226 : decode cL_act 226 = .ok (.iconst 0, 1) := by decide +kernel
theorem dL_act_227 : decode cL_act 227 = .ok (.invokevirtual 68, 3) := by decide +kernel
theorem dL_act_230 : decode cL_act 230 = .ok (.iload 8, 2) := by decide +kernel
theorem dL_act_232 : decode cL_act 232 = .ok (.if_icmp .ne 90, 3) := by decide +kernel
theorem dL_act_235 : decode cL_act 235 = .ok (.aload_n 0, 1) := by decide +kernel
theorem dL_act_236 : decode cL_act 236 = .ok (.iload 9, 2) := by decide +kernel
theorem dL_act_238 : decode cL_act 238 = .ok (.iconst 1, 1) := by decide +kernel
theorem dL_act_239 : decode cL_act 239 = .ok (.invokevirtual 68, 3) := by decide +kernel
theorem dL_act_242 : decode cL_act 242 = .ok (.iload 6, 2) := by decide +kernel
theorem dL_act_244 : decode cL_act 244 = .ok (.if_icmp .ne 78, 3) := by decide +kernel
theorem dL_act_247 : decode cL_act 247 = .ok (.aload_n 0, 1) := by decide +kernel
theorem dL_act_248 : decode cL_act 248 = .ok (.iload 9, 2) := by decide +kernel
theorem dL_act_250 : decode cL_act 250 = .ok (.iconst 2, 1) := by decide +kernel
theorem dL_act_251 : decode cL_act 251 = .ok (.invokevirtual 68, 3) := by decide +kernel
theorem dL_act_254 : decode cL_act 254 = .ok (.iload 5, 2) := by decide +kernel
theorem dL_act_256 : decode cL_act 256 = .ok (.if_icmp .ne 66, 3) := by decide +kernel
theorem dL_act_259 : decode cL_act 259 = .ok (.aload_n 0, 1) := by decide +kernel
theorem dL_act_260 : decode cL_act 260 = .ok (.iload 9, 2) := by decide +kernel
theorem dL_act_262 : decode cL_act 262 = .ok (.bipush 8, 2) := by decide +kernel
theorem dL_act_264 : decode cL_act 264 = .ok (.invokevirtual 68, 3) := by decide +kernel
theorem dL_act_267 : decode cL_act 267 = .ok (.iload 5, 2) := by decide +kernel
theorem dL_act_269 : decode cL_act 269 = .ok (.if_icmp .ne 53, 3) := by decide +kernel
theorem dL_act_272 : decode cL_act 272 = .ok (.aload_n 0, 1) := by decide +kernel
theorem dL_act_273 : decode cL_act 273 = .ok (.iload 9, 2) := by decide +kernel
theorem dL_act_275 : decode cL_act 275 = .ok (.iconst 3, 1) := by decide +kernel
theorem dL_act_276 : decode cL_act 276 = .ok (.invokevirtual 68, 3) := by decide +kernel
theorem dL_act_279 : decode cL_act 279 = .ok (.iconst 1, 1) := by decide +kernel
theorem dL_act_280 : decode cL_act 280 = .ok (.iload_n 3, 1) := by decide +kernel
theorem dL_act_281 : decode cL_act 281 = .ok (.bipush 7, 2) := by decide +kernel
theorem dL_act_283 : decode cL_act 283 = .ok (.ishr, 1) := by decide +kernel
theorem dL_act_284 : decode cL_act 284 = .ok (.iconst 4, 1) := by decide +kernel
theorem dL_act_285 : decode cL_act 285 = .ok (.invokestatic 22, 3) := by decide +kernel
theorem dL_act_288 : decode cL_act 288 = .ok (.iadd, 1) := by decide +kernel
theorem dL_act_289 : decode cL_act 289 = .ok (.if_icmp .ne 33, 3) := by decide +kernel
theorem dL_act_292 : decode cL_act 292 = .ok (.aload_n 0, 1) := by decide +kernel
theorem dL_act_293 : decode cL_act 293 = .ok (.iload 9, 2) := by decide +kernel
theorem dL_act_295 : decode cL_act 295 = .ok (.iconst 4, 1) := by decide +kernel
theorem dL_act_296 : decode cL_act 296 = .ok (.invokevirtual 68, 3) := by decide +kernel
theorem dL_act_299 : decode cL_act 299 = .ok (.ifCond .ne 23, 3) := by decide +kernel
theorem dL_act_302 : decode cL_act 302 = .ok (.aload_n 0, 1) := by decide +kernel
theorem dL_act_303 : decode cL_act 303 = .ok (.iload 8, 2) := by decide +kernel
theorem dL_act_305 : decode cL_act 305 = .ok (.iload 6, 2) := by decide +kernel
theorem dL_act_307 : decode cL_act 307 = .ok (.iload 5, 2) := by decide +kernel
theorem dL_act_309 : decode cL_act 309 = .ok (.iconst 1, 1) := by decide +kernel
theorem dL_act_310 : decode cL_act 310 = .ok (.invokevirtual 61, 3) := by decide +kernel
theorem dL_act_313 : decode cL_act 313 = .ok (.bipush (-5), 2) := by decide +kernel
theorem dL_act_315 : decode cL_act 315 = .ok (.if_icmp .ne 7, 3) := by decide +kernel
theorem dL_act_318 : decode cL_act 318 = .ok (.iconst 1, 1) := by decide +kernel
theorem dL_act_319 : decode cL_act 319 = .ok (.goto 4, 3) := by decide +kernel
theorem dL_act_322 : decode cL_act 322 = .ok (.iconst 0, 1) := by decide +kernel
theorem dL_act_323 : decode cL_act 323 = .ok (.ireturn, 1) := by decide +kernel
theorem dL_act_324 : decode cL_act 324 = .ok (.aload_n 0, 1) := by decide +kernel
theorem dL_act_325 : decode cL_act 325 = .ok (.iload 6, 2) := by decide +kernel
theorem dL_act_327 : decode cL_act 327 = .ok (.iload 5, 2) := by decide +kernel
theorem dL_act_329 : decode cL_act 329 = .ok (.invokestatic 71, 3) := by decide +kernel
theorem dL_act_332 : decode cL_act 332 = .ok (.ireturn, 1) := by decide +kernel
theorem dL_act_333 : decode cL_act 333 = .ok (.iload 7, 2) := by decide +kernel
theorem dL_act_335 : decode cL_act 335 = .ok (.ifCond .ne 20, 3) := by decide +kernel
theorem dL_act_338 : decode cL_act 338 = .ok (.aload_n 0, 1) := by decide +kernel
theorem dL_act_339 : decode cL_act 339 = .ok (.iconst 0, 1) := by decide +kernel
theorem dL_act_340 : decode cL_act 340 = .ok (.invokevirtual 75, 3) := by decide +kernel
theorem dL_act_343 : decode cL_act 343 = .ok (.iconst (-1), 1) := by decide +kernel
theorem dL_act_344 : decode cL_act 344 = .ok (.if_icmp .ne 7, 3) := by decide +kernel
theorem dL_act_347 : decode cL_act 347 = .ok (.iconst 1, 1) := by decide +kernel
theorem dL_act_348 : decode cL_act 348 = .ok (.goto 19, 3) := by decide +kernel
theorem dL_act_351 : decode cL_act 351 = .ok (.iconst 0, 1) := by decide +kernel
theorem dL_act_352 : decode cL_act 352 = .ok (.goto 15, 3) := by decide +kernel
theorem dL_act_355 : decode cL_act 355 = .ok (.aload_n 0, 1) := by decide +kernel
theorem dL_act_356 : decode cL_act 356 = .ok (.iload_n 3, 1) := by decide +kernel
theorem dL_act_357 : decode cL_act 357 = .ok (.iconst 4, 1) := by decide +kernel
theorem dL_act_358 : decode cL_act 358 = .ok (.ishr, 1) := by decide +kernel
theorem dL_act_359 : decode cL_act 359 = .ok (.iload 7, 2) := by decide +kernel
theorem dL_act_361 : decode cL_act 361 = .ok (.invokestatic 22, 3) := by decide +kernel
theorem dL_act_364 : decode cL_act 364 = .ok (.invokestatic 78, 3) := by decide +kernel
theorem dL_act_367 : decode cL_act 367 = .ok (.ireturn, 1) := by decide +kernel
theorem dL_act_368 : decode cL_act 368 = .ok (.iload_n 2, 1) := by decide +kernel
theorem dL_act_369 : decode cL_act 369 = .ok (.iconst 5, 1) := by decide +kernel
theorem dL_act_370 : decode cL_act 370 = .ok (.ishr, 1) := by decide +kernel
theorem dL_act_371 : decode cL_act 371 = .ok (.iconst 3, 1) := by decide +kernel
theorem dL_act_372 : decode cL_act 372 = .ok (.invokestatic 22, 3) := by decide +kernel
theorem dL_act_375 : decode cL_act 375 = .ok (.ifCond .gt 12, 3) := by decide +kernel
theorem dL_act_378 : decode cL_act 378 = .ok (.aload_n 0, 1) := by decide +kernel
theorem dL_act_379 : decode cL_act 379 = .ok (.iload 5, 2) := by decide +kernel
theorem dL_act_381 : decode cL_act 381 = .ok (.invokestatic 81, 3) := by decide +kernel
theorem dL_act_384 : decode cL_act 384 = .ok (.ifCond .eq 7, 3) := by decide +kernel
theorem dL_act_387 : decode cL_act 387 = .ok (.iconst 1, 1) := by decide +kernel
theorem dL_act_388 : decode cL_act 388 = .ok (.goto 4, 3) := by decide +kernel
theorem dL_act_391 : decode cL_act 391 = .ok (.iconst 0, 1) := by decide +kernel
theorem dL_act_392 : decode cL_act 392 = .ok (.ireturn, 1) := by decide +kernel
theorem dL_act_393 : decode cL_act 393 = .ok (.iload 7, 2) := by decide +kernel
theorem dL_act_395 : decode cL_act 395 = .ok (.ifCond .ne 18, 3) := by decide +kernel
theorem dL_act_398 : decode cL_act 398 = .ok (.aload_n 0, 1) := by decide +kernel
theorem dL_act_399 : decode cL_act 399 = .ok (.iconst 0, 1) := by decide +kernel
theorem dL_act_400 : decode cL_act 400 = .ok (.invokevirtual 84, 3) := by decide +kernel
theorem dL_act_403 : decode cL_act 403 = .ok (.iconst (-1), 1) := by decide +kernel
theorem dL_act_404 : decode cL_act 404 = .ok (.if_icmp .ne 7, 3) := by decide +kernel
theorem dL_act_407 : decode cL_act 407 = .ok (.iconst 1, 1) := by decide +kernel
theorem dL_act_408 : decode cL_act 408 = .ok (.goto 4, 3) := by decide +kernel
theorem dL_act_411 : decode cL_act 411 = .ok (.iconst 0, 1) := by decide +kernel
theorem dL_act_412 : decode cL_act 412 = .ok (.ireturn, 1) := by decide +kernel
theorem dL_act_413 : decode cL_act 413 = .ok (.iload_n 3, 1) := by decide +kernel
theorem dL_act_414 : decode cL_act 414 = .ok (.iconst 4, 1) := by decide +kernel
theorem dL_act_415 : decode cL_act 415 = .ok (.ishr, 1) := by decide +kernel
theorem dL_act_416 : decode cL_act 416 = .ok (.iload 7, 2) := by decide +kernel
theorem dL_act_418 : decode cL_act 418 = .ok (.invokestatic 22, 3) := by decide +kernel
theorem dL_act_421 : decode cL_act 421 = .ok (.istore 8, 2) := by decide +kernel
theorem dL_act_423 : decode cL_act 423 = .ok (.aload_n 0, 1) := by decide +kernel
theorem dL_act_424 : decode cL_act 424 = .ok (.iload 8, 2) := by decide +kernel
theorem dL_act_426 : decode cL_act 426 = .ok (.bipush 7, 2) := by decide +kernel
theorem dL_act_428 : decode cL_act 428 = .ok (.invokevirtual 68, 3) := by decide +kernel
theorem dL_act_431 : decode cL_act 431 = .ok (.iconst 1, 1) := by decide +kernel
theorem dL_act_432 : decode cL_act 432 = .ok (.if_icmp .ne 7, 3) := by decide +kernel
theorem dL_act_435 : decode cL_act 435 = .ok (.iconst 1, 1) := by decide +kernel
theorem dL_act_436 : decode cL_act 436 = .ok (.goto 4, 3) := by decide +kernel
theorem dL_act_439 : decode cL_act 439 = .ok (.iconst 0, 1) := by decide +kernel
theorem dL_act_440 : decode cL_act 440 = .ok (.istore 9, 2) := by decide +kernel
theorem dL_act_442 : decode cL_act 442 = .ok (.aload_n 0, 1) := by decide +kernel
theorem dL_act_443 : decode cL_act 443 = .ok (.iload 8, 2) := by decide +kernel
theorem dL_act_445 : decode cL_act 445 = .ok (.iconst 4, 1) := by decide +kernel
theorem dL_act_446 : decode cL_act 446 = .ok (.invokevirtual 68, 3) := by decide +kernel
theorem dL_act_449 : decode cL_act 449 = .ok (.iconst 1, 1) := by decide +kernel
theorem dL_act_450 : decode cL_act 450 = .ok (.if_icmp .ne 24, 3) := by decide +kernel
theorem dL_act_453 : decode cL_act 453 = .ok (.aload_n 0, 1) := by decide +kernel
theorem dL_act_454 : decode cL_act 454 = .ok (.iload 8, 2) := by decide +kernel
theorem dL_act_456 : decode cL_act 456 = .ok (.iconst 2, 1) := by decide +kernel
theorem dL_act_457 : decode cL_act 457 = .ok (.invokevirtual 68, 3) := by decide +kernel
theorem dL_act_460 : decode cL_act 460 = .ok (.iload 4, 2) := by decide +kernel
theorem dL_act_462 : decode cL_act 462 = .ok (.if_icmp .ne 12, 3) := by decide +kernel
theorem dL_act_465 : decode cL_act 465 = .ok (.iload 9, 2) := by decide +kernel
theorem dL_act_467 : decode cL_act 467 = .ok (.ifCond .ne 7, 3) := by decide +kernel
theorem dL_act_470 : decode cL_act 470 = .ok (.iconst 1, 1) := by decide +kernel
theorem dL_act_471 : decode cL_act 471 = .ok (.goto 4, 3) := by decide +kernel
theorem dL_act_474 : decode cL_act 474 = .ok (.iconst 0, 1) := by decide +kernel
theorem dL_act_475 : decode cL_act 475 = .ok (.istore 10, 2) := by decide +kernel
theorem dL_act_477 : decode cL_act 477 = .ok (.aload_n 0, 1) := by decide +kernel
theorem dL_act_478 : decode cL_act 478 = .ok (.iload 8, 2) := by decide +kernel
theorem dL_act_480 : decode cL_act 480 = .ok (.invokevirtual 84, 3) := by decide +kernel
theorem dL_act_483 : decode cL_act 483 = .ok (.iload 10, 2) := by decide +kernel
theorem dL_act_485 : decode cL_act 485 = .ok (.ifCond .eq 7, 3) := by decide +kernel
theorem dL_act_488 : decode cL_act 488 = .ok (.iconst 1, 1) := by decide +kernel
theorem dL_act_489 : decode cL_act 489 = .ok (.goto 5, 3) := by decide +kernel
theorem dL_act_492 : decode cL_act 492 = .ok (.bipush (-5), 2) := by decide +kernel
theorem dL_act_494 : decode cL_act 494 = .ok (.if_icmp .ne 33, 3) := by decide +kernel
theorem dL_act_497 : decode cL_act 497 = .ok (.aload_n 0, 1) := by decide +kernel
theorem dL_act_498 : decode cL_act 498 = .ok (.iload 8, 2) := by decide +kernel
theorem dL_act_500 : decode cL_act 500 = .ok (.bipush 7, 2) := by decide +kernel
theorem dL_act_502 : decode cL_act 502 = .ok (.invokevirtual 68, 3) := by decide +kernel
theorem dL_act_505 : decode cL_act 505 = .ok (.iload 10, 2) := by decide +kernel
theorem dL_act_507 : decode cL_act 507 = .ok (.ifCond .ne 8, 3) := by decide +kernel
theorem dL_act_510 : decode cL_act 510 = .ok (.iload 9, 2) := by decide +kernel
theorem dL_act_512 : decode cL_act 512 = .ok (.ifCond .eq 7, 3) := by decide +kernel
theorem dL_act_515 : decode cL_act 515 = .ok (.iconst 1, 1) := by decide +kernel
theorem dL_act_516 : decode cL_act 516 = .ok (.goto 4, 3) := by decide +kernel
theorem dL_act_519 : decode cL_act 519 = .ok (.iconst 0, 1) := by decide +kernel
theorem dL_act_520 : decode cL_act 520 = .ok (.if_icmp .ne 7, 3) := by decide +kernel
theorem dL_act_523 : decode cL_act 523 = .ok (.iconst 1, 1) := by decide +kernel
theorem dL_act_524 : decode cL_act 524 = .ok (.goto 4, 3) := by decide +kernel
theorem dL_act_527 : decode cL_act 527 = .ok (.iconst 0, 1) := by decide +kernel
theorem dL_act_528 : decode cL_act 528 = .ok (.ireturn, 1) := by decide +kernel
theorem dL_act_529 : decode cL_act 529 = .ok (.aload_n 0, 1) := by decide +kernel
theorem dL_act_530 : decode cL_act 530 = .ok (.invokestatic 87, 3) := by decide +kernel
theorem dL_act_533 : decode cL_act 533 = .ok (.ireturn, 1) := by decide +kernel
set_option maxRecDepth 20000 in
theorem ggL_holds_X6_count : GoodIn wsL_holds wsX6_count := goodIn_r _ [7, 8, 9, 10, 11, 12, 13, 14, 15, 16, 17, 18, 19, 20, 21, 22, 23, 24, 25, 26, 27, 28, 29, 30, 31, 32, 33, 34, 35, 36, 37, 38, 39, 40, 41, 42, 43, 44, 220, 221, 222, 223, 224, 225, 226, 227, 228, 229, 230, 231, 232, 233, 234, 235, 236, 237, 238, 239, 240, 241, 242, 243, 244, 245, 246, 247, 248, 249] rfl (by decide +kernel)
set_option maxRecDepth 20000 in
theorem gL_holds_X6_count : GoodIn wsL_holds (wsV RL 57 RX6 yX6_count wsX6_count) := goodIn_app (goodIn_of _ (by decide +kernel)) ggL_holds_X6_count
set_option maxRecDepth 20000 in
theorem ggL_holds_X6_application : GoodIn wsL_holds wsX6_application := goodIn_r _ [48, 8, 49, 50, 51, 52, 53, 54, 55, 56, 57, 58, 59, 60, 61, 19, 62, 21, 63, 64, 65, 66, 67, 68, 69, 70, 220, 221, 222, 223, 224, 225, 226, 227, 228, 229, 230, 231, 232, 233, 241, 242, 243, 244, 245, 246, 247, 248, 249, 250, 251, 252] rfl (by decide +kernel)
set_option maxRecDepth 20000 in
theorem gL_holds_X6_application : GoodIn wsL_holds (wsV RL 68 RX6 yX6_application wsX6_application) := goodIn_app (goodIn_of _ (by decide +kernel)) ggL_holds_X6_application
set_option maxRecDepth 20000 in
theorem ggL_holds_X6_climber : GoodIn wsL_holds wsX6_climber := goodIn_r _ [74, 8, 75, 76, 77, 78, 79, 80, 81, 19, 82, 83, 16, 17, 18, 20, 21, 22, 23, 24, 25, 26, 27, 28, 29, 30, 31, 32, 33, 34, 35, 36, 37, 38, 39, 84, 85, 86, 87, 220, 221, 222, 223, 224, 225, 226, 227, 228, 229, 230, 231, 232, 233, 250, 251, 252, 241, 242, 243, 244, 245, 246, 247, 248, 249] rfl (by decide +kernel)
set_option maxRecDepth 20000 in
theorem gL_holds_X6_climber : GoodIn wsL_holds (wsV RL 65 RX6 yX6_climber wsX6_climber) := goodIn_app (goodIn_of _ (by decide +kernel)) ggL_holds_X6_climber
set_option maxRecDepth 20000 in
theorem ggL_holds_X6_odds : GoodIn wsL_holds wsX6_odds := goodIn_r _ [91, 8, 49, 92, 51, 52, 93, 94, 95, 59, 60, 61, 19, 62, 21, 96, 97, 98, 99, 100, 101, 102, 103, 104, 105, 106, 107, 108, 109, 110, 111, 112, 27, 113, 114, 115, 116, 117, 118, 119, 68, 69, 120, 121, 122, 123, 124, 125, 126, 127, 64, 65, 66, 67, 70, 128, 129, 130, 131, 220, 221, 222, 223, 224, 225, 226, 227, 228, 229, 230, 231, 232, 233, 241, 242, 243, 244, 245, 246, 247, 248, 249, 253, 254, 255, 256, 257, 258, 259, 250, 251, 252] rfl (by decide +kernel)
set_option maxRecDepth 20000 in
theorem gL_holds_X6_odds : GoodIn wsL_holds (wsV RL 90 RX6 yX6_odds wsX6_odds) := goodIn_app (goodIn_of _ (by decide +kernel)) ggL_holds_X6_odds
set_option maxRecDepth 20000 in
theorem ggL_holds_X6_onRoute : GoodIn wsL_holds wsX6_onRoute := goodIn_r _ [135, 8, 136, 137, 138, 139, 140, 141, 142, 143, 144, 145, 19, 146, 147, 148, 149, 150, 151, 152, 6, 153, 154, 155, 156, 157, 21, 22, 158, 159, 160, 161, 27, 162, 163, 164, 111, 112, 113, 114, 115, 165, 166, 167, 168, 169, 170, 171, 172, 173, 174, 175, 176, 177, 178, 179, 180, 23, 220, 221, 222, 223, 224, 225, 226, 227, 228, 229, 230, 231, 232, 233, 260, 261, 241, 242, 243, 244, 245, 246, 247, 248, 249] rfl (by decide +kernel)
set_option maxRecDepth 20000 in
theorem gL_holds_X6_onRoute : GoodIn wsL_holds (wsV RL 93 RX6 yX6_onRoute wsX6_onRoute) := goodIn_app (goodIn_of _ (by decide +kernel)) ggL_holds_X6_onRoute
set_option maxRecDepth 20000 in
theorem ggL_holds_X6_lottery : GoodIn wsL_holds wsX6_lottery := goodIn_r _ [184, 8, 92, 9, 143, 144, 145, 19, 146, 147, 148, 149, 150, 151, 152, 6, 153, 185, 186, 187, 188, 189, 44, 177, 178, 179, 180, 21, 22, 23, 164, 111, 112, 27, 113, 114, 115, 96, 97, 98, 99, 100, 101, 102, 103, 104, 105, 106, 107, 108, 109, 110, 116, 117, 118, 119, 68, 69, 120, 121, 122, 123, 124, 125, 126, 127, 64, 65, 66, 67, 70, 165, 166, 167, 168, 169, 170, 171, 172, 173, 174, 175, 176, 155, 156, 157, 158, 159, 160, 161, 162, 163, 190, 191, 192, 193, 194, 195, 196, 197, 198, 199, 200, 201, 202, 203, 204, 205, 206, 207, 208, 209, 210, 211, 212, 213, 214, 215, 216, 217, 218, 219, 34, 220, 221, 222, 223, 224, 225, 226, 227, 228, 229, 230, 231, 232, 233, 241, 242, 243, 244, 245, 246, 247, 248, 249, 253, 254, 255, 256, 257, 258, 259, 250, 251, 252, 260, 261] rfl (by decide +kernel)
set_option maxRecDepth 20000 in
theorem gL_holds_X6_lottery : GoodIn wsL_holds (wsV RL 97 RX6 yX6_lottery wsX6_lottery) := goodIn_app (goodIn_of _ (by decide +kernel)) ggL_holds_X6_lottery
theorem dL_holds_0 : decode cL_holds 0 = .ok (.aload_n 0, 1) := by decide +kernel
theorem dL_holds_1 : decode cL_holds 1 = .ok (.iconst 3, 1) := by decide +kernel
theorem dL_holds_2 : decode cL_holds 2 = .ok (.invokevirtual 57, 3) := by decide +kernel
theorem dL_holds_5 : decode cL_holds 5 = .ok (.istore_n 3, 1) := by decide +kernel
theorem dL_holds_6 : decode cL_holds 6 = .ok (.bipush 40, 2) := by decide +kernel
theorem dL_holds_8 : decode cL_holds 8 = .ok (.newarray .int, 2) := by decide +kernel
theorem dL_holds_10 : decode cL_holds 10 = .ok (.astore 4, 2) := by decide +kernel
theorem dL_holds_12 : decode cL_holds 12 = .ok (.bipush 12, 2) := by decide +kernel
theorem dL_holds_14 : decode cL_holds 14 = .ok (.newarray .int, 2) := by decide +kernel
theorem dL_holds_16 : decode cL_holds 16 = .ok (.astore 5, 2) := by decide +kernel
theorem dL_holds_18 : decode cL_holds 18 = .ok (.bipush 12, 2) := by decide +kernel
theorem dL_holds_20 : decode cL_holds 20 = .ok (.newarray .int, 2) := by decide +kernel
theorem dL_holds_22 : decode cL_holds 22 = .ok (.astore 6, 2) := by decide +kernel
theorem dL_holds_24 : decode cL_holds 24 = .ok (.iconst 0, 1) := by decide +kernel
theorem dL_holds_25 : decode cL_holds 25 = .ok (.istore 7, 2) := by decide +kernel
theorem dL_holds_27 : decode cL_holds 27 = .ok (.iconst 0, 1) := by decide +kernel
theorem dL_holds_28 : decode cL_holds 28 = .ok (.istore 8, 2) := by decide +kernel
theorem dL_holds_30 : decode cL_holds 30 = .ok (.iload 8, 2) := by decide +kernel
theorem dL_holds_32 : decode cL_holds 32 = .ok (.iload_n 3, 1) := by decide +kernel
theorem dL_holds_33 : decode cL_holds 33 = .ok (.if_icmp .ge 142, 3) := by decide +kernel
theorem dL_holds_36 : decode cL_holds 36 = .ok (.aload 4, 2) := by decide +kernel
theorem dL_holds_38 : decode cL_holds 38 = .ok (.iload 8, 2) := by decide +kernel
theorem dL_holds_40 : decode cL_holds 40 = .ok (.aload_n 0, 1) := by decide +kernel
theorem dL_holds_41 : decode cL_holds 41 = .ok (.iload 8, 2) := by decide +kernel
theorem dL_holds_43 : decode cL_holds 43 = .ok (.iconst 4, 1) := by decide +kernel
theorem dL_holds_44 : decode cL_holds 44 = .ok (.invokevirtual 68, 3) := by decide +kernel
theorem dL_holds_47 : decode cL_holds 47 = .ok (.iastore, 1) := by decide +kernel
theorem dL_holds_48 : decode cL_holds 48 = .ok (.aload 4, 2) := by decide +kernel
theorem dL_holds_50 : decode cL_holds 50 = .ok (.iload 8, 2) := by decide +kernel
theorem dL_holds_52 : decode cL_holds 52 = .ok (.iaload, 1) := by decide +kernel
theorem dL_holds_53 : decode cL_holds 53 = .ok (.ifCond .ne 29, 3) := by decide +kernel
theorem dL_holds_56 : decode cL_holds 56 = .ok (.aload_n 0, 1) := by decide +kernel
theorem dL_holds_57 : decode cL_holds 57 = .ok (.iload 8, 2) := by decide +kernel
theorem dL_holds_59 : decode cL_holds 59 = .ok (.iconst 1, 1) := by decide +kernel
theorem dL_holds_60 : decode cL_holds 60 = .ok (.invokevirtual 68, 3) := by decide +kernel
theorem dL_holds_63 : decode cL_holds 63 = .ok (.iload_n 1, 1) := by decide +kernel
theorem dL_holds_64 : decode cL_holds 64 = .ok (.if_icmp .ne 18, 3) := by decide +kernel
theorem dL_holds_67 : decode cL_holds 67 = .ok (.aload_n 0, 1) := by decide +kernel
theorem dL_holds_68 : decode cL_holds 68 = .ok (.iload 8, 2) := by decide +kernel
theorem dL_holds_70 : decode cL_holds 70 = .ok (.iconst 2, 1) := by decide +kernel
theorem dL_holds_71 : decode cL_holds 71 = .ok (.invokevirtual 68, 3) := by decide +kernel
theorem dL_holds_74 : decode cL_holds 74 = .ok (.iload_n 2, 1) := by decide +kernel
theorem dL_holds_75 : decode cL_holds 75 = .ok (.if_icmp .ne 7, 3) := by decide +kernel
theorem dL_holds_78 : decode cL_holds 78 = .ok (.iconst 1, 1) := by decide +kernel
theorem dL_holds_79 : decode cL_holds 79 = .ok (.goto 4, 3) := by decide +kernel
theorem dL_holds_82 : decode cL_holds 82 = .ok (.iconst 0, 1) := by decide +kernel
theorem dL_holds_83 : decode cL_holds 83 = .ok (.istore 9, 2) := by decide +kernel
theorem dL_holds_85 : decode cL_holds 85 = .ok (.aload 4, 2) := by decide +kernel
theorem dL_holds_87 : decode cL_holds 87 = .ok (.iload 8, 2) := by decide +kernel
theorem dL_holds_89 : decode cL_holds 89 = .ok (.iload 9, 2) := by decide +kernel
theorem dL_holds_91 : decode cL_holds 91 = .ok (.ifCond .eq 8, 3) := by decide +kernel
theorem dL_holds_94 : decode cL_holds 94 = .ok (.bipush 10, 2) := by decide +kernel
theorem dL_holds_96 : decode cL_holds 96 = .ok (.goto 8, 3) := by decide +kernel
theorem dL_holds_99 : decode cL_holds 99 = .ok (.aload 4, 2) := by decide +kernel
theorem dL_holds_101 : decode cL_holds 101 = .ok (.iload 8, 2) := by decide +kernel
theorem dL_holds_103 : decode cL_holds 103 = .ok (.iaload, 1) := by decide +kernel
theorem dL_holds_104 : decode cL_holds 104 = .ok (.iastore, 1) := by decide +kernel
theorem dL_holds_105 : decode cL_holds 105 = .ok (.iload 9, 2) := by decide +kernel
theorem dL_holds_107 : decode cL_holds 107 = .ok (.ifCond .eq 44, 3) := by decide +kernel
theorem dL_holds_110 : decode cL_holds 110 = .ok (.aload_n 0, 1) := by decide +kernel
theorem dL_holds_111 : decode cL_holds 111 = .ok (.aload_n 0, 1) := by decide +kernel
theorem dL_holds_112 : decode cL_holds 112 = .ok (.iload 8, 2) := by decide +kernel
theorem dL_holds_114 : decode cL_holds 114 = .ok (.iconst 0, 1) := by decide +kernel
theorem dL_holds_115 : decode cL_holds 115 = .ok (.invokevirtual 68, 3) := by decide +kernel
theorem dL_holds_118 : decode cL_holds 118 = .ok (.iconst 2, 1) := by decide +kernel
theorem dL_holds_119 : decode cL_holds 119 = .ok (.invokevirtual 65, 3) := by decide +kernel
theorem dL_holds_122 : decode cL_holds 122 = .ok (.iload_n 2, 1) := by decide +kernel
theorem dL_holds_123 : decode cL_holds 123 = .ok (.if_icmp .ge 28, 3) := by decide +kernel
theorem dL_holds_126 : decode cL_holds 126 = .ok (.aload 6, 2) := by decide +kernel
theorem dL_holds_128 : decode cL_holds 128 = .ok (.aload_n 0, 1) := by decide +kernel
theorem dL_holds_129 : decode cL_holds 129 = .ok (.iload 8, 2) := by decide +kernel
theorem dL_holds_131 : decode cL_holds 131 = .ok (.iconst 0, 1) := by decide +kernel
theorem dL_holds_132 : decode cL_holds 132 = .ok (.invokevirtual 68, 3) := by decide +kernel
theorem dL_holds_135 : decode cL_holds 135 = .ok (.iconst 1, 1) := by decide +kernel
theorem dL_holds_136 : decode cL_holds 136 = .ok (.iastore, 1) := by decide +kernel
theorem dL_holds_137 : decode cL_holds 137 = .ok (.iload 7, 2) := by decide +kernel
theorem dL_holds_139 : decode cL_holds 139 = .ok (.aload_n 0, 1) := by decide +kernel
theorem dL_holds_140 : decode cL_holds 140 = .ok (.iload 8, 2) := by decide +kernel
theorem dL_holds_142 : decode cL_holds 142 = .ok (.invokevirtual 90, 3) := by decide +kernel
theorem dL_holds_145 : decode cL_holds 145 = .ok (.iadd, 1) := by decide +kernel
theorem dL_holds_146 : decode cL_holds 146 = .ok (.istore 7, 2) := by decide +kernel
theorem dL_holds_148 : decode cL_holds 148 = .ok (.goto 21, 3) := by decide +kernel
theorem dL_holds_151 : decode cL_holds 151 = .ok (.iload 9, 2) := by decide +kernel
theorem dL_holds_153 : decode cL_holds 153 = .ok (.ifCond .eq 16, 3) := by decide +kernel
theorem dL_holds_156 : decode cL_holds 156 = .ok (.aload_n 0, 1) := by decide +kernel
theorem dL_holds_157 : decode cL_holds 157 = .ok (.iload 8, 2) := by decide +kernel
theorem dL_holds_159 : decode cL_holds 159 = .ok (.invokevirtual 90, 3) := by decide +kernel
theorem dL_holds_162 : decode cL_holds 162 = .ok (.bipush (-5), 2) := by decide +kernel
theorem dL_holds_164 : decode cL_holds 164 = .ok (.if_icmp .eq 5, 3) := by decide +kernel
theorem dL_holds_167 : decode cL_holds 167 = .ok (.iconst 0, 1) := by decide +kernel
theorem dL_holds_168 : decode cL_holds 168 = .ok (.ireturn, 1) := by decide +kernel
theorem dL_holds_169 : decode cL_holds 169 = .ok (.iinc 8 1, 3) := by decide +kernel
theorem dL_holds_172 : decode cL_holds 172 = .ok (.goto (-142), 3) := by decide +kernel
theorem dL_holds_175 : decode cL_holds 175 = .ok (.iconst 0, 1) := by decide +kernel
theorem dL_holds_176 : decode cL_holds 176 = .ok (.istore 8, 2) := by decide +kernel
theorem dL_holds_178 : decode cL_holds 178 = .ok (.iload 8, 2) := by decide +kernel
theorem dL_holds_180 : decode cL_holds 180 = .ok (.aload_n 0, 1) := by decide +kernel
theorem dL_holds_181 : decode cL_holds 181 = .ok (.iconst 2, 1) := by decide +kernel
theorem dL_holds_182 : decode cL_holds 182 = .ok (.invokevirtual 57, 3) := by decide +kernel
theorem dL_holds_185 : decode cL_holds 185 = .ok (.if_icmp .ge 21, 3) := by decide +kernel
theorem dL_holds_188 : decode cL_holds 188 = .ok (.aload 5, 2) := by decide +kernel
theorem dL_holds_190 : decode cL_holds 190 = .ok (.iload 8, 2) := by decide +kernel
theorem dL_holds_192 : decode cL_holds 192 = .ok (.aload_n 0, 1) := by decide +kernel
theorem dL_holds_193 : decode cL_holds 193 = .ok (.iload 8, 2) := by decide +kernel
theorem dL_holds_195 : decode cL_holds 195 = .ok (.iconst 0, 1) := by decide +kernel
theorem dL_holds_196 : decode cL_holds 196 = .ok (.invokevirtual 65, 3) := by decide +kernel
theorem dL_holds_199 : decode cL_holds 199 = .ok (.iastore, 1) := by decide +kernel
theorem dL_holds_200 : decode cL_holds 200 = .ok (.iinc 8 1, 3) := by decide +kernel
theorem dL_holds_203 : decode cL_holds 203 = .ok (.goto (-25), 3) := by decide +kernel
theorem dL_holds_206 : decode cL_holds 206 = .ok (.aload_n 0, 1) := by decide +kernel
theorem dL_holds_207 : decode cL_holds 207 = .ok (.iload_n 1, 1) := by decide +kernel
theorem dL_holds_208 : decode cL_holds 208 = .ok (.iload_n 2, 1) := by decide +kernel
theorem dL_holds_209 : decode cL_holds 209 = .ok (.iconst 3, 1) := by decide +kernel
theorem dL_holds_210 : decode cL_holds 210 = .ok (.invokevirtual 93, 3) := by decide +kernel
theorem dL_holds_213 : decode cL_holds 213 = .ok (.istore 8, 2) := by decide +kernel
theorem dL_holds_215 : decode cL_holds 215 = .ok (.aload_n 0, 1) := by decide +kernel
theorem dL_holds_216 : decode cL_holds 216 = .ok (.bipush 11, 2) := by decide +kernel
theorem dL_holds_218 : decode cL_holds 218 = .ok (.invokevirtual 57, 3) := by decide +kernel
theorem dL_holds_221 : decode cL_holds 221 = .ok (.istore 9, 2) := by decide +kernel
theorem dL_holds_223 : decode cL_holds 223 = .ok (.aload_n 0, 1) := by decide +kernel
theorem dL_holds_224 : decode cL_holds 224 = .ok (.iload_n 1, 1) := by decide +kernel
theorem dL_holds_225 : decode cL_holds 225 = .ok (.iload_n 2, 1) := by decide +kernel
theorem dL_holds_226 : decode cL_holds 226 = .ok (.iconst 4, 1) := by decide +kernel
theorem dL_holds_227 : decode cL_holds 227 = .ok (.invokevirtual 93, 3) := by decide +kernel
theorem dL_holds_230 : decode cL_holds 230 = .ok (.istore 10, 2) := by decide +kernel
theorem dL_holds_232 : decode cL_holds 232 = .ok (.aload_n 0, 1) := by decide +kernel
theorem dL_holds_233 : decode cL_holds 233 = .ok (.iload_n 1, 1) := by decide +kernel
theorem dL_holds_234 : decode cL_holds 234 = .ok (.iload_n 2, 1) := by decide +kernel
theorem dL_holds_235 : decode cL_holds 235 = .ok (.invokevirtual 97, 3) := by decide +kernel
theorem dL_holds_238 : decode cL_holds 238 = .ok (.istore 11, 2) := by decide +kernel
theorem dL_holds_240 : decode cL_holds 240 = .ok (.iload 10, 2) := by decide +kernel
theorem dL_holds_242 : decode cL_holds 242 = .ok (.ifCond .ne 16, 3) := by decide +kernel
theorem dL_holds_245 : decode cL_holds 245 = .ok (.iload 11, 2) := by decide +kernel
theorem dL_holds_247 : decode cL_holds 247 = .ok (.bipush (-5), 2) := by decide +kernel
theorem dL_holds_249 : decode cL_holds 249 = .ok (.if_icmp .ne 7, 3) := by decide +kernel
theorem dL_holds_252 : decode cL_holds 252 = .ok (.iconst 1, 1) := by decide +kernel
theorem dL_holds_253 : decode cL_holds 253 = .ok (.goto 4, 3) := by decide +kernel
theorem dL_holds_256 : decode cL_holds 256 = .ok (.iconst 0, 1) := by decide +kernel
theorem dL_holds_257 : decode cL_holds 257 = .ok (.ireturn, 1) := by decide +kernel
theorem dL_holds_258 : decode cL_holds 258 = .ok (.iload 11, 2) := by decide +kernel
theorem dL_holds_260 : decode cL_holds 260 = .ok (.ifCond .lt 24, 3) := by decide +kernel
theorem dL_holds_263 : decode cL_holds 263 = .ok (.iload 7, 2) := by decide +kernel
theorem dL_holds_265 : decode cL_holds 265 = .ok (.ldc 100, 2) := by decide +kernel
theorem dL_holds_267 : decode cL_holds 267 = .ok (.if_icmp .gt 17, 3) := by decide +kernel
theorem dL_holds_270 : decode cL_holds 270 = .ok (.iload 7, 2) := by decide +kernel
theorem dL_holds_272 : decode cL_holds 272 = .ok (.ifCond .le 14, 3) := by decide +kernel
theorem dL_holds_275 : decode cL_holds 275 = .ok (.iload 7, 2) := by decide +kernel
theorem dL_holds_277 : decode cL_holds 277 = .ok (.ldc 100, 2) := by decide +kernel
theorem dL_holds_279 : decode cL_holds 279 = .ok (.iload_n 3, 1) := by decide +kernel
theorem dL_holds_280 : decode cL_holds 280 = .ok (.isub, 1) := by decide +kernel
theorem dL_holds_281 : decode cL_holds 281 = .ok (.if_icmp .ge 5, 3) := by decide +kernel
theorem dL_holds_284 : decode cL_holds 284 = .ok (.iconst 0, 1) := by decide +kernel
theorem dL_holds_285 : decode cL_holds 285 = .ok (.ireturn, 1) := by decide +kernel
theorem dL_holds_286 : decode cL_holds 286 = .ok (.iconst 0, 1) := by decide +kernel
theorem dL_holds_287 : decode cL_holds 287 = .ok (.istore 12, 2) := by decide +kernel
theorem dL_holds_289 : decode cL_holds 289 = .ok (.iconst 0, 1) := by decide +kernel
theorem dL_holds_290 : decode cL_holds 290 = .ok (.istore 13, 2) := by decide +kernel
theorem dL_holds_292 : decode cL_holds 292 = .ok (.iconst 0, 1) := by decide +kernel
theorem dL_holds_293 : decode cL_holds 293 = .ok (.istore 14, 2) := by decide +kernel
theorem dL_holds_295 : decode cL_holds 295 = .ok (.iload 14, 2) := by decide +kernel
theorem dL_holds_297 : decode cL_holds 297 = .ok (.iload_n 3, 1) := by decide +kernel
theorem dL_holds_298 : decode cL_holds 298 = .ok (.if_icmp .ge 109, 3) := by decide +kernel
theorem dL_holds_301 : decode cL_holds 301 = .ok (.aload_n 0, 1) := by decide +kernel
theorem dL_holds_302 : decode cL_holds 302 = .ok (.iload 14, 2) := by decide +kernel
theorem dL_holds_304 : decode cL_holds 304 = .ok (.iconst 4, 1) := by decide +kernel
theorem dL_holds_305 : decode cL_holds 305 = .ok (.invokevirtual 68, 3) := by decide +kernel
theorem dL_holds_308 : decode cL_holds 308 = .ok (.istore 15, 2) := by decide +kernel
theorem dL_holds_310 : decode cL_holds 310 = .ok (.aload 4, 2) := by decide +kernel
theorem dL_holds_312 : decode cL_holds 312 = .ok (.iload 14, 2) := by decide +kernel
theorem dL_holds_314 : decode cL_holds 314 = .ok (.iaload, 1) := by decide +kernel
theorem dL_holds_315 : decode cL_holds 315 = .ok (.bipush 10, 2) := by decide +kernel
theorem dL_holds_317 : decode cL_holds 317 = .ok (.if_icmp .eq 15, 3) := by decide +kernel
theorem dL_holds_320 : decode cL_holds 320 = .ok (.iload 15, 2) := by decide +kernel
theorem dL_holds_322 : decode cL_holds 322 = .ok (.aload 4, 2) := by decide +kernel
theorem dL_holds_324 : decode cL_holds 324 = .ok (.iload 14, 2) := by decide +kernel
theorem dL_holds_326 : decode cL_holds 326 = .ok (.iaload, 1) := by decide +kernel
theorem dL_holds_327 : decode cL_holds 327 = .ok (.if_icmp .eq 74, 3) := by decide +kernel
theorem dL_holds_330 : decode cL_holds 330 = .ok (.iconst 0, 1) := by decide +kernel
theorem dL_holds_331 : decode cL_holds 331 = .ok (.ireturn, 1) := by decide +kernel
theorem dL_holds_332 : decode cL_holds 332 = .ok (.iload 15, 2) := by decide +kernel
theorem dL_holds_334 : decode cL_holds 334 = .ok (.iconst 1, 1) := by decide +kernel
theorem dL_holds_335 : decode cL_holds 335 = .ok (.if_icmp .eq 11, 3) := by decide +kernel
theorem dL_holds_338 : decode cL_holds 338 = .ok (.iload 15, 2) := by decide +kernel
theorem dL_holds_340 : decode cL_holds 340 = .ok (.iconst 2, 1) := by decide +kernel
theorem dL_holds_341 : decode cL_holds 341 = .ok (.if_icmp .eq 5, 3) := by decide +kernel
theorem dL_holds_344 : decode cL_holds 344 = .ok (.iconst 0, 1) := by decide +kernel
theorem dL_holds_345 : decode cL_holds 345 = .ok (.ireturn, 1) := by decide +kernel
theorem dL_holds_346 : decode cL_holds 346 = .ok (.iload 12, 2) := by decide +kernel
theorem dL_holds_348 : decode cL_holds 348 = .ok (.iload 15, 2) := by decide +kernel
theorem dL_holds_350 : decode cL_holds 350 = .ok (.iconst 1, 1) := by decide +kernel
theorem dL_holds_351 : decode cL_holds 351 = .ok (.if_icmp .ne 7, 3) := by decide +kernel
theorem dL_holds_354 : decode cL_holds 354 = .ok (.iconst 1, 1) := by decide +kernel
theorem dL_holds_355 : decode cL_holds 355 = .ok (.goto 4, 3) := by decide +kernel
theorem dL_holds_358 : decode cL_holds 358 = .ok (.iconst 0, 1) := by decide +kernel
theorem dL_holds_359 : decode cL_holds 359 = .ok (.iadd, 1) := by decide +kernel
theorem dL_holds_360 : decode cL_holds 360 = .ok (.istore 12, 2) := by decide +kernel
theorem dL_holds_362 : decode cL_holds 362 = .ok (.iload 13, 2) := by decide +kernel
theorem dL_holds_364 : decode cL_holds 364 = .ok (.iload 15, 2) := by decide +kernel
theorem dL_holds_366 : decode cL_holds 366 = .ok (.iconst 1, 1) := by decide +kernel
theorem dL_holds_367 : decode cL_holds 367 = .ok (.if_icmp .ne 13, 3) := by decide +kernel
theorem dL_holds_370 : decode cL_holds 370 = .ok (.aload_n 0, 1) := by decide +kernel
theorem dL_holds_371 : decode cL_holds 371 = .ok (.iload 14, 2) := by decide +kernel
theorem dL_holds_373 : decode cL_holds 373 = .ok (.iconst 3, 1) := by decide +kernel
theorem dL_holds_374 : decode cL_holds 374 = .ok (.invokevirtual 68, 3) := by decide +kernel
theorem dL_holds_377 : decode cL_holds 377 = .ok (.goto 4, 3) := by decide +kernel
theorem dL_holds_380 : decode cL_holds 380 = .ok (.iconst 0, 1) := by decide +kernel
theorem dL_holds_381 : decode cL_holds 381 = .ok (.iadd, 1) := by decide +kernel
theorem dL_holds_382 : decode cL_holds 382 = .ok (.istore 13, 2) := by decide +kernel
theorem dL_holds_384 : decode cL_holds 384 = .ok (.iload 15, 2) := by decide +kernel
theorem dL_holds_386 : decode cL_holds 386 = .ok (.iconst 1, 1) := by decide +kernel
theorem dL_holds_387 : decode cL_holds 387 = .ok (.if_icmp .ne 14, 3) := by decide +kernel
theorem dL_holds_390 : decode cL_holds 390 = .ok (.aload 6, 2) := by decide +kernel
theorem dL_holds_392 : decode cL_holds 392 = .ok (.aload_n 0, 1) := by decide +kernel
theorem dL_holds_393 : decode cL_holds 393 = .ok (.iload 14, 2) := by decide +kernel
theorem dL_holds_395 : decode cL_holds 395 = .ok (.iconst 0, 1) := by decide +kernel
theorem dL_holds_396 : decode cL_holds 396 = .ok (.invokevirtual 68, 3) := by decide +kernel
theorem dL_holds_399 : decode cL_holds 399 = .ok (.iconst 2, 1) := by decide +kernel
theorem dL_holds_400 : decode cL_holds 400 = .ok (.iastore, 1) := by decide +kernel
theorem dL_holds_401 : decode cL_holds 401 = .ok (.iinc 14 1, 3) := by decide +kernel
theorem dL_holds_404 : decode cL_holds 404 = .ok (.goto (-109), 3) := by decide +kernel
theorem dL_holds_407 : decode cL_holds 407 = .ok (.iconst 0, 1) := by decide +kernel
theorem dL_holds_408 : decode cL_holds 408 = .ok (.istore 14, 2) := by decide +kernel
theorem dL_holds_410 : decode cL_holds 410 = .ok (.iload 14, 2) := by decide +kernel
theorem dL_holds_412 : decode cL_holds 412 = .ok (.iload_n 3, 1) := by decide +kernel
theorem dL_holds_413 : decode cL_holds 413 = .ok (.if_icmp .ge 61, 3) := by decide +kernel
theorem dL_holds_416 : decode cL_holds 416 = .ok (.aload 4, 2) := by decide +kernel
theorem dL_holds_418 : decode cL_holds 418 = .ok (.iload 14, 2) := by decide +kernel
theorem dL_holds_420 : decode cL_holds 420 = .ok (.iaload, 1) := by decide +kernel
theorem dL_holds_421 : decode cL_holds 421 = .ok (.bipush 10, 2) := by decide +kernel
theorem dL_holds_423 : decode cL_holds 423 = .ok (.if_icmp .ne 45, 3) := by decide +kernel
theorem dL_holds_426 : decode cL_holds 426 = .ok (.aload_n 0, 1) := by decide +kernel
theorem dL_holds_427 : decode cL_holds 427 = .ok (.iload 14, 2) := by decide +kernel
theorem dL_holds_429 : decode cL_holds 429 = .ok (.iconst 4, 1) := by decide +kernel
theorem dL_holds_430 : decode cL_holds 430 = .ok (.invokevirtual 68, 3) := by decide +kernel
theorem dL_holds_433 : decode cL_holds 433 = .ok (.iconst 2, 1) := by decide +kernel
theorem dL_holds_434 : decode cL_holds 434 = .ok (.if_icmp .ne 34, 3) := by decide +kernel
theorem dL_holds_437 : decode cL_holds 437 = .ok (.aload 6, 2) := by decide +kernel
theorem dL_holds_439 : decode cL_holds 439 = .ok (.aload_n 0, 1) := by decide +kernel
theorem dL_holds_440 : decode cL_holds 440 = .ok (.iload 14, 2) := by decide +kernel
theorem dL_holds_442 : decode cL_holds 442 = .ok (.iconst 0, 1) := by decide +kernel
theorem dL_holds_443 : decode cL_holds 443 = .ok (.invokevirtual 68, 3) := by decide +kernel
theorem dL_holds_446 : decode cL_holds 446 = .ok (.iaload, 1) := by decide +kernel
theorem dL_holds_447 : decode cL_holds 447 = .ok (.iconst 1, 1) := by decide +kernel
theorem dL_holds_448 : decode cL_holds 448 = .ok (.if_icmp .ne 20, 3) := by decide +kernel
theorem dL_holds_451 : decode cL_holds 451 = .ok (.aload_n 0, 1) := by decide +kernel
theorem dL_holds_452 : decode cL_holds 452 = .ok (.iload 14, 2) := by decide +kernel
theorem dL_holds_454 : decode cL_holds 454 = .ok (.iconst 3, 1) := by decide +kernel
theorem dL_holds_455 : decode cL_holds 455 = .ok (.invokevirtual 68, 3) := by decide +kernel
theorem dL_holds_458 : decode cL_holds 458 = .ok (.iload 8, 2) := by decide +kernel
theorem dL_holds_460 : decode cL_holds 460 = .ok (.iload 13, 2) := by decide +kernel
theorem dL_holds_462 : decode cL_holds 462 = .ok (.isub, 1) := by decide +kernel
theorem dL_holds_463 : decode cL_holds 463 = .ok (.if_icmp .gt 5, 3) := by decide +kernel
theorem dL_holds_466 : decode cL_holds 466 = .ok (.iconst 0, 1) := by decide +kernel
theorem dL_holds_467 : decode cL_holds 467 = .ok (.ireturn, 1) := by decide +kernel
theorem dL_holds_468 : decode cL_holds 468 = .ok (.iinc 14 1, 3) := by decide +kernel
theorem dL_holds_471 : decode cL_holds 471 = .ok (.goto (-61), 3) := by decide +kernel
theorem dL_holds_474 : decode cL_holds 474 = .ok (.iconst 0, 1) := by decide +kernel
theorem dL_holds_475 : decode cL_holds 475 = .ok (.istore 14, 2) := by decide +kernel
theorem dL_holds_477 : decode cL_holds 477 = .ok (.iload 14, 2) := by decide +kernel
theorem dL_holds_479 : decode cL_holds 479 = .ok (.aload_n 0, 1) := by decide +kernel
theorem dL_holds_480 : decode cL_holds 480 = .ok (.iconst 2, 1) := by decide +kernel
theorem dL_holds_481 : decode cL_holds 481 = .ok (.invokevirtual 57, 3) := by decide +kernel
theorem dL_holds_484 : decode cL_holds 484 = .ok (.if_icmp .ge 45, 3) := by decide +kernel
theorem dL_holds_487 : decode cL_holds 487 = .ok (.aload_n 0, 1) := by decide +kernel
theorem dL_holds_488 : decode cL_holds 488 = .ok (.iload 14, 2) := by decide +kernel
theorem dL_holds_490 : decode cL_holds 490 = .ok (.iconst 0, 1) := by decide +kernel
theorem dL_holds_491 : decode cL_holds 491 = .ok (.invokevirtual 65, 3) := by decide +kernel
theorem dL_holds_494 : decode cL_holds 494 = .ok (.aload 6, 2) := by decide +kernel
theorem dL_holds_496 : decode cL_holds 496 = .ok (.iload 14, 2) := by decide +kernel
theorem dL_holds_498 : decode cL_holds 498 = .ok (.iaload, 1) := by decide +kernel
theorem dL_holds_499 : decode cL_holds 499 = .ok (.iconst 2, 1) := by decide +kernel
theorem dL_holds_500 : decode cL_holds 500 = .ok (.if_icmp .ne 7, 3) := by decide +kernel
theorem dL_holds_503 : decode cL_holds 503 = .ok (.iconst 0, 1) := by decide +kernel
theorem dL_holds_504 : decode cL_holds 504 = .ok (.goto 14, 3) := by decide +kernel
theorem dL_holds_507 : decode cL_holds 507 = .ok (.aload 5, 2) := by decide +kernel
theorem dL_holds_509 : decode cL_holds 509 = .ok (.iload 14, 2) := by decide +kernel
theorem dL_holds_511 : decode cL_holds 511 = .ok (.iaload, 1) := by decide +kernel
theorem dL_holds_512 : decode cL_holds 512 = .ok (.aload 6, 2) := by decide +kernel
theorem dL_holds_514 : decode cL_holds 514 = .ok (.iload 14, 2) := by decide +kernel
theorem dL_holds_516 : decode cL_holds 516 = .ok (.iaload, 1) := by decide +kernel
theorem dL_holds_517 : decode cL_holds 517 = .ok (.iadd, 1) := by decide +kernel
theorem dL_holds_518 : decode cL_holds 518 = .ok (.if_icmp .eq 5, 3) := by decide +kernel
theorem dL_holds_521 : decode cL_holds 521 = .ok (.iconst 0, 1) := by decide +kernel
theorem dL_holds_522 : decode cL_holds 522 = .ok (.ireturn, 1) := by decide +kernel
theorem dL_holds_523 : decode cL_holds 523 = .ok (.iinc 14 1, 3) := by decide +kernel
theorem dL_holds_526 : decode cL_holds 526 = .ok (.goto (-49), 3) := by decide +kernel
theorem dL_holds_529 : decode cL_holds 529 = .ok (.iload 12, 2) := by decide +kernel
theorem dL_holds_531 : decode cL_holds 531 = .ok (.iload 11, 2) := by decide +kernel
theorem dL_holds_533 : decode cL_holds 533 = .ok (.if_icmp .ne 45, 3) := by decide +kernel
theorem dL_holds_536 : decode cL_holds 536 = .ok (.iload 13, 2) := by decide +kernel
theorem dL_holds_538 : decode cL_holds 538 = .ok (.iload 8, 2) := by decide +kernel
theorem dL_holds_540 : decode cL_holds 540 = .ok (.if_icmp .gt 38, 3) := by decide +kernel
theorem dL_holds_543 : decode cL_holds 543 = .ok (.aload_n 0, 1) := by decide +kernel
theorem dL_holds_544 : decode cL_holds 544 = .ok (.bipush 11, 2) := by decide +kernel
theorem dL_holds_546 : decode cL_holds 546 = .ok (.invokevirtual 57, 3) := by decide +kernel
theorem dL_holds_549 : decode cL_holds 549 = .ok (.iload 9, 2) := by decide +kernel
theorem dL_holds_551 : decode cL_holds 551 = .ok (.iload 13, 2) := by decide +kernel
theorem dL_holds_553 : decode cL_holds 553 = .ok (.aload_n 0, 1) := by decide +kernel
theorem dL_holds_554 : decode cL_holds 554 = .ok (.bipush 15, 2) := by decide +kernel
theorem dL_holds_556 : decode cL_holds 556 = .ok (.invokevirtual 57, 3) := by decide +kernel
theorem dL_holds_559 : decode cL_holds 559 = .ok (.imul, 1) := by decide +kernel
theorem dL_holds_560 : decode cL_holds 560 = .ok (.iadd, 1) := by decide +kernel
theorem dL_holds_561 : decode cL_holds 561 = .ok (.if_icmp .ne 17, 3) := by decide +kernel
theorem dL_holds_564 : decode cL_holds 564 = .ok (.aload_n 0, 1) := by decide +kernel
theorem dL_holds_565 : decode cL_holds 565 = .ok (.iload_n 1, 1) := by decide +kernel
theorem dL_holds_566 : decode cL_holds 566 = .ok (.iload_n 2, 1) := by decide +kernel
theorem dL_holds_567 : decode cL_holds 567 = .ok (.iconst 4, 1) := by decide +kernel
theorem dL_holds_568 : decode cL_holds 568 = .ok (.invokevirtual 93, 3) := by decide +kernel
theorem dL_holds_571 : decode cL_holds 571 = .ok (.ifCond .ne 7, 3) := by decide +kernel
theorem dL_holds_574 : decode cL_holds 574 = .ok (.iconst 1, 1) := by decide +kernel
theorem dL_holds_575 : decode cL_holds 575 = .ok (.goto 4, 3) := by decide +kernel
theorem dL_holds_578 : decode cL_holds 578 = .ok (.iconst 0, 1) := by decide +kernel
theorem dL_holds_579 : decode cL_holds 579 = .ok (.ireturn, 1) := by decide +kernel
set_option maxRecDepth 20000 in
theorem ggL_cancels_X6_application : GoodIn wsL_cancels wsX6_application := goodIn_r _ [5, 6, 7, 8, 9, 10, 11, 12, 13, 14, 15, 16, 17, 18, 19, 20, 21, 22, 23, 24, 25, 26, 27, 28, 29, 30, 181, 182, 183, 184, 185, 186, 187, 188, 189, 190, 191, 192, 193, 194, 195, 196, 197, 198, 199, 200, 201, 202, 203, 204, 205, 206] rfl (by decide +kernel)
set_option maxRecDepth 20000 in
theorem gL_cancels_X6_application : GoodIn wsL_cancels (wsV RL 68 RX6 yX6_application wsX6_application) := goodIn_app (goodIn_of _ (by decide +kernel)) ggL_cancels_X6_application
set_option maxRecDepth 20000 in
theorem ggL_cancels_X6_count : GoodIn wsL_cancels wsX6_count := goodIn_r _ [34, 6, 35, 36, 37, 38, 39, 40, 41, 42, 43, 44, 20, 45, 22, 46, 47, 48, 49, 50, 51, 52, 53, 54, 55, 56, 57, 58, 59, 60, 61, 62, 63, 64, 65, 66, 67, 68, 181, 182, 183, 184, 185, 186, 187, 188, 189, 190, 191, 192, 193, 194, 207, 208, 209, 210, 211, 212, 213, 195, 196, 197, 198, 199, 200, 201, 202, 203] rfl (by decide +kernel)
set_option maxRecDepth 20000 in
theorem gL_cancels_X6_count : GoodIn wsL_cancels (wsV RL 57 RX6 yX6_count wsX6_count) := goodIn_app (goodIn_of _ (by decide +kernel)) ggL_cancels_X6_count
set_option maxRecDepth 20000 in
theorem ggL_cancels_X6_cancel : GoodIn wsL_cancels wsX6_cancel := goodIn_r _ [72, 6, 7, 12, 14, 9, 10, 17, 18, 19, 20, 21, 22, 73, 74, 75, 51, 76, 77, 78, 79, 80, 81, 82, 83, 58, 84, 85, 86, 87, 46, 28, 29, 30, 88, 89, 90, 91, 68, 92, 4, 93, 94, 95, 96, 97, 98, 99, 100, 101, 102, 103, 104, 105, 106, 107, 108, 109, 110, 111, 112, 113, 114, 115, 116, 117, 118, 119, 120, 121, 122, 123, 47, 124, 125, 126, 127, 128, 129, 130, 131, 132, 133, 134, 135, 136, 137, 27, 181, 182, 183, 184, 185, 186, 187, 188, 189, 190, 191, 192, 193, 194, 195, 196, 197, 198, 199, 200, 201, 202, 203, 204, 205, 206, 214, 215] rfl (by decide +kernel)
set_option maxRecDepth 20000 in
theorem gL_cancels_X6_cancel : GoodIn wsL_cancels (wsV RL 75 RX6 yX6_cancel wsX6_cancel) := goodIn_app (goodIn_of _ (by decide +kernel)) ggL_cancels_X6_cancel
set_option maxRecDepth 20000 in
theorem ggL_cancels_X6_onRoute : GoodIn wsL_cancels wsX6_onRoute := goodIn_r _ [141, 6, 142, 143, 144, 145, 146, 147, 148, 149, 150, 151, 20, 152, 153, 154, 155, 156, 157, 92, 4, 93, 158, 106, 107, 108, 22, 46, 109, 110, 111, 112, 51, 113, 77, 114, 115, 116, 117, 118, 119, 159, 95, 96, 97, 98, 99, 100, 101, 102, 103, 104, 105, 160, 161, 162, 163, 47, 181, 182, 183, 184, 185, 186, 187, 188, 189, 190, 191, 192, 193, 194, 214, 215, 195, 196, 197, 198, 199, 200, 201, 202, 203] rfl (by decide +kernel)
set_option maxRecDepth 20000 in
theorem gL_cancels_X6_onRoute : GoodIn wsL_cancels (wsV RL 93 RX6 yX6_onRoute wsX6_onRoute) := goodIn_app (goodIn_of _ (by decide +kernel)) ggL_cancels_X6_onRoute
set_option maxRecDepth 20000 in
theorem ggL_cancels_X6_climber : GoodIn wsL_cancels wsX6_climber := goodIn_r _ [167, 6, 168, 169, 170, 171, 172, 173, 174, 20, 175, 176, 42, 43, 44, 45, 22, 46, 47, 48, 49, 50, 51, 52, 53, 54, 55, 56, 57, 58, 59, 60, 61, 62, 63, 177, 178, 179, 180, 181, 182, 183, 184, 185, 186, 187, 188, 189, 190, 191, 192, 193, 194, 204, 205, 206, 195, 196, 197, 198, 199, 200, 201, 202, 203] rfl (by decide +kernel)
set_option maxRecDepth 20000 in
theorem gL_cancels_X6_climber : GoodIn wsL_cancels (wsV RL 65 RX6 yX6_climber wsX6_climber) := goodIn_app (goodIn_of _ (by decide +kernel)) ggL_cancels_X6_climber
theorem dL_cancels_0 : decode cL_cancels 0 = .ok (.aload_n 0, 1) := by decide +kernel
theorem dL_cancels_1 : decode cL_cancels 1 = .ok (.iload_n 1, 1) := by decide +kernel
theorem dL_cancels_2 : decode cL_cancels 2 = .ok (.iconst 4, 1) := by decide +kernel
theorem dL_cancels_3 : decode cL_cancels 3 = .ok (.invokevirtual 68, 3) := by decide +kernel
theorem dL_cancels_6 : decode cL_cancels 6 = .ok (.istore_n 2, 1) := by decide +kernel
theorem dL_cancels_7 : decode cL_cancels 7 = .ok (.aload_n 0, 1) := by decide +kernel
theorem dL_cancels_8 : decode cL_cancels 8 = .ok (.iload_n 1, 1) := by decide +kernel
theorem dL_cancels_9 : decode cL_cancels 9 = .ok (.iconst 1, 1) := by decide +kernel
theorem dL_cancels_10 : decode cL_cancels 10 = .ok (.invokevirtual 68, 3) := by decide +kernel
theorem dL_cancels_13 : decode cL_cancels 13 = .ok (.istore_n 3, 1) := by decide +kernel
theorem dL_cancels_14 : decode cL_cancels 14 = .ok (.aload_n 0, 1) := by decide +kernel
theorem dL_cancels_15 : decode cL_cancels 15 = .ok (.iload_n 1, 1) := by decide +kernel
theorem dL_cancels_16 : decode cL_cancels 16 = .ok (.iconst 2, 1) := by decide +kernel
theorem dL_cancels_17 : decode cL_cancels 17 = .ok (.invokevirtual 68, 3) := by decide +kernel
theorem dL_cancels_20 : decode cL_cancels 20 = .ok (.istore 4, 2) := by decide +kernel
theorem dL_cancels_22 : decode cL_cancels 22 = .ok (.aload_n 0, 1) := by decide +kernel
theorem dL_cancels_23 : decode cL_cancels 23 = .ok (.iload_n 1, 1) := by decide +kernel
theorem dL_cancels_24 : decode cL_cancels 24 = .ok (.iconst 5, 1) := by decide +kernel
theorem dL_cancels_25 : decode cL_cancels 25 = .ok (.invokevirtual 68, 3) := by decide +kernel
theorem dL_cancels_28 : decode cL_cancels 28 = .ok (.istore 5, 2) := by decide +kernel
theorem dL_cancels_30 : decode cL_cancels 30 = .ok (.iload 4, 2) := by decide +kernel
theorem dL_cancels_32 : decode cL_cancels 32 = .ok (.aload_n 0, 1) := by decide +kernel
theorem dL_cancels_33 : decode cL_cancels 33 = .ok (.iconst 0, 1) := by decide +kernel
theorem dL_cancels_34 : decode cL_cancels 34 = .ok (.invokevirtual 57, 3) := by decide +kernel
theorem dL_cancels_37 : decode cL_cancels 37 = .ok (.isub, 1) := by decide +kernel
theorem dL_cancels_38 : decode cL_cancels 38 = .ok (.istore 6, 2) := by decide +kernel
theorem dL_cancels_40 : decode cL_cancels 40 = .ok (.aload_n 0, 1) := by decide +kernel
theorem dL_cancels_41 : decode cL_cancels 41 = .ok (.bipush 12, 2) := by decide +kernel
theorem dL_cancels_43 : decode cL_cancels 43 = .ok (.invokevirtual 57, 3) := by decide +kernel
theorem dL_cancels_46 : decode cL_cancels 46 = .ok (.istore 7, 2) := by decide +kernel
theorem dL_cancels_48 : decode cL_cancels 48 = .ok (.aload_n 0, 1) := by decide +kernel
theorem dL_cancels_49 : decode cL_cancels 49 = .ok (.iload_n 1, 1) := by decide +kernel
theorem dL_cancels_50 : decode cL_cancels 50 = .ok (.invokevirtual 75, 3) := by decide +kernel
theorem dL_cancels_53 : decode cL_cancels 53 = .ok (.istore 8, 2) := by decide +kernel
theorem dL_cancels_55 : decode cL_cancels 55 = .ok (.iload_n 2, 1) := by decide +kernel
theorem dL_cancels_56 : decode cL_cancels 56 = .ok (.iconst 2, 1) := by decide +kernel
theorem dL_cancels_57 : decode cL_cancels 57 = .ok (.if_icmp .le 26, 3) := by decide +kernel
theorem dL_cancels_60 : decode cL_cancels 60 = .ok (.iload 8, 2) := by decide +kernel
theorem dL_cancels_62 : decode cL_cancels 62 = .ok (.bipush (-5), 2) := by decide +kernel
theorem dL_cancels_64 : decode cL_cancels 64 = .ok (.if_icmp .ne 17, 3) := by decide +kernel
theorem dL_cancels_67 : decode cL_cancels 67 = .ok (.aload_n 0, 1) := by decide +kernel
theorem dL_cancels_68 : decode cL_cancels 68 = .ok (.iload_n 1, 1) := by decide +kernel
theorem dL_cancels_69 : decode cL_cancels 69 = .ok (.iconst 4, 1) := by decide +kernel
theorem dL_cancels_70 : decode cL_cancels 70 = .ok (.invokevirtual 68, 3) := by decide +kernel
theorem dL_cancels_73 : decode cL_cancels 73 = .ok (.iload_n 2, 1) := by decide +kernel
theorem dL_cancels_74 : decode cL_cancels 74 = .ok (.if_icmp .ne 7, 3) := by decide +kernel
theorem dL_cancels_77 : decode cL_cancels 77 = .ok (.iconst 1, 1) := by decide +kernel
theorem dL_cancels_78 : decode cL_cancels 78 = .ok (.goto 4, 3) := by decide +kernel
theorem dL_cancels_81 : decode cL_cancels 81 = .ok (.iconst 0, 1) := by decide +kernel
theorem dL_cancels_82 : decode cL_cancels 82 = .ok (.ireturn, 1) := by decide +kernel
theorem dL_cancels_83 : decode cL_cancels 83 = .ok (.iload 8, 2) := by decide +kernel
theorem dL_cancels_85 : decode cL_cancels 85 = .ok (.iload_n 2, 1) := by decide +kernel
theorem dL_cancels_86 : decode cL_cancels 86 = .ok (.iconst 1, 1) := by decide +kernel
theorem dL_cancels_87 : decode cL_cancels 87 = .ok (.if_icmp .eq 7, 3) := by decide +kernel
theorem dL_cancels_90 : decode cL_cancels 90 = .ok (.iconst 0, 1) := by decide +kernel
theorem dL_cancels_91 : decode cL_cancels 91 = .ok (.goto 29, 3) := by decide +kernel
theorem dL_cancels_94 : decode cL_cancels 94 = .ok (.iload 6, 2) := by decide +kernel
theorem dL_cancels_96 : decode cL_cancels 96 = .ok (.bipush 7, 2) := by decide +kernel
theorem dL_cancels_98 : decode cL_cancels 98 = .ok (.if_icmp .lt 8, 3) := by decide +kernel
theorem dL_cancels_101 : decode cL_cancels 101 = .ok (.iload 5, 2) := by decide +kernel
theorem dL_cancels_103 : decode cL_cancels 103 = .ok (.goto 17, 3) := by decide +kernel
theorem dL_cancels_106 : decode cL_cancels 106 = .ok (.iload 6, 2) := by decide +kernel
theorem dL_cancels_108 : decode cL_cancels 108 = .ok (.iconst 3, 1) := by decide +kernel
theorem dL_cancels_109 : decode cL_cancels 109 = .ok (.if_icmp .lt 10, 3) := by decide +kernel
theorem dL_cancels_112 : decode cL_cancels 112 = .ok (.iload 5, 2) := by decide +kernel
theorem dL_cancels_114 : decode cL_cancels 114 = .ok (.iconst 2, 1) := by decide +kernel
theorem dL_cancels_115 : decode cL_cancels 115 = .ok (.idiv, 1) := by decide +kernel
theorem dL_cancels_116 : decode cL_cancels 116 = .ok (.goto 4, 3) := by decide +kernel
theorem dL_cancels_119 : decode cL_cancels 119 = .ok (.iconst 0, 1) := by decide +kernel
theorem dL_cancels_120 : decode cL_cancels 120 = .ok (.if_icmp .ne 39, 3) := by decide +kernel
theorem dL_cancels_123 : decode cL_cancels 123 = .ok (.aload_n 0, 1) := by decide +kernel
theorem dL_cancels_124 : decode cL_cancels 124 = .ok (.iload_n 1, 1) := by decide +kernel
theorem dL_cancels_125 : decode cL_cancels 125 = .ok (.iconst 4, 1) := by decide +kernel
theorem dL_cancels_126 : decode cL_cancels 126 = .ok (.invokevirtual 68, 3) := by decide +kernel
theorem dL_cancels_129 : decode cL_cancels 129 = .ok (.iconst 3, 1) := by decide +kernel
theorem dL_cancels_130 : decode cL_cancels 130 = .ok (.if_icmp .ne 29, 3) := by decide +kernel
theorem dL_cancels_133 : decode cL_cancels 133 = .ok (.aload_n 0, 1) := by decide +kernel
theorem dL_cancels_134 : decode cL_cancels 134 = .ok (.iload_n 1, 1) := by decide +kernel
theorem dL_cancels_135 : decode cL_cancels 135 = .ok (.bipush 6, 2) := by decide +kernel
theorem dL_cancels_137 : decode cL_cancels 137 = .ok (.invokevirtual 68, 3) := by decide +kernel
theorem dL_cancels_140 : decode cL_cancels 140 = .ok (.iload 8, 2) := by decide +kernel
theorem dL_cancels_142 : decode cL_cancels 142 = .ok (.if_icmp .ne 17, 3) := by decide +kernel
theorem dL_cancels_145 : decode cL_cancels 145 = .ok (.aload_n 0, 1) := by decide +kernel
theorem dL_cancels_146 : decode cL_cancels 146 = .ok (.bipush 12, 2) := by decide +kernel
theorem dL_cancels_148 : decode cL_cancels 148 = .ok (.invokevirtual 57, 3) := by decide +kernel
theorem dL_cancels_151 : decode cL_cancels 151 = .ok (.iload 7, 2) := by decide +kernel
theorem dL_cancels_153 : decode cL_cancels 153 = .ok (.iload 8, 2) := by decide +kernel
theorem dL_cancels_155 : decode cL_cancels 155 = .ok (.iadd, 1) := by decide +kernel
theorem dL_cancels_156 : decode cL_cancels 156 = .ok (.if_icmp .eq 5, 3) := by decide +kernel
theorem dL_cancels_159 : decode cL_cancels 159 = .ok (.iconst 0, 1) := by decide +kernel
theorem dL_cancels_160 : decode cL_cancels 160 = .ok (.ireturn, 1) := by decide +kernel
theorem dL_cancels_161 : decode cL_cancels 161 = .ok (.iload_n 2, 1) := by decide +kernel
theorem dL_cancels_162 : decode cL_cancels 162 = .ok (.iconst 1, 1) := by decide +kernel
theorem dL_cancels_163 : decode cL_cancels 163 = .ok (.if_icmp .eq 5, 3) := by decide +kernel
theorem dL_cancels_166 : decode cL_cancels 166 = .ok (.iconst 1, 1) := by decide +kernel
theorem dL_cancels_167 : decode cL_cancels 167 = .ok (.ireturn, 1) := by decide +kernel
theorem dL_cancels_168 : decode cL_cancels 168 = .ok (.aload_n 0, 1) := by decide +kernel
theorem dL_cancels_169 : decode cL_cancels 169 = .ok (.iload_n 3, 1) := by decide +kernel
theorem dL_cancels_170 : decode cL_cancels 170 = .ok (.iload 4, 2) := by decide +kernel
theorem dL_cancels_172 : decode cL_cancels 172 = .ok (.iconst 3, 1) := by decide +kernel
theorem dL_cancels_173 : decode cL_cancels 173 = .ok (.invokevirtual 93, 3) := by decide +kernel
theorem dL_cancels_176 : decode cL_cancels 176 = .ok (.istore 9, 2) := by decide +kernel
theorem dL_cancels_178 : decode cL_cancels 178 = .ok (.iconst 0, 1) := by decide +kernel
theorem dL_cancels_179 : decode cL_cancels 179 = .ok (.istore 10, 2) := by decide +kernel
theorem dL_cancels_181 : decode cL_cancels 181 = .ok (.iload 10, 2) := by decide +kernel
theorem dL_cancels_183 : decode cL_cancels 183 = .ok (.aload_n 0, 1) := by decide +kernel
theorem dL_cancels_184 : decode cL_cancels 184 = .ok (.iconst 3, 1) := by decide +kernel
theorem dL_cancels_185 : decode cL_cancels 185 = .ok (.invokevirtual 57, 3) := by decide +kernel
theorem dL_cancels_188 : decode cL_cancels 188 = .ok (.if_icmp .ge 74, 3) := by decide +kernel
theorem dL_cancels_191 : decode cL_cancels 191 = .ok (.aload_n 0, 1) := by decide +kernel
theorem dL_cancels_192 : decode cL_cancels 192 = .ok (.iload 10, 2) := by decide +kernel
theorem dL_cancels_194 : decode cL_cancels 194 = .ok (.iconst 4, 1) := by decide +kernel
theorem dL_cancels_195 : decode cL_cancels 195 = .ok (.invokevirtual 68, 3) := by decide +kernel
theorem dL_cancels_198 : decode cL_cancels 198 = .ok (.iconst 2, 1) := by decide +kernel
theorem dL_cancels_199 : decode cL_cancels 199 = .ok (.if_icmp .ne 57, 3) := by decide +kernel
theorem dL_cancels_202 : decode cL_cancels 202 = .ok (.aload_n 0, 1) := by decide +kernel
theorem dL_cancels_203 : decode cL_cancels 203 = .ok (.iload 10, 2) := by decide +kernel
theorem dL_cancels_205 : decode cL_cancels 205 = .ok (.iconst 1, 1) := by decide +kernel
theorem dL_cancels_206 : decode cL_cancels 206 = .ok (.invokevirtual 68, 3) := by decide +kernel
theorem dL_cancels_209 : decode cL_cancels 209 = .ok (.iload_n 3, 1) := by decide +kernel
theorem dL_cancels_210 : decode cL_cancels 210 = .ok (.if_icmp .ne 46, 3) := by decide +kernel
theorem dL_cancels_213 : decode cL_cancels 213 = .ok (.aload_n 0, 1) := by decide +kernel
theorem dL_cancels_214 : decode cL_cancels 214 = .ok (.iload 10, 2) := by decide +kernel
theorem dL_cancels_216 : decode cL_cancels 216 = .ok (.iconst 2, 1) := by decide +kernel
theorem dL_cancels_217 : decode cL_cancels 217 = .ok (.invokevirtual 68, 3) := by decide +kernel
theorem dL_cancels_220 : decode cL_cancels 220 = .ok (.iload 4, 2) := by decide +kernel
theorem dL_cancels_222 : decode cL_cancels 222 = .ok (.if_icmp .ne 34, 3) := by decide +kernel
theorem dL_cancels_225 : decode cL_cancels 225 = .ok (.aload_n 0, 1) := by decide +kernel
theorem dL_cancels_226 : decode cL_cancels 226 = .ok (.iload 10, 2) := by decide +kernel
theorem dL_cancels_228 : decode cL_cancels 228 = .ok (.iconst 3, 1) := by decide +kernel
theorem dL_cancels_229 : decode cL_cancels 229 = .ok (.invokevirtual 68, 3) := by decide +kernel
theorem dL_cancels_232 : decode cL_cancels 232 = .ok (.iload 9, 2) := by decide +kernel
theorem dL_cancels_234 : decode cL_cancels 234 = .ok (.if_icmp .gt 22, 3) := by decide +kernel
theorem dL_cancels_237 : decode cL_cancels 237 = .ok (.aload_n 0, 1) := by decide +kernel
theorem dL_cancels_238 : decode cL_cancels 238 = .ok (.aload_n 0, 1) := by decide +kernel
theorem dL_cancels_239 : decode cL_cancels 239 = .ok (.iload 10, 2) := by decide +kernel
theorem dL_cancels_241 : decode cL_cancels 241 = .ok (.iconst 0, 1) := by decide +kernel
theorem dL_cancels_242 : decode cL_cancels 242 = .ok (.invokevirtual 68, 3) := by decide +kernel
theorem dL_cancels_245 : decode cL_cancels 245 = .ok (.iconst 2, 1) := by decide +kernel
theorem dL_cancels_246 : decode cL_cancels 246 = .ok (.invokevirtual 65, 3) := by decide +kernel
theorem dL_cancels_249 : decode cL_cancels 249 = .ok (.iload 4, 2) := by decide +kernel
theorem dL_cancels_251 : decode cL_cancels 251 = .ok (.if_icmp .ge 5, 3) := by decide +kernel
theorem dL_cancels_254 : decode cL_cancels 254 = .ok (.iconst 0, 1) := by decide +kernel
theorem dL_cancels_255 : decode cL_cancels 255 = .ok (.ireturn, 1) := by decide +kernel
theorem dL_cancels_256 : decode cL_cancels 256 = .ok (.iinc 10 1, 3) := by decide +kernel
theorem dL_cancels_259 : decode cL_cancels 259 = .ok (.goto (-78), 3) := by decide +kernel
theorem dL_cancels_262 : decode cL_cancels 262 = .ok (.iconst 1, 1) := by decide +kernel
theorem dL_cancels_263 : decode cL_cancels 263 = .ok (.ireturn, 1) := by decide +kernel
set_option maxRecDepth 20000 in
theorem ggL_closes_X6_count : GoodIn wsL_closes wsX6_count := goodIn_r _ [6, 7, 8, 9, 10, 11, 12, 13, 14, 15, 16, 17, 18, 19, 20, 21, 22, 23, 24, 25, 26, 27, 28, 29, 30, 31, 32, 33, 34, 35, 36, 37, 38, 39, 40, 41, 42, 43, 172, 173, 174, 175, 176, 177, 178, 179, 180, 181, 182, 183, 184, 185, 186, 187, 188, 189, 190, 191, 192, 193, 194, 195, 196, 197, 198, 199, 200, 201] rfl (by decide +kernel)
set_option maxRecDepth 20000 in
theorem gL_closes_X6_count : GoodIn wsL_closes (wsV RL 57 RX6 yX6_count wsX6_count) := goodIn_app (goodIn_of _ (by decide +kernel)) ggL_closes_X6_count
set_option maxRecDepth 20000 in
theorem ggL_closes_X6_application : GoodIn wsL_closes wsX6_application := goodIn_r _ [47, 7, 48, 49, 50, 51, 52, 53, 54, 55, 56, 57, 58, 59, 60, 18, 61, 20, 62, 63, 64, 65, 66, 67, 68, 69, 172, 173, 174, 175, 176, 177, 178, 179, 180, 181, 182, 183, 184, 185, 193, 194, 195, 196, 197, 198, 199, 200, 201, 202, 203, 204] rfl (by decide +kernel)
set_option maxRecDepth 20000 in
theorem gL_closes_X6_application : GoodIn wsL_closes (wsV RL 68 RX6 yX6_application wsX6_application) := goodIn_app (goodIn_of _ (by decide +kernel)) ggL_closes_X6_application
set_option maxRecDepth 20000 in
theorem ggL_closes_X6_close : GoodIn wsL_closes wsX6_close := goodIn_r _ [73, 7, 74, 75, 76, 5, 77, 78, 79, 80, 18, 81, 82, 43, 83, 84, 85, 86, 20, 21, 22, 87, 33, 38, 67, 68, 69, 88, 89, 90, 91, 92, 66, 93, 94, 95, 96, 97, 98, 99, 100, 101, 102, 103, 104, 105, 106, 107, 108, 109, 110, 111, 112, 26, 113, 114, 115, 116, 117, 118, 119, 120, 121, 122, 123, 124, 172, 173, 174, 175, 176, 177, 178, 179, 180, 181, 182, 183, 184, 185, 193, 194, 195, 196, 197, 198, 199, 200, 201, 202, 203, 204, 205, 206] rfl (by decide +kernel)
set_option maxRecDepth 20000 in
theorem gL_closes_X6_close : GoodIn wsL_closes (wsV RL 101 RX6 yX6_close wsX6_close) := goodIn_app (goodIn_of _ (by decide +kernel)) ggL_closes_X6_close
set_option maxRecDepth 20000 in
theorem ggL_closes_X6_onRoute : GoodIn wsL_closes wsX6_onRoute := goodIn_r _ [128, 7, 129, 130, 131, 132, 133, 95, 134, 135, 136, 137, 18, 138, 139, 140, 141, 142, 143, 76, 5, 77, 144, 107, 108, 109, 20, 21, 97, 110, 111, 112, 26, 113, 114, 115, 116, 117, 118, 119, 120, 145, 146, 147, 148, 104, 149, 100, 101, 102, 103, 105, 106, 150, 151, 152, 153, 22, 172, 173, 174, 175, 176, 177, 178, 179, 180, 181, 182, 183, 184, 185, 205, 206, 193, 194, 195, 196, 197, 198, 199, 200, 201] rfl (by decide +kernel)
set_option maxRecDepth 20000 in
theorem gL_closes_X6_onRoute : GoodIn wsL_closes (wsV RL 93 RX6 yX6_onRoute wsX6_onRoute) := goodIn_app (goodIn_of _ (by decide +kernel)) ggL_closes_X6_onRoute
set_option maxRecDepth 20000 in
theorem ggL_closes_X6_nextWaiting : GoodIn wsL_closes wsX6_nextWaiting := goodIn_r _ [157, 7, 135, 136, 137, 18, 138, 139, 140, 141, 142, 143, 76, 5, 77, 78, 79, 80, 81, 82, 43, 145, 146, 147, 148, 104, 149, 100, 101, 102, 103, 105, 106, 107, 108, 109, 20, 21, 97, 110, 111, 112, 26, 113, 114, 115, 116, 117, 118, 119, 120, 158, 159, 160, 161, 22, 67, 68, 69, 162, 163, 164, 165, 87, 166, 167, 168, 169, 170, 171, 172, 173, 174, 175, 176, 177, 178, 179, 180, 181, 182, 183, 184, 185, 205, 206, 193, 194, 195, 196, 197, 198, 199, 200, 201, 202, 203, 204] rfl (by decide +kernel)
set_option maxRecDepth 20000 in
theorem gL_closes_X6_nextWaiting : GoodIn wsL_closes (wsV RL 104 RX6 yX6_nextWaiting wsX6_nextWaiting) := goodIn_app (goodIn_of _ (by decide +kernel)) ggL_closes_X6_nextWaiting
theorem dL_closes_0 : decode cL_closes 0 = .ok (.aload_n 0, 1) := by decide +kernel
theorem dL_closes_1 : decode cL_closes 1 = .ok (.iconst 3, 1) := by decide +kernel
theorem dL_closes_2 : decode cL_closes 2 = .ok (.invokevirtual 57, 3) := by decide +kernel
theorem dL_closes_5 : decode cL_closes 5 = .ok (.istore_n 2, 1) := by decide +kernel
theorem dL_closes_6 : decode cL_closes 6 = .ok (.aload_n 0, 1) := by decide +kernel
theorem dL_closes_7 : decode cL_closes 7 = .ok (.bipush 13, 2) := by decide +kernel
theorem dL_closes_9 : decode cL_closes 9 = .ok (.invokevirtual 57, 3) := by decide +kernel
theorem dL_closes_12 : decode cL_closes 12 = .ok (.istore_n 3, 1) := by decide +kernel
theorem dL_closes_13 : decode cL_closes 13 = .ok (.bipush 40, 2) := by decide +kernel
theorem dL_closes_15 : decode cL_closes 15 = .ok (.newarray .int, 2) := by decide +kernel
theorem dL_closes_17 : decode cL_closes 17 = .ok (.astore 4, 2) := by decide +kernel
theorem dL_closes_19 : decode cL_closes 19 = .ok (.iconst 0, 1) := by decide +kernel
theorem dL_closes_20 : decode cL_closes 20 = .ok (.istore 5, 2) := by decide +kernel
theorem dL_closes_22 : decode cL_closes 22 = .ok (.iload 5, 2) := by decide +kernel
theorem dL_closes_24 : decode cL_closes 24 = .ok (.iload_n 2, 1) := by decide +kernel
theorem dL_closes_25 : decode cL_closes 25 = .ok (.if_icmp .ge 37, 3) := by decide +kernel
theorem dL_closes_28 : decode cL_closes 28 = .ok (.aload 4, 2) := by decide +kernel
theorem dL_closes_30 : decode cL_closes 30 = .ok (.iload 5, 2) := by decide +kernel
theorem dL_closes_32 : decode cL_closes 32 = .ok (.aload_n 0, 1) := by decide +kernel
theorem dL_closes_33 : decode cL_closes 33 = .ok (.iload 5, 2) := by decide +kernel
theorem dL_closes_35 : decode cL_closes 35 = .ok (.iconst 2, 1) := by decide +kernel
theorem dL_closes_36 : decode cL_closes 36 = .ok (.invokevirtual 68, 3) := by decide +kernel
theorem dL_closes_39 : decode cL_closes 39 = .ok (.iload_n 1, 1) := by decide +kernel
theorem dL_closes_40 : decode cL_closes 40 = .ok (.if_icmp .ne 13, 3) := by decide +kernel
theorem dL_closes_43 : decode cL_closes 43 = .ok (.aload_n 0, 1) := by decide +kernel
theorem dL_closes_44 : decode cL_closes 44 = .ok (.iload 5, 2) := by decide +kernel
theorem dL_closes_46 : decode cL_closes 46 = .ok (.iconst 4, 1) := by decide +kernel
theorem dL_closes_47 : decode cL_closes 47 = .ok (.invokevirtual 68, 3) := by decide +kernel
theorem dL_closes_50 : decode cL_closes 50 = .ok (.goto 5, 3) := by decide +kernel
theorem dL_closes_53 : decode cL_closes 53 = .ok (.bipush 9, 2) := by decide +kernel
theorem dL_closes_55 : decode cL_closes 55 = .ok (.iastore, 1) := by decide +kernel
theorem dL_closes_56 : decode cL_closes 56 = .ok (.iinc 5 1, 3) := by decide +kernel
theorem dL_closes_59 : decode cL_closes 59 = .ok (.goto (-37), 3) := by decide +kernel
theorem dL_closes_62 : decode cL_closes 62 = .ok (.aload_n 0, 1) := by decide +kernel
theorem dL_closes_63 : decode cL_closes 63 = .ok (.iload_n 1, 1) := by decide +kernel
theorem dL_closes_64 : decode cL_closes 64 = .ok (.invokevirtual 101, 3) := by decide +kernel
theorem dL_closes_67 : decode cL_closes 67 = .ok (.istore 5, 2) := by decide +kernel
theorem dL_closes_69 : decode cL_closes 69 = .ok (.iload 5, 2) := by decide +kernel
theorem dL_closes_71 : decode cL_closes 71 = .ok (.bipush (-5), 2) := by decide +kernel
theorem dL_closes_73 : decode cL_closes 73 = .ok (.if_icmp .ne 19, 3) := by decide +kernel
theorem dL_closes_76 : decode cL_closes 76 = .ok (.aload_n 0, 1) := by decide +kernel
theorem dL_closes_77 : decode cL_closes 77 = .ok (.bipush 13, 2) := by decide +kernel
theorem dL_closes_79 : decode cL_closes 79 = .ok (.invokevirtual 57, 3) := by decide +kernel
theorem dL_closes_82 : decode cL_closes 82 = .ok (.iload_n 3, 1) := by decide +kernel
theorem dL_closes_83 : decode cL_closes 83 = .ok (.if_icmp .ne 7, 3) := by decide +kernel
theorem dL_closes_86 : decode cL_closes 86 = .ok (.iconst 1, 1) := by decide +kernel
theorem dL_closes_87 : decode cL_closes 87 = .ok (.goto 4, 3) := by decide +kernel
theorem dL_closes_90 : decode cL_closes 90 = .ok (.iconst 0, 1) := by decide +kernel
theorem dL_closes_91 : decode cL_closes 91 = .ok (.ireturn, 1) := by decide +kernel
theorem dL_closes_92 : decode cL_closes 92 = .ok (.iconst 0, 1) := by decide +kernel
theorem dL_closes_93 : decode cL_closes 93 = .ok (.istore 6, 2) := by decide +kernel
theorem dL_closes_95 : decode cL_closes 95 = .ok (.iconst 0, 1) := by decide +kernel
theorem dL_closes_96 : decode cL_closes 96 = .ok (.istore 7, 2) := by decide +kernel
theorem dL_closes_98 : decode cL_closes 98 = .ok (.iload 7, 2) := by decide +kernel
theorem dL_closes_100 : decode cL_closes 100 = .ok (.iload_n 2, 1) := by decide +kernel
theorem dL_closes_101 : decode cL_closes 101 = .ok (.if_icmp .ge 176, 3) := by decide +kernel
theorem dL_closes_104 : decode cL_closes 104 = .ok (.aload_n 0, 1) := by decide +kernel
theorem dL_closes_105 : decode cL_closes 105 = .ok (.iload 7, 2) := by decide +kernel
theorem dL_closes_107 : decode cL_closes 107 = .ok (.iconst 4, 1) := by decide +kernel
theorem dL_closes_108 : decode cL_closes 108 = .ok (.invokevirtual 68, 3) := by decide +kernel
theorem dL_closes_111 : decode cL_closes 111 = .ok (.istore 8, 2) := by decide +kernel
theorem dL_closes_113 : decode cL_closes 113 = .ok (.aload_n 0, 1) := by decide +kernel
theorem dL_closes_114 : decode cL_closes 114 = .ok (.iload 7, 2) := by decide +kernel
theorem dL_closes_116 : decode cL_closes 116 = .ok (.iconst 2, 1) := by decide +kernel
theorem dL_closes_117 : decode cL_closes 117 = .ok (.invokevirtual 68, 3) := by decide +kernel
theorem dL_closes_120 : decode cL_closes 120 = .ok (.istore 9, 2) := by decide +kernel
theorem dL_closes_122 : decode cL_closes 122 = .ok (.aload 4, 2) := by decide +kernel
theorem dL_closes_124 : decode cL_closes 124 = .ok (.iload 7, 2) := by decide +kernel
theorem dL_closes_126 : decode cL_closes 126 = .ok (.iaload, 1) := by decide +kernel
theorem dL_closes_127 : decode cL_closes 127 = .ok (.ifCond .ne 17, 3) := by decide +kernel
theorem dL_closes_130 : decode cL_closes 130 = .ok (.iload 8, 2) := by decide +kernel
theorem dL_closes_132 : decode cL_closes 132 = .ok (.iconst 2, 1) := by decide +kernel
theorem dL_closes_133 : decode cL_closes 133 = .ok (.if_icmp .ne 9, 3) := by decide +kernel
theorem dL_closes_136 : decode cL_closes 136 = .ok (.iload 9, 2) := by decide +kernel
theorem dL_closes_138 : decode cL_closes 138 = .ok (.iload_n 1, 1) := by decide +kernel
theorem dL_closes_139 : decode cL_closes 139 = .ok (.if_icmp .eq 5, 3) := by decide +kernel
theorem dL_closes_142 : decode cL_closes 142 = .ok (.iconst 0, 1) := by decide +kernel
theorem dL_closes_143 : decode cL_closes 143 = .ok (.ireturn, 1) := by decide +kernel
theorem dL_closes_144 : decode cL_closes 144 = .ok (.aload 4, 2) := by decide +kernel
theorem dL_closes_146 : decode cL_closes 146 = .ok (.iload 7, 2) := by decide +kernel
theorem dL_closes_148 : decode cL_closes 148 = .ok (.iaload, 1) := by decide +kernel
theorem dL_closes_149 : decode cL_closes 149 = .ok (.iconst 1, 1) := by decide +kernel
theorem dL_closes_150 : decode cL_closes 150 = .ok (.if_icmp .ne 90, 3) := by decide +kernel
theorem dL_closes_153 : decode cL_closes 153 = .ok (.iload 8, 2) := by decide +kernel
theorem dL_closes_155 : decode cL_closes 155 = .ok (.iconst 4, 1) := by decide +kernel
theorem dL_closes_156 : decode cL_closes 156 = .ok (.if_icmp .ne 30, 3) := by decide +kernel
theorem dL_closes_159 : decode cL_closes 159 = .ok (.iload 9, 2) := by decide +kernel
theorem dL_closes_161 : decode cL_closes 161 = .ok (.iload_n 1, 1) := by decide +kernel
theorem dL_closes_162 : decode cL_closes 162 = .ok (.if_icmp .ne 60, 3) := by decide +kernel
theorem dL_closes_165 : decode cL_closes 165 = .ok (.aload_n 0, 1) := by decide +kernel
theorem dL_closes_166 : decode cL_closes 166 = .ok (.iload 7, 2) := by decide +kernel
theorem dL_closes_168 : decode cL_closes 168 = .ok (.bipush 6, 2) := by decide +kernel
theorem dL_closes_170 : decode cL_closes 170 = .ok (.invokevirtual 68, 3) := by decide +kernel
theorem dL_closes_173 : decode cL_closes 173 = .ok (.aload_n 0, 1) := by decide +kernel
theorem dL_closes_174 : decode cL_closes 174 = .ok (.iload 7, 2) := by decide +kernel
theorem dL_closes_176 : decode cL_closes 176 = .ok (.iconst 5, 1) := by decide +kernel
theorem dL_closes_177 : decode cL_closes 177 = .ok (.invokevirtual 68, 3) := by decide +kernel
theorem dL_closes_180 : decode cL_closes 180 = .ok (.if_icmp .eq 44, 3) := by decide +kernel
theorem dL_closes_183 : decode cL_closes 183 = .ok (.goto 39, 3) := by decide +kernel
theorem dL_closes_186 : decode cL_closes 186 = .ok (.iload 8, 2) := by decide +kernel
theorem dL_closes_188 : decode cL_closes 188 = .ok (.iconst 1, 1) := by decide +kernel
theorem dL_closes_189 : decode cL_closes 189 = .ok (.if_icmp .ne 33, 3) := by decide +kernel
theorem dL_closes_192 : decode cL_closes 192 = .ok (.iload 9, 2) := by decide +kernel
theorem dL_closes_194 : decode cL_closes 194 = .ok (.iload_n 1, 1) := by decide +kernel
theorem dL_closes_195 : decode cL_closes 195 = .ok (.if_icmp .le 27, 3) := by decide +kernel
theorem dL_closes_198 : decode cL_closes 198 = .ok (.iload 9, 2) := by decide +kernel
theorem dL_closes_200 : decode cL_closes 200 = .ok (.iload_n 1, 1) := by decide +kernel
theorem dL_closes_201 : decode cL_closes 201 = .ok (.aload_n 0, 1) := by decide +kernel
theorem dL_closes_202 : decode cL_closes 202 = .ok (.bipush 19, 2) := by decide +kernel
theorem dL_closes_204 : decode cL_closes 204 = .ok (.invokevirtual 57, 3) := by decide +kernel
theorem dL_closes_207 : decode cL_closes 207 = .ok (.iadd, 1) := by decide +kernel
theorem dL_closes_208 : decode cL_closes 208 = .ok (.if_icmp .gt 14, 3) := by decide +kernel
theorem dL_closes_211 : decode cL_closes 211 = .ok (.aload_n 0, 1) := by decide +kernel
theorem dL_closes_212 : decode cL_closes 212 = .ok (.iload 7, 2) := by decide +kernel
theorem dL_closes_214 : decode cL_closes 214 = .ok (.bipush 7, 2) := by decide +kernel
theorem dL_closes_216 : decode cL_closes 216 = .ok (.invokevirtual 68, 3) := by decide +kernel
theorem dL_closes_219 : decode cL_closes 219 = .ok (.ifCond .eq 5, 3) := by decide +kernel
theorem dL_closes_222 : decode cL_closes 222 = .ok (.iconst 0, 1) := by decide +kernel
theorem dL_closes_223 : decode cL_closes 223 = .ok (.ireturn, 1) := by decide +kernel
theorem dL_closes_224 : decode cL_closes 224 = .ok (.iload 6, 2) := by decide +kernel
theorem dL_closes_226 : decode cL_closes 226 = .ok (.iload 8, 2) := by decide +kernel
theorem dL_closes_228 : decode cL_closes 228 = .ok (.iconst 1, 1) := by decide +kernel
theorem dL_closes_229 : decode cL_closes 229 = .ok (.if_icmp .ne 7, 3) := by decide +kernel
theorem dL_closes_232 : decode cL_closes 232 = .ok (.iconst 1, 1) := by decide +kernel
theorem dL_closes_233 : decode cL_closes 233 = .ok (.goto 4, 3) := by decide +kernel
theorem dL_closes_236 : decode cL_closes 236 = .ok (.iconst 0, 1) := by decide +kernel
theorem dL_closes_237 : decode cL_closes 237 = .ok (.iadd, 1) := by decide +kernel
theorem dL_closes_238 : decode cL_closes 238 = .ok (.istore 6, 2) := by decide +kernel
theorem dL_closes_240 : decode cL_closes 240 = .ok (.aload 4, 2) := by decide +kernel
theorem dL_closes_242 : decode cL_closes 242 = .ok (.iload 7, 2) := by decide +kernel
theorem dL_closes_244 : decode cL_closes 244 = .ok (.iaload, 1) := by decide +kernel
theorem dL_closes_245 : decode cL_closes 245 = .ok (.iconst 1, 1) := by decide +kernel
theorem dL_closes_246 : decode cL_closes 246 = .ok (.if_icmp .le 25, 3) := by decide +kernel
theorem dL_closes_249 : decode cL_closes 249 = .ok (.aload 4, 2) := by decide +kernel
theorem dL_closes_251 : decode cL_closes 251 = .ok (.iload 7, 2) := by decide +kernel
theorem dL_closes_253 : decode cL_closes 253 = .ok (.iaload, 1) := by decide +kernel
theorem dL_closes_254 : decode cL_closes 254 = .ok (.bipush 9, 2) := by decide +kernel
theorem dL_closes_256 : decode cL_closes 256 = .ok (.if_icmp .ge 15, 3) := by decide +kernel
theorem dL_closes_259 : decode cL_closes 259 = .ok (.iload 8, 2) := by decide +kernel
theorem dL_closes_261 : decode cL_closes 261 = .ok (.aload 4, 2) := by decide +kernel
theorem dL_closes_263 : decode cL_closes 263 = .ok (.iload 7, 2) := by decide +kernel
theorem dL_closes_265 : decode cL_closes 265 = .ok (.iaload, 1) := by decide +kernel
theorem dL_closes_266 : decode cL_closes 266 = .ok (.if_icmp .eq 5, 3) := by decide +kernel
theorem dL_closes_269 : decode cL_closes 269 = .ok (.iconst 0, 1) := by decide +kernel
theorem dL_closes_270 : decode cL_closes 270 = .ok (.ireturn, 1) := by decide +kernel
theorem dL_closes_271 : decode cL_closes 271 = .ok (.iinc 7 1, 3) := by decide +kernel
theorem dL_closes_274 : decode cL_closes 274 = .ok (.goto (-176), 3) := by decide +kernel
theorem dL_closes_277 : decode cL_closes 277 = .ok (.iload 6, 2) := by decide +kernel
theorem dL_closes_279 : decode cL_closes 279 = .ok (.iload 5, 2) := by decide +kernel
theorem dL_closes_281 : decode cL_closes 281 = .ok (.if_icmp .ne 50, 3) := by decide +kernel
theorem dL_closes_284 : decode cL_closes 284 = .ok (.aload_n 0, 1) := by decide +kernel
theorem dL_closes_285 : decode cL_closes 285 = .ok (.bipush 13, 2) := by decide +kernel
theorem dL_closes_287 : decode cL_closes 287 = .ok (.invokevirtual 57, 3) := by decide +kernel
theorem dL_closes_290 : decode cL_closes 290 = .ok (.iload_n 3, 1) := by decide +kernel
theorem dL_closes_291 : decode cL_closes 291 = .ok (.iconst 1, 1) := by decide +kernel
theorem dL_closes_292 : decode cL_closes 292 = .ok (.iadd, 1) := by decide +kernel
theorem dL_closes_293 : decode cL_closes 293 = .ok (.if_icmp .ne 38, 3) := by decide +kernel
theorem dL_closes_296 : decode cL_closes 296 = .ok (.aload_n 0, 1) := by decide +kernel
theorem dL_closes_297 : decode cL_closes 297 = .ok (.iload_n 1, 1) := by decide +kernel
theorem dL_closes_298 : decode cL_closes 298 = .ok (.invokevirtual 101, 3) := by decide +kernel
theorem dL_closes_301 : decode cL_closes 301 = .ok (.bipush (-5), 2) := by decide +kernel
theorem dL_closes_303 : decode cL_closes 303 = .ok (.if_icmp .ne 28, 3) := by decide +kernel
theorem dL_closes_306 : decode cL_closes 306 = .ok (.aload_n 0, 1) := by decide +kernel
theorem dL_closes_307 : decode cL_closes 307 = .ok (.iconst 0, 1) := by decide +kernel
theorem dL_closes_308 : decode cL_closes 308 = .ok (.iload_n 1, 1) := by decide +kernel
theorem dL_closes_309 : decode cL_closes 309 = .ok (.iconst 4, 1) := by decide +kernel
theorem dL_closes_310 : decode cL_closes 310 = .ok (.invokevirtual 93, 3) := by decide +kernel
theorem dL_closes_313 : decode cL_closes 313 = .ok (.ifCond .ne 18, 3) := by decide +kernel
theorem dL_closes_316 : decode cL_closes 316 = .ok (.aload_n 0, 1) := by decide +kernel
theorem dL_closes_317 : decode cL_closes 317 = .ok (.iconst 0, 1) := by decide +kernel
theorem dL_closes_318 : decode cL_closes 318 = .ok (.iload_n 1, 1) := by decide +kernel
theorem dL_closes_319 : decode cL_closes 319 = .ok (.invokevirtual 104, 3) := by decide +kernel
theorem dL_closes_322 : decode cL_closes 322 = .ok (.bipush (-6), 2) := by decide +kernel
theorem dL_closes_324 : decode cL_closes 324 = .ok (.if_icmp .ne 7, 3) := by decide +kernel
theorem dL_closes_327 : decode cL_closes 327 = .ok (.iconst 1, 1) := by decide +kernel
theorem dL_closes_328 : decode cL_closes 328 = .ok (.goto 4, 3) := by decide +kernel
theorem dL_closes_331 : decode cL_closes 331 = .ok (.iconst 0, 1) := by decide +kernel
theorem dL_closes_332 : decode cL_closes 332 = .ok (.ireturn, 1) := by decide +kernel
set_option maxRecDepth 20000 in
theorem ggL_ends_X6_count : GoodIn wsL_ends wsX6_count := goodIn_r _ [6, 7, 8, 9, 10, 11, 12, 13, 14, 15, 16, 17, 18, 19, 20, 21, 22, 23, 24, 25, 26, 27, 28, 29, 30, 31, 32, 33, 34, 35, 36, 37, 38, 39, 40, 41, 42, 43, 119, 120, 121, 122, 123, 124, 125, 126, 127, 128, 129, 130, 131, 132, 133, 134, 135, 136, 137, 138, 139, 140, 141, 142, 143, 144, 145, 146, 147, 148] rfl (by decide +kernel)
set_option maxRecDepth 20000 in
theorem gL_ends_X6_count : GoodIn wsL_ends (wsV RL 57 RX6 yX6_count wsX6_count) := goodIn_app (goodIn_of _ (by decide +kernel)) ggL_ends_X6_count
set_option maxRecDepth 20000 in
theorem ggL_ends_X6_end : GoodIn wsL_ends wsX6_end := goodIn_r _ [47, 7, 9, 48, 49, 50, 18, 51, 20, 21, 22, 52, 53, 54, 55, 56, 57, 58, 59, 60, 61, 62, 63, 64, 65, 66, 67, 68, 69, 70, 71, 72, 73, 74, 75, 26, 76, 77, 78, 119, 120, 121, 122, 123, 124, 125, 126, 127, 128, 129, 130, 131, 132, 140, 141, 142, 143, 144, 145, 146, 147, 148, 149, 150, 151] rfl (by decide +kernel)
set_option maxRecDepth 20000 in
theorem gL_ends_X6_end : GoodIn wsL_ends (wsV RL 107 RX6 yX6_end wsX6_end) := goodIn_app (goodIn_of _ (by decide +kernel)) ggL_ends_X6_end
set_option maxRecDepth 20000 in
theorem ggL_ends_X6_climber : GoodIn wsL_ends wsX6_climber := goodIn_r _ [82, 7, 83, 84, 85, 86, 87, 88, 89, 18, 90, 91, 15, 16, 17, 19, 20, 21, 22, 23, 24, 25, 26, 27, 28, 29, 30, 31, 32, 33, 34, 35, 36, 37, 38, 92, 93, 94, 95, 119, 120, 121, 122, 123, 124, 125, 126, 127, 128, 129, 130, 131, 132, 149, 150, 151, 140, 141, 142, 143, 144, 145, 146, 147, 148] rfl (by decide +kernel)
set_option maxRecDepth 20000 in
theorem gL_ends_X6_climber : GoodIn wsL_ends (wsV RL 65 RX6 yX6_climber wsX6_climber) := goodIn_app (goodIn_of _ (by decide +kernel)) ggL_ends_X6_climber
set_option maxRecDepth 20000 in
theorem ggL_ends_X6_application : GoodIn wsL_ends wsX6_application := goodIn_r _ [99, 7, 100, 101, 102, 103, 104, 105, 106, 107, 108, 109, 110, 111, 112, 18, 113, 20, 114, 115, 116, 117, 57, 55, 56, 118, 119, 120, 121, 122, 123, 124, 125, 126, 127, 128, 129, 130, 131, 132, 140, 141, 142, 143, 144, 145, 146, 147, 148, 149, 150, 151] rfl (by decide +kernel)
set_option maxRecDepth 20000 in
theorem gL_ends_X6_application : GoodIn wsL_ends (wsV RL 68 RX6 yX6_application wsX6_application) := goodIn_app (goodIn_of _ (by decide +kernel)) ggL_ends_X6_application
theorem dL_ends_0 : decode cL_ends 0 = .ok (.aload_n 0, 1) := by decide +kernel
theorem dL_ends_1 : decode cL_ends 1 = .ok (.iconst 0, 1) := by decide +kernel
theorem dL_ends_2 : decode cL_ends 2 = .ok (.invokevirtual 57, 3) := by decide +kernel
theorem dL_ends_5 : decode cL_ends 5 = .ok (.istore_n 1, 1) := by decide +kernel
theorem dL_ends_6 : decode cL_ends 6 = .ok (.iload_n 1, 1) := by decide +kernel
theorem dL_ends_7 : decode cL_ends 7 = .ok (.bipush 59, 2) := by decide +kernel
theorem dL_ends_9 : decode cL_ends 9 = .ok (.if_icmp .ne 18, 3) := by decide +kernel
theorem dL_ends_12 : decode cL_ends 12 = .ok (.aload_n 0, 1) := by decide +kernel
theorem dL_ends_13 : decode cL_ends 13 = .ok (.invokevirtual 107, 3) := by decide +kernel
theorem dL_ends_16 : decode cL_ends 16 = .ok (.bipush (-5), 2) := by decide +kernel
theorem dL_ends_18 : decode cL_ends 18 = .ok (.if_icmp .ne 7, 3) := by decide +kernel
theorem dL_ends_21 : decode cL_ends 21 = .ok (.iconst 1, 1) := by decide +kernel
theorem dL_ends_22 : decode cL_ends 22 = .ok (.goto 4, 3) := by decide +kernel
theorem dL_ends_25 : decode cL_ends 25 = .ok (.iconst 0, 1) := by decide +kernel
theorem dL_ends_26 : decode cL_ends 26 = .ok (.ireturn, 1) := by decide +kernel
theorem dL_ends_27 : decode cL_ends 27 = .ok (.aload_n 0, 1) := by decide +kernel
theorem dL_ends_28 : decode cL_ends 28 = .ok (.iconst 3, 1) := by decide +kernel
theorem dL_ends_29 : decode cL_ends 29 = .ok (.invokevirtual 57, 3) := by decide +kernel
theorem dL_ends_32 : decode cL_ends 32 = .ok (.istore_n 2, 1) := by decide +kernel
theorem dL_ends_33 : decode cL_ends 33 = .ok (.bipush 40, 2) := by decide +kernel
theorem dL_ends_35 : decode cL_ends 35 = .ok (.newarray .int, 2) := by decide +kernel
theorem dL_ends_37 : decode cL_ends 37 = .ok (.astore_n 3, 1) := by decide +kernel
theorem dL_ends_38 : decode cL_ends 38 = .ok (.bipush 12, 2) := by decide +kernel
theorem dL_ends_40 : decode cL_ends 40 = .ok (.newarray .int, 2) := by decide +kernel
theorem dL_ends_42 : decode cL_ends 42 = .ok (.astore 4, 2) := by decide +kernel
theorem dL_ends_44 : decode cL_ends 44 = .ok (.bipush 12, 2) := by decide +kernel
theorem dL_ends_46 : decode cL_ends 46 = .ok (.newarray .int, 2) := by decide +kernel
theorem dL_ends_48 : decode cL_ends 48 = .ok (.astore 5, 2) := by decide +kernel
theorem dL_ends_50 : decode cL_ends 50 = .ok (.iconst 0, 1) := by decide +kernel
theorem dL_ends_51 : decode cL_ends 51 = .ok (.istore 6, 2) := by decide +kernel
theorem dL_ends_53 : decode cL_ends 53 = .ok (.iconst 0, 1) := by decide +kernel
theorem dL_ends_54 : decode cL_ends 54 = .ok (.istore 7, 2) := by decide +kernel
theorem dL_ends_56 : decode cL_ends 56 = .ok (.iload 7, 2) := by decide +kernel
theorem dL_ends_58 : decode cL_ends 58 = .ok (.aload_n 0, 1) := by decide +kernel
theorem dL_ends_59 : decode cL_ends 59 = .ok (.iconst 2, 1) := by decide +kernel
theorem dL_ends_60 : decode cL_ends 60 = .ok (.invokevirtual 57, 3) := by decide +kernel
theorem dL_ends_63 : decode cL_ends 63 = .ok (.if_icmp .ge 33, 3) := by decide +kernel
theorem dL_ends_66 : decode cL_ends 66 = .ok (.aload 4, 2) := by decide +kernel
theorem dL_ends_68 : decode cL_ends 68 = .ok (.iload 7, 2) := by decide +kernel
theorem dL_ends_70 : decode cL_ends 70 = .ok (.aload_n 0, 1) := by decide +kernel
theorem dL_ends_71 : decode cL_ends 71 = .ok (.iload 7, 2) := by decide +kernel
theorem dL_ends_73 : decode cL_ends 73 = .ok (.iconst 1, 1) := by decide +kernel
theorem dL_ends_74 : decode cL_ends 74 = .ok (.invokevirtual 65, 3) := by decide +kernel
theorem dL_ends_77 : decode cL_ends 77 = .ok (.iastore, 1) := by decide +kernel
theorem dL_ends_78 : decode cL_ends 78 = .ok (.aload 5, 2) := by decide +kernel
theorem dL_ends_80 : decode cL_ends 80 = .ok (.iload 7, 2) := by decide +kernel
theorem dL_ends_82 : decode cL_ends 82 = .ok (.aload_n 0, 1) := by decide +kernel
theorem dL_ends_83 : decode cL_ends 83 = .ok (.iload 7, 2) := by decide +kernel
theorem dL_ends_85 : decode cL_ends 85 = .ok (.iconst 2, 1) := by decide +kernel
theorem dL_ends_86 : decode cL_ends 86 = .ok (.invokevirtual 65, 3) := by decide +kernel
theorem dL_ends_89 : decode cL_ends 89 = .ok (.iastore, 1) := by decide +kernel
theorem dL_ends_90 : decode cL_ends 90 = .ok (.iinc 7 1, 3) := by decide +kernel
theorem dL_ends_93 : decode cL_ends 93 = .ok (.goto (-37), 3) := by decide +kernel
theorem dL_ends_96 : decode cL_ends 96 = .ok (.iconst 0, 1) := by decide +kernel
theorem dL_ends_97 : decode cL_ends 97 = .ok (.istore 7, 2) := by decide +kernel
theorem dL_ends_99 : decode cL_ends 99 = .ok (.iload 7, 2) := by decide +kernel
theorem dL_ends_101 : decode cL_ends 101 = .ok (.iload_n 2, 1) := by decide +kernel
theorem dL_ends_102 : decode cL_ends 102 = .ok (.if_icmp .ge 148, 3) := by decide +kernel
theorem dL_ends_105 : decode cL_ends 105 = .ok (.aload_n 3, 1) := by decide +kernel
theorem dL_ends_106 : decode cL_ends 106 = .ok (.iload 7, 2) := by decide +kernel
theorem dL_ends_108 : decode cL_ends 108 = .ok (.aload_n 0, 1) := by decide +kernel
theorem dL_ends_109 : decode cL_ends 109 = .ok (.iload 7, 2) := by decide +kernel
theorem dL_ends_111 : decode cL_ends 111 = .ok (.iconst 2, 1) := by decide +kernel
theorem dL_ends_112 : decode cL_ends 112 = .ok (.invokevirtual 68, 3) := by decide +kernel
theorem dL_ends_115 : decode cL_ends 115 = .ok (.iload_n 1, 1) := by decide +kernel
theorem dL_ends_116 : decode cL_ends 116 = .ok (.if_icmp .eq 8, 3) := by decide +kernel
theorem dL_ends_119 : decode cL_ends 119 = .ok (.bipush 9, 2) := by decide +kernel
theorem dL_ends_121 : decode cL_ends 121 = .ok (.goto 35, 3) := by decide +kernel
theorem dL_ends_124 : decode cL_ends 124 = .ok (.aload_n 0, 1) := by decide +kernel
theorem dL_ends_125 : decode cL_ends 125 = .ok (.iload 7, 2) := by decide +kernel
theorem dL_ends_127 : decode cL_ends 127 = .ok (.iconst 4, 1) := by decide +kernel
theorem dL_ends_128 : decode cL_ends 128 = .ok (.invokevirtual 68, 3) := by decide +kernel
theorem dL_ends_131 : decode cL_ends 131 = .ok (.iconst 1, 1) := by decide +kernel
theorem dL_ends_132 : decode cL_ends 132 = .ok (.if_icmp .ne 17, 3) := by decide +kernel
theorem dL_ends_135 : decode cL_ends 135 = .ok (.bipush 10, 2) := by decide +kernel
theorem dL_ends_137 : decode cL_ends 137 = .ok (.aload_n 0, 1) := by decide +kernel
theorem dL_ends_138 : decode cL_ends 138 = .ok (.iload 7, 2) := by decide +kernel
theorem dL_ends_140 : decode cL_ends 140 = .ok (.bipush 7, 2) := by decide +kernel
theorem dL_ends_142 : decode cL_ends 142 = .ok (.invokevirtual 68, 3) := by decide +kernel
theorem dL_ends_145 : decode cL_ends 145 = .ok (.iadd, 1) := by decide +kernel
theorem dL_ends_146 : decode cL_ends 146 = .ok (.goto 10, 3) := by decide +kernel
theorem dL_ends_149 : decode cL_ends 149 = .ok (.aload_n 0, 1) := by decide +kernel
theorem dL_ends_150 : decode cL_ends 150 = .ok (.iload 7, 2) := by decide +kernel
theorem dL_ends_152 : decode cL_ends 152 = .ok (.iconst 4, 1) := by decide +kernel
theorem dL_ends_153 : decode cL_ends 153 = .ok (.invokevirtual 68, 3) := by decide +kernel
theorem dL_ends_156 : decode cL_ends 156 = .ok (.iastore, 1) := by decide +kernel
theorem dL_ends_157 : decode cL_ends 157 = .ok (.aload_n 3, 1) := by decide +kernel
theorem dL_ends_158 : decode cL_ends 158 = .ok (.iload 7, 2) := by decide +kernel
theorem dL_ends_160 : decode cL_ends 160 = .ok (.iaload, 1) := by decide +kernel
theorem dL_ends_161 : decode cL_ends 161 = .ok (.bipush 10, 2) := by decide +kernel
theorem dL_ends_163 : decode cL_ends 163 = .ok (.if_icmp .ne 81, 3) := by decide +kernel
theorem dL_ends_166 : decode cL_ends 166 = .ok (.aload_n 0, 1) := by decide +kernel
theorem dL_ends_167 : decode cL_ends 167 = .ok (.iload 7, 2) := by decide +kernel
theorem dL_ends_169 : decode cL_ends 169 = .ok (.iconst 0, 1) := by decide +kernel
theorem dL_ends_170 : decode cL_ends 170 = .ok (.invokevirtual 68, 3) := by decide +kernel
theorem dL_ends_173 : decode cL_ends 173 = .ok (.istore 8, 2) := by decide +kernel
theorem dL_ends_175 : decode cL_ends 175 = .ok (.iinc 6 1, 3) := by decide +kernel
theorem dL_ends_178 : decode cL_ends 178 = .ok (.aload 4, 2) := by decide +kernel
theorem dL_ends_180 : decode cL_ends 180 = .ok (.iload 8, 2) := by decide +kernel
theorem dL_ends_182 : decode cL_ends 182 = .ok (.dup2, 1) := by decide +kernel
theorem dL_ends_183 : decode cL_ends 183 = .ok (.iaload, 1) := by decide +kernel
theorem dL_ends_184 : decode cL_ends 184 = .ok (.iconst 1, 1) := by decide +kernel
theorem dL_ends_185 : decode cL_ends 185 = .ok (.iadd, 1) := by decide +kernel
theorem dL_ends_186 : decode cL_ends 186 = .ok (.iastore, 1) := by decide +kernel
theorem dL_ends_187 : decode cL_ends 187 = .ok (.aload 4, 2) := by decide +kernel
theorem dL_ends_189 : decode cL_ends 189 = .ok (.iload 8, 2) := by decide +kernel
theorem dL_ends_191 : decode cL_ends 191 = .ok (.iaload, 1) := by decide +kernel
theorem dL_ends_192 : decode cL_ends 192 = .ok (.aload_n 0, 1) := by decide +kernel
theorem dL_ends_193 : decode cL_ends 193 = .ok (.bipush 17, 2) := by decide +kernel
theorem dL_ends_195 : decode cL_ends 195 = .ok (.invokevirtual 57, 3) := by decide +kernel
theorem dL_ends_198 : decode cL_ends 198 = .ok (.if_icmp .lt 46, 3) := by decide +kernel
theorem dL_ends_201 : decode cL_ends 201 = .ok (.aload 4, 2) := by decide +kernel
theorem dL_ends_203 : decode cL_ends 203 = .ok (.iload 8, 2) := by decide +kernel
theorem dL_ends_205 : decode cL_ends 205 = .ok (.iconst 0, 1) := by decide +kernel
theorem dL_ends_206 : decode cL_ends 206 = .ok (.iastore, 1) := by decide +kernel
theorem dL_ends_207 : decode cL_ends 207 = .ok (.aload 5, 2) := by decide +kernel
theorem dL_ends_209 : decode cL_ends 209 = .ok (.iload 8, 2) := by decide +kernel
theorem dL_ends_211 : decode cL_ends 211 = .ok (.aload 5, 2) := by decide +kernel
theorem dL_ends_213 : decode cL_ends 213 = .ok (.iload 8, 2) := by decide +kernel
theorem dL_ends_215 : decode cL_ends 215 = .ok (.iaload, 1) := by decide +kernel
theorem dL_ends_216 : decode cL_ends 216 = .ok (.iload_n 1, 1) := by decide +kernel
theorem dL_ends_217 : decode cL_ends 217 = .ok (.aload_n 0, 1) := by decide +kernel
theorem dL_ends_218 : decode cL_ends 218 = .ok (.bipush 18, 2) := by decide +kernel
theorem dL_ends_220 : decode cL_ends 220 = .ok (.invokevirtual 57, 3) := by decide +kernel
theorem dL_ends_223 : decode cL_ends 223 = .ok (.iadd, 1) := by decide +kernel
theorem dL_ends_224 : decode cL_ends 224 = .ok (.if_icmp .le 11, 3) := by decide +kernel
theorem dL_ends_227 : decode cL_ends 227 = .ok (.aload 5, 2) := by decide +kernel
theorem dL_ends_229 : decode cL_ends 229 = .ok (.iload 8, 2) := by decide +kernel
theorem dL_ends_231 : decode cL_ends 231 = .ok (.iaload, 1) := by decide +kernel
theorem dL_ends_232 : decode cL_ends 232 = .ok (.goto 11, 3) := by decide +kernel
theorem dL_ends_235 : decode cL_ends 235 = .ok (.iload_n 1, 1) := by decide +kernel
theorem dL_ends_236 : decode cL_ends 236 = .ok (.aload_n 0, 1) := by decide +kernel
theorem dL_ends_237 : decode cL_ends 237 = .ok (.bipush 18, 2) := by decide +kernel
theorem dL_ends_239 : decode cL_ends 239 = .ok (.invokevirtual 57, 3) := by decide +kernel
theorem dL_ends_242 : decode cL_ends 242 = .ok (.iadd, 1) := by decide +kernel
theorem dL_ends_243 : decode cL_ends 243 = .ok (.iastore, 1) := by decide +kernel
theorem dL_ends_244 : decode cL_ends 244 = .ok (.iinc 7 1, 3) := by decide +kernel
theorem dL_ends_247 : decode cL_ends 247 = .ok (.goto (-148), 3) := by decide +kernel
theorem dL_ends_250 : decode cL_ends 250 = .ok (.aload_n 0, 1) := by decide +kernel
theorem dL_ends_251 : decode cL_ends 251 = .ok (.invokevirtual 107, 3) := by decide +kernel
theorem dL_ends_254 : decode cL_ends 254 = .ok (.iload 6, 2) := by decide +kernel
theorem dL_ends_256 : decode cL_ends 256 = .ok (.if_icmp .ne 14, 3) := by decide +kernel
theorem dL_ends_259 : decode cL_ends 259 = .ok (.aload_n 0, 1) := by decide +kernel
theorem dL_ends_260 : decode cL_ends 260 = .ok (.iconst 0, 1) := by decide +kernel
theorem dL_ends_261 : decode cL_ends 261 = .ok (.invokevirtual 57, 3) := by decide +kernel
theorem dL_ends_264 : decode cL_ends 264 = .ok (.iload_n 1, 1) := by decide +kernel
theorem dL_ends_265 : decode cL_ends 265 = .ok (.iconst 1, 1) := by decide +kernel
theorem dL_ends_266 : decode cL_ends 266 = .ok (.iadd, 1) := by decide +kernel
theorem dL_ends_267 : decode cL_ends 267 = .ok (.if_icmp .eq 5, 3) := by decide +kernel
theorem dL_ends_270 : decode cL_ends 270 = .ok (.iconst 0, 1) := by decide +kernel
theorem dL_ends_271 : decode cL_ends 271 = .ok (.ireturn, 1) := by decide +kernel
theorem dL_ends_272 : decode cL_ends 272 = .ok (.iconst 0, 1) := by decide +kernel
theorem dL_ends_273 : decode cL_ends 273 = .ok (.istore 7, 2) := by decide +kernel
theorem dL_ends_275 : decode cL_ends 275 = .ok (.iload 7, 2) := by decide +kernel
theorem dL_ends_277 : decode cL_ends 277 = .ok (.iload_n 2, 1) := by decide +kernel
theorem dL_ends_278 : decode cL_ends 278 = .ok (.if_icmp .ge 72, 3) := by decide +kernel
theorem dL_ends_281 : decode cL_ends 281 = .ok (.aload_n 3, 1) := by decide +kernel
theorem dL_ends_282 : decode cL_ends 282 = .ok (.iload 7, 2) := by decide +kernel
theorem dL_ends_284 : decode cL_ends 284 = .ok (.iaload, 1) := by decide +kernel
theorem dL_ends_285 : decode cL_ends 285 = .ok (.bipush 9, 2) := by decide +kernel
theorem dL_ends_287 : decode cL_ends 287 = .ok (.if_icmp .eq 57, 3) := by decide +kernel
theorem dL_ends_290 : decode cL_ends 290 = .ok (.aload_n 0, 1) := by decide +kernel
theorem dL_ends_291 : decode cL_ends 291 = .ok (.iload 7, 2) := by decide +kernel
theorem dL_ends_293 : decode cL_ends 293 = .ok (.iconst 4, 1) := by decide +kernel
theorem dL_ends_294 : decode cL_ends 294 = .ok (.invokevirtual 68, 3) := by decide +kernel
theorem dL_ends_297 : decode cL_ends 297 = .ok (.aload_n 3, 1) := by decide +kernel
theorem dL_ends_298 : decode cL_ends 298 = .ok (.iload 7, 2) := by decide +kernel
theorem dL_ends_300 : decode cL_ends 300 = .ok (.iaload, 1) := by decide +kernel
theorem dL_ends_301 : decode cL_ends 301 = .ok (.ifCond .ne 7, 3) := by decide +kernel
theorem dL_ends_304 : decode cL_ends 304 = .ok (.iconst 2, 1) := by decide +kernel
theorem dL_ends_305 : decode cL_ends 305 = .ok (.goto 34, 3) := by decide +kernel
theorem dL_ends_308 : decode cL_ends 308 = .ok (.aload_n 3, 1) := by decide +kernel
theorem dL_ends_309 : decode cL_ends 309 = .ok (.iload 7, 2) := by decide +kernel
theorem dL_ends_311 : decode cL_ends 311 = .ok (.iaload, 1) := by decide +kernel
theorem dL_ends_312 : decode cL_ends 312 = .ok (.bipush 10, 2) := by decide +kernel
theorem dL_ends_314 : decode cL_ends 314 = .ok (.if_icmp .ne 8, 3) := by decide +kernel
theorem dL_ends_317 : decode cL_ends 317 = .ok (.bipush 6, 2) := by decide +kernel
theorem dL_ends_319 : decode cL_ends 319 = .ok (.goto 20, 3) := by decide +kernel
theorem dL_ends_322 : decode cL_ends 322 = .ok (.aload_n 3, 1) := by decide +kernel
theorem dL_ends_323 : decode cL_ends 323 = .ok (.iload 7, 2) := by decide +kernel
theorem dL_ends_325 : decode cL_ends 325 = .ok (.iaload, 1) := by decide +kernel
theorem dL_ends_326 : decode cL_ends 326 = .ok (.bipush 11, 2) := by decide +kernel
theorem dL_ends_328 : decode cL_ends 328 = .ok (.if_icmp .ne 7, 3) := by decide +kernel
theorem dL_ends_331 : decode cL_ends 331 = .ok (.iconst 5, 1) := by decide +kernel
theorem dL_ends_332 : decode cL_ends 332 = .ok (.goto 7, 3) := by decide +kernel
theorem dL_ends_335 : decode cL_ends 335 = .ok (.aload_n 3, 1) := by decide +kernel
theorem dL_ends_336 : decode cL_ends 336 = .ok (.iload 7, 2) := by decide +kernel
theorem dL_ends_338 : decode cL_ends 338 = .ok (.iaload, 1) := by decide +kernel
theorem dL_ends_339 : decode cL_ends 339 = .ok (.if_icmp .eq 5, 3) := by decide +kernel
theorem dL_ends_342 : decode cL_ends 342 = .ok (.iconst 0, 1) := by decide +kernel
theorem dL_ends_343 : decode cL_ends 343 = .ok (.ireturn, 1) := by decide +kernel
theorem dL_ends_344 : decode cL_ends 344 = .ok (.iinc 7 1, 3) := by decide +kernel
theorem dL_ends_347 : decode cL_ends 347 = .ok (.goto (-72), 3) := by decide +kernel
theorem dL_ends_350 : decode cL_ends 350 = .ok (.iconst 0, 1) := by decide +kernel
theorem dL_ends_351 : decode cL_ends 351 = .ok (.istore 7, 2) := by decide +kernel
theorem dL_ends_353 : decode cL_ends 353 = .ok (.iload 7, 2) := by decide +kernel
theorem dL_ends_355 : decode cL_ends 355 = .ok (.aload_n 0, 1) := by decide +kernel
theorem dL_ends_356 : decode cL_ends 356 = .ok (.iconst 2, 1) := by decide +kernel
theorem dL_ends_357 : decode cL_ends 357 = .ok (.invokevirtual 57, 3) := by decide +kernel
theorem dL_ends_360 : decode cL_ends 360 = .ok (.if_icmp .ge 41, 3) := by decide +kernel
theorem dL_ends_363 : decode cL_ends 363 = .ok (.aload_n 0, 1) := by decide +kernel
theorem dL_ends_364 : decode cL_ends 364 = .ok (.iload 7, 2) := by decide +kernel
theorem dL_ends_366 : decode cL_ends 366 = .ok (.iconst 1, 1) := by decide +kernel
theorem dL_ends_367 : decode cL_ends 367 = .ok (.invokevirtual 65, 3) := by decide +kernel
theorem dL_ends_370 : decode cL_ends 370 = .ok (.aload 4, 2) := by decide +kernel
theorem dL_ends_372 : decode cL_ends 372 = .ok (.iload 7, 2) := by decide +kernel
theorem dL_ends_374 : decode cL_ends 374 = .ok (.iaload, 1) := by decide +kernel
theorem dL_ends_375 : decode cL_ends 375 = .ok (.if_icmp .ne 18, 3) := by decide +kernel
theorem dL_ends_378 : decode cL_ends 378 = .ok (.aload_n 0, 1) := by decide +kernel
theorem dL_ends_379 : decode cL_ends 379 = .ok (.iload 7, 2) := by decide +kernel
theorem dL_ends_381 : decode cL_ends 381 = .ok (.iconst 2, 1) := by decide +kernel
theorem dL_ends_382 : decode cL_ends 382 = .ok (.invokevirtual 65, 3) := by decide +kernel
theorem dL_ends_385 : decode cL_ends 385 = .ok (.aload 5, 2) := by decide +kernel
theorem dL_ends_387 : decode cL_ends 387 = .ok (.iload 7, 2) := by decide +kernel
theorem dL_ends_389 : decode cL_ends 389 = .ok (.iaload, 1) := by decide +kernel
theorem dL_ends_390 : decode cL_ends 390 = .ok (.if_icmp .eq 5, 3) := by decide +kernel
theorem dL_ends_393 : decode cL_ends 393 = .ok (.iconst 0, 1) := by decide +kernel
theorem dL_ends_394 : decode cL_ends 394 = .ok (.ireturn, 1) := by decide +kernel
theorem dL_ends_395 : decode cL_ends 395 = .ok (.iinc 7 1, 3) := by decide +kernel
theorem dL_ends_398 : decode cL_ends 398 = .ok (.goto (-45), 3) := by decide +kernel
theorem dL_ends_401 : decode cL_ends 401 = .ok (.iconst 1, 1) := by decide +kernel
theorem dL_ends_402 : decode cL_ends 402 = .ok (.ireturn, 1) := by decide +kernel
set_option maxRecDepth 20000 in
theorem ggL_fits_X6_count : GoodIn wsL_fits wsX6_count := goodIn_r _ [5, 6, 7, 8, 9, 10, 11, 12, 13, 14, 15, 16, 17, 18, 19, 20, 21, 22, 23, 24, 25, 26, 27, 28, 29, 30, 31, 32, 33, 34, 35, 36, 37, 38, 39, 40, 41, 42, 123, 124, 125, 126, 127, 128, 129, 130, 131, 132, 133, 134, 135, 136, 137, 138, 139, 140, 141, 142, 143, 144, 145, 146, 147, 148, 149, 150, 151, 152] rfl (by decide +kernel)
set_option maxRecDepth 20000 in
theorem gL_fits_X6_count : GoodIn wsL_fits (wsV RL 57 RX6 yX6_count wsX6_count) := goodIn_app (goodIn_of _ (by decide +kernel)) ggL_fits_X6_count
set_option maxRecDepth 20000 in
theorem ggL_fits_X6_application : GoodIn wsL_fits wsX6_application := goodIn_r _ [46, 6, 47, 48, 49, 50, 51, 52, 53, 54, 55, 56, 57, 58, 59, 17, 60, 19, 61, 62, 63, 64, 65, 66, 67, 68, 123, 124, 125, 126, 127, 128, 129, 130, 131, 132, 133, 134, 135, 136, 144, 145, 146, 147, 148, 149, 150, 151, 152, 153, 154, 155] rfl (by decide +kernel)
set_option maxRecDepth 20000 in
theorem gL_fits_X6_application : GoodIn wsL_fits (wsV RL 68 RX6 yX6_application wsX6_application) := goodIn_app (goodIn_of _ (by decide +kernel)) ggL_fits_X6_application
set_option maxRecDepth 20000 in
theorem ggL_fits_X6_onRoute : GoodIn wsL_fits wsX6_onRoute := goodIn_r _ [72, 6, 73, 74, 75, 76, 77, 78, 79, 80, 81, 82, 17, 83, 84, 85, 86, 87, 88, 89, 4, 90, 91, 92, 93, 94, 19, 20, 95, 96, 97, 98, 25, 99, 100, 101, 102, 103, 104, 105, 106, 107, 108, 109, 110, 111, 112, 113, 114, 115, 116, 117, 118, 119, 120, 121, 122, 21, 123, 124, 125, 126, 127, 128, 129, 130, 131, 132, 133, 134, 135, 136, 156, 157, 144, 145, 146, 147, 148, 149, 150, 151, 152] rfl (by decide +kernel)
set_option maxRecDepth 20000 in
theorem gL_fits_X6_onRoute : GoodIn wsL_fits (wsV RL 93 RX6 yX6_onRoute wsX6_onRoute) := goodIn_app (goodIn_of _ (by decide +kernel)) ggL_fits_X6_onRoute
theorem dL_fits_0 : decode cL_fits 0 = .ok (.aload_n 0, 1) := by decide +kernel
theorem dL_fits_1 : decode cL_fits 1 = .ok (.iconst 0, 1) := by decide +kernel
theorem dL_fits_2 : decode cL_fits 2 = .ok (.invokevirtual 57, 3) := by decide +kernel
theorem dL_fits_5 : decode cL_fits 5 = .ok (.istore_n 1, 1) := by decide +kernel
theorem dL_fits_6 : decode cL_fits 6 = .ok (.iconst 0, 1) := by decide +kernel
theorem dL_fits_7 : decode cL_fits 7 = .ok (.istore_n 2, 1) := by decide +kernel
theorem dL_fits_8 : decode cL_fits 8 = .ok (.iload_n 2, 1) := by decide +kernel
theorem dL_fits_9 : decode cL_fits 9 = .ok (.aload_n 0, 1) := by decide +kernel
theorem dL_fits_10 : decode cL_fits 10 = .ok (.iconst 1, 1) := by decide +kernel
theorem dL_fits_11 : decode cL_fits 11 = .ok (.invokevirtual 57, 3) := by decide +kernel
theorem dL_fits_14 : decode cL_fits 14 = .ok (.if_icmp .ge 245, 3) := by decide +kernel
theorem dL_fits_17 : decode cL_fits 17 = .ok (.iload_n 1, 1) := by decide +kernel
theorem dL_fits_18 : decode cL_fits 18 = .ok (.iconst 2, 1) := by decide +kernel
theorem dL_fits_19 : decode cL_fits 19 = .ok (.if_icmp .le 9, 3) := by decide +kernel
theorem dL_fits_22 : decode cL_fits 22 = .ok (.iload_n 1, 1) := by decide +kernel
theorem dL_fits_23 : decode cL_fits 23 = .ok (.iconst 2, 1) := by decide +kernel
theorem dL_fits_24 : decode cL_fits 24 = .ok (.isub, 1) := by decide +kernel
theorem dL_fits_25 : decode cL_fits 25 = .ok (.goto 4, 3) := by decide +kernel
theorem dL_fits_28 : decode cL_fits 28 = .ok (.iconst 0, 1) := by decide +kernel
theorem dL_fits_29 : decode cL_fits 29 = .ok (.istore_n 3, 1) := by decide +kernel
theorem dL_fits_30 : decode cL_fits 30 = .ok (.iload_n 3, 1) := by decide +kernel
theorem dL_fits_31 : decode cL_fits 31 = .ok (.bipush 60, 2) := by decide +kernel
theorem dL_fits_33 : decode cL_fits 33 = .ok (.if_icmp .ge 220, 3) := by decide +kernel
theorem dL_fits_36 : decode cL_fits 36 = .ok (.iload_n 3, 1) := by decide +kernel
theorem dL_fits_37 : decode cL_fits 37 = .ok (.iload_n 1, 1) := by decide +kernel
theorem dL_fits_38 : decode cL_fits 38 = .ok (.bipush 12, 2) := by decide +kernel
theorem dL_fits_40 : decode cL_fits 40 = .ok (.iadd, 1) := by decide +kernel
theorem dL_fits_41 : decode cL_fits 41 = .ok (.if_icmp .ge 212, 3) := by decide +kernel
theorem dL_fits_44 : decode cL_fits 44 = .ok (.iconst 0, 1) := by decide +kernel
theorem dL_fits_45 : decode cL_fits 45 = .ok (.istore 4, 2) := by decide +kernel
theorem dL_fits_47 : decode cL_fits 47 = .ok (.iconst 0, 1) := by decide +kernel
theorem dL_fits_48 : decode cL_fits 48 = .ok (.istore 5, 2) := by decide +kernel
theorem dL_fits_50 : decode cL_fits 50 = .ok (.iconst 0, 1) := by decide +kernel
theorem dL_fits_51 : decode cL_fits 51 = .ok (.istore 6, 2) := by decide +kernel
theorem dL_fits_53 : decode cL_fits 53 = .ok (.iload 6, 2) := by decide +kernel
theorem dL_fits_55 : decode cL_fits 55 = .ok (.aload_n 0, 1) := by decide +kernel
theorem dL_fits_56 : decode cL_fits 56 = .ok (.iconst 3, 1) := by decide +kernel
theorem dL_fits_57 : decode cL_fits 57 = .ok (.invokevirtual 57, 3) := by decide +kernel
theorem dL_fits_60 : decode cL_fits 60 = .ok (.if_icmp .ge 108, 3) := by decide +kernel
theorem dL_fits_63 : decode cL_fits 63 = .ok (.aload_n 0, 1) := by decide +kernel
theorem dL_fits_64 : decode cL_fits 64 = .ok (.iload 6, 2) := by decide +kernel
theorem dL_fits_66 : decode cL_fits 66 = .ok (.iconst 1, 1) := by decide +kernel
theorem dL_fits_67 : decode cL_fits 67 = .ok (.invokevirtual 68, 3) := by decide +kernel
theorem dL_fits_70 : decode cL_fits 70 = .ok (.iload_n 2, 1) := by decide +kernel
theorem dL_fits_71 : decode cL_fits 71 = .ok (.if_icmp .ne 91, 3) := by decide +kernel
theorem dL_fits_74 : decode cL_fits 74 = .ok (.aload_n 0, 1) := by decide +kernel
theorem dL_fits_75 : decode cL_fits 75 = .ok (.iload 6, 2) := by decide +kernel
theorem dL_fits_77 : decode cL_fits 77 = .ok (.iconst 2, 1) := by decide +kernel
theorem dL_fits_78 : decode cL_fits 78 = .ok (.invokevirtual 68, 3) := by decide +kernel
theorem dL_fits_81 : decode cL_fits 81 = .ok (.iload_n 3, 1) := by decide +kernel
theorem dL_fits_82 : decode cL_fits 82 = .ok (.if_icmp .ne 80, 3) := by decide +kernel
theorem dL_fits_85 : decode cL_fits 85 = .ok (.aload_n 0, 1) := by decide +kernel
theorem dL_fits_86 : decode cL_fits 86 = .ok (.iload 6, 2) := by decide +kernel
theorem dL_fits_88 : decode cL_fits 88 = .ok (.iconst 4, 1) := by decide +kernel
theorem dL_fits_89 : decode cL_fits 89 = .ok (.invokevirtual 68, 3) := by decide +kernel
theorem dL_fits_92 : decode cL_fits 92 = .ok (.istore 7, 2) := by decide +kernel
theorem dL_fits_94 : decode cL_fits 94 = .ok (.iload 4, 2) := by decide +kernel
theorem dL_fits_96 : decode cL_fits 96 = .ok (.iload 7, 2) := by decide +kernel
theorem dL_fits_98 : decode cL_fits 98 = .ok (.iconst 1, 1) := by decide +kernel
theorem dL_fits_99 : decode cL_fits 99 = .ok (.if_icmp .eq 9, 3) := by decide +kernel
theorem dL_fits_102 : decode cL_fits 102 = .ok (.iload 7, 2) := by decide +kernel
theorem dL_fits_104 : decode cL_fits 104 = .ok (.iconst 4, 1) := by decide +kernel
theorem dL_fits_105 : decode cL_fits 105 = .ok (.if_icmp .le 13, 3) := by decide +kernel
theorem dL_fits_108 : decode cL_fits 108 = .ok (.aload_n 0, 1) := by decide +kernel
theorem dL_fits_109 : decode cL_fits 109 = .ok (.iload 6, 2) := by decide +kernel
theorem dL_fits_111 : decode cL_fits 111 = .ok (.iconst 3, 1) := by decide +kernel
theorem dL_fits_112 : decode cL_fits 112 = .ok (.invokevirtual 68, 3) := by decide +kernel
theorem dL_fits_115 : decode cL_fits 115 = .ok (.goto 4, 3) := by decide +kernel
theorem dL_fits_118 : decode cL_fits 118 = .ok (.iconst 0, 1) := by decide +kernel
theorem dL_fits_119 : decode cL_fits 119 = .ok (.iadd, 1) := by decide +kernel
theorem dL_fits_120 : decode cL_fits 120 = .ok (.istore 4, 2) := by decide +kernel
theorem dL_fits_122 : decode cL_fits 122 = .ok (.iload 5, 2) := by decide +kernel
theorem dL_fits_124 : decode cL_fits 124 = .ok (.iload 7, 2) := by decide +kernel
theorem dL_fits_126 : decode cL_fits 126 = .ok (.iconst 2, 1) := by decide +kernel
theorem dL_fits_127 : decode cL_fits 127 = .ok (.if_icmp .ne 7, 3) := by decide +kernel
theorem dL_fits_130 : decode cL_fits 130 = .ok (.iconst 1, 1) := by decide +kernel
theorem dL_fits_131 : decode cL_fits 131 = .ok (.goto 4, 3) := by decide +kernel
theorem dL_fits_134 : decode cL_fits 134 = .ok (.iconst 0, 1) := by decide +kernel
theorem dL_fits_135 : decode cL_fits 135 = .ok (.iadd, 1) := by decide +kernel
theorem dL_fits_136 : decode cL_fits 136 = .ok (.istore 5, 2) := by decide +kernel
theorem dL_fits_138 : decode cL_fits 138 = .ok (.iload_n 3, 1) := by decide +kernel
theorem dL_fits_139 : decode cL_fits 139 = .ok (.iload_n 1, 1) := by decide +kernel
theorem dL_fits_140 : decode cL_fits 140 = .ok (.if_icmp .ge 9, 3) := by decide +kernel
theorem dL_fits_143 : decode cL_fits 143 = .ok (.iload 7, 2) := by decide +kernel
theorem dL_fits_145 : decode cL_fits 145 = .ok (.iconst 2, 1) := by decide +kernel
theorem dL_fits_146 : decode cL_fits 146 = .ok (.if_icmp .lt 14, 3) := by decide +kernel
theorem dL_fits_149 : decode cL_fits 149 = .ok (.iload_n 3, 1) := by decide +kernel
theorem dL_fits_150 : decode cL_fits 150 = .ok (.iload_n 1, 1) := by decide +kernel
theorem dL_fits_151 : decode cL_fits 151 = .ok (.if_icmp .lt 11, 3) := by decide +kernel
theorem dL_fits_154 : decode cL_fits 154 = .ok (.iload 7, 2) := by decide +kernel
theorem dL_fits_156 : decode cL_fits 156 = .ok (.iconst 4, 1) := by decide +kernel
theorem dL_fits_157 : decode cL_fits 157 = .ok (.if_icmp .le 5, 3) := by decide +kernel
theorem dL_fits_160 : decode cL_fits 160 = .ok (.iconst 0, 1) := by decide +kernel
theorem dL_fits_161 : decode cL_fits 161 = .ok (.ireturn, 1) := by decide +kernel
theorem dL_fits_162 : decode cL_fits 162 = .ok (.iinc 6 1, 3) := by decide +kernel
theorem dL_fits_165 : decode cL_fits 165 = .ok (.goto (-112), 3) := by decide +kernel
theorem dL_fits_168 : decode cL_fits 168 = .ok (.aload_n 0, 1) := by decide +kernel
theorem dL_fits_169 : decode cL_fits 169 = .ok (.iload_n 2, 1) := by decide +kernel
theorem dL_fits_170 : decode cL_fits 170 = .ok (.iload_n 3, 1) := by decide +kernel
theorem dL_fits_171 : decode cL_fits 171 = .ok (.iconst 0, 1) := by decide +kernel
theorem dL_fits_172 : decode cL_fits 172 = .ok (.invokevirtual 93, 3) := by decide +kernel
theorem dL_fits_175 : decode cL_fits 175 = .ok (.aload_n 0, 1) := by decide +kernel
theorem dL_fits_176 : decode cL_fits 176 = .ok (.iload_n 2, 1) := by decide +kernel
theorem dL_fits_177 : decode cL_fits 177 = .ok (.iload_n 3, 1) := by decide +kernel
theorem dL_fits_178 : decode cL_fits 178 = .ok (.iconst 1, 1) := by decide +kernel
theorem dL_fits_179 : decode cL_fits 179 = .ok (.invokevirtual 93, 3) := by decide +kernel
theorem dL_fits_182 : decode cL_fits 182 = .ok (.isub, 1) := by decide +kernel
theorem dL_fits_183 : decode cL_fits 183 = .ok (.iload 4, 2) := by decide +kernel
theorem dL_fits_185 : decode cL_fits 185 = .ok (.isub, 1) := by decide +kernel
theorem dL_fits_186 : decode cL_fits 186 = .ok (.istore 6, 2) := by decide +kernel
theorem dL_fits_188 : decode cL_fits 188 = .ok (.aload_n 0, 1) := by decide +kernel
theorem dL_fits_189 : decode cL_fits 189 = .ok (.iload_n 2, 1) := by decide +kernel
theorem dL_fits_190 : decode cL_fits 190 = .ok (.iload_n 3, 1) := by decide +kernel
theorem dL_fits_191 : decode cL_fits 191 = .ok (.iconst 2, 1) := by decide +kernel
theorem dL_fits_192 : decode cL_fits 192 = .ok (.invokevirtual 93, 3) := by decide +kernel
theorem dL_fits_195 : decode cL_fits 195 = .ok (.iload 4, 2) := by decide +kernel
theorem dL_fits_197 : decode cL_fits 197 = .ok (.if_icmp .ne 48, 3) := by decide +kernel
theorem dL_fits_200 : decode cL_fits 200 = .ok (.iload 4, 2) := by decide +kernel
theorem dL_fits_202 : decode cL_fits 202 = .ok (.aload_n 0, 1) := by decide +kernel
theorem dL_fits_203 : decode cL_fits 203 = .ok (.iload_n 2, 1) := by decide +kernel
theorem dL_fits_204 : decode cL_fits 204 = .ok (.iload_n 3, 1) := by decide +kernel
theorem dL_fits_205 : decode cL_fits 205 = .ok (.iconst 0, 1) := by decide +kernel
theorem dL_fits_206 : decode cL_fits 206 = .ok (.invokevirtual 93, 3) := by decide +kernel
theorem dL_fits_209 : decode cL_fits 209 = .ok (.if_icmp .gt 36, 3) := by decide +kernel
theorem dL_fits_212 : decode cL_fits 212 = .ok (.aload_n 0, 1) := by decide +kernel
theorem dL_fits_213 : decode cL_fits 213 = .ok (.iload_n 2, 1) := by decide +kernel
theorem dL_fits_214 : decode cL_fits 214 = .ok (.iload_n 3, 1) := by decide +kernel
theorem dL_fits_215 : decode cL_fits 215 = .ok (.iconst 3, 1) := by decide +kernel
theorem dL_fits_216 : decode cL_fits 216 = .ok (.invokevirtual 93, 3) := by decide +kernel
theorem dL_fits_219 : decode cL_fits 219 = .ok (.iload 6, 2) := by decide +kernel
theorem dL_fits_221 : decode cL_fits 221 = .ok (.ifCond .ge 7, 3) := by decide +kernel
theorem dL_fits_224 : decode cL_fits 224 = .ok (.iconst 0, 1) := by decide +kernel
theorem dL_fits_225 : decode cL_fits 225 = .ok (.goto 5, 3) := by decide +kernel
theorem dL_fits_228 : decode cL_fits 228 = .ok (.iload 6, 2) := by decide +kernel
theorem dL_fits_230 : decode cL_fits 230 = .ok (.if_icmp .ne 15, 3) := by decide +kernel
theorem dL_fits_233 : decode cL_fits 233 = .ok (.aload_n 0, 1) := by decide +kernel
theorem dL_fits_234 : decode cL_fits 234 = .ok (.iload_n 2, 1) := by decide +kernel
theorem dL_fits_235 : decode cL_fits 235 = .ok (.iload_n 3, 1) := by decide +kernel
theorem dL_fits_236 : decode cL_fits 236 = .ok (.iconst 5, 1) := by decide +kernel
theorem dL_fits_237 : decode cL_fits 237 = .ok (.invokevirtual 93, 3) := by decide +kernel
theorem dL_fits_240 : decode cL_fits 240 = .ok (.iload 5, 2) := by decide +kernel
theorem dL_fits_242 : decode cL_fits 242 = .ok (.if_icmp .eq 5, 3) := by decide +kernel
theorem dL_fits_245 : decode cL_fits 245 = .ok (.iconst 0, 1) := by decide +kernel
theorem dL_fits_246 : decode cL_fits 246 = .ok (.ireturn, 1) := by decide +kernel
theorem dL_fits_247 : decode cL_fits 247 = .ok (.iinc 3 1, 3) := by decide +kernel
theorem dL_fits_250 : decode cL_fits 250 = .ok (.goto (-220), 3) := by decide +kernel
theorem dL_fits_253 : decode cL_fits 253 = .ok (.iinc 2 1, 3) := by decide +kernel
theorem dL_fits_256 : decode cL_fits 256 = .ok (.goto (-248), 3) := by decide +kernel
theorem dL_fits_259 : decode cL_fits 259 = .ok (.iconst 1, 1) := by decide +kernel
theorem dL_fits_260 : decode cL_fits 260 = .ok (.ireturn, 1) := by decide +kernel
set_option maxRecDepth 20000 in
theorem ggL_adds_X6_count : GoodIn wsL_adds wsX6_count := goodIn_r _ [5, 6, 7, 8, 9, 10, 11, 12, 13, 14, 15, 16, 17, 18, 19, 20, 21, 22, 23, 24, 25, 26, 27, 28, 29, 30, 31, 32, 33, 34, 35, 36, 37, 38, 39, 40, 41, 42, 86, 87, 88, 89, 90, 91, 92, 93, 94, 95, 96, 97, 98, 99, 100, 101, 102, 103, 104, 105, 106, 107, 108, 109, 110, 111, 112, 113, 114, 115] rfl (by decide +kernel)
set_option maxRecDepth 20000 in
theorem gL_adds_X6_count : GoodIn wsL_adds (wsV RL 57 RX6 yX6_count wsX6_count) := goodIn_app (goodIn_of _ (by decide +kernel)) ggL_adds_X6_count
set_option maxRecDepth 20000 in
theorem ggL_adds_X6_climber : GoodIn wsL_adds wsX6_climber := goodIn_r _ [46, 6, 47, 48, 49, 50, 51, 52, 53, 17, 54, 55, 14, 15, 16, 18, 19, 20, 21, 22, 23, 24, 25, 26, 27, 28, 29, 30, 31, 32, 33, 34, 35, 36, 37, 56, 57, 58, 59, 86, 87, 88, 89, 90, 91, 92, 93, 94, 95, 96, 97, 98, 99, 116, 117, 118, 107, 108, 109, 110, 111, 112, 113, 114, 115] rfl (by decide +kernel)
set_option maxRecDepth 20000 in
theorem gL_adds_X6_climber : GoodIn wsL_adds (wsV RL 65 RX6 yX6_climber wsX6_climber) := goodIn_app (goodIn_of _ (by decide +kernel)) ggL_adds_X6_climber
set_option maxRecDepth 20000 in
theorem ggL_adds_X6_application : GoodIn wsL_adds wsX6_application := goodIn_r _ [63, 6, 64, 65, 66, 67, 68, 69, 70, 71, 72, 73, 74, 75, 76, 17, 77, 19, 78, 79, 80, 81, 82, 83, 84, 85, 86, 87, 88, 89, 90, 91, 92, 93, 94, 95, 96, 97, 98, 99, 107, 108, 109, 110, 111, 112, 113, 114, 115, 116, 117, 118] rfl (by decide +kernel)
set_option maxRecDepth 20000 in
theorem gL_adds_X6_application : GoodIn wsL_adds (wsV RL 68 RX6 yX6_application wsX6_application) := goodIn_app (goodIn_of _ (by decide +kernel)) ggL_adds_X6_application
theorem dL_adds_0 : decode cL_adds 0 = .ok (.iconst 0, 1) := by decide +kernel
theorem dL_adds_1 : decode cL_adds 1 = .ok (.istore_n 1, 1) := by decide +kernel
theorem dL_adds_2 : decode cL_adds 2 = .ok (.iconst 0, 1) := by decide +kernel
theorem dL_adds_3 : decode cL_adds 3 = .ok (.istore_n 2, 1) := by decide +kernel
theorem dL_adds_4 : decode cL_adds 4 = .ok (.iconst 0, 1) := by decide +kernel
theorem dL_adds_5 : decode cL_adds 5 = .ok (.istore_n 3, 1) := by decide +kernel
theorem dL_adds_6 : decode cL_adds 6 = .ok (.iconst 0, 1) := by decide +kernel
theorem dL_adds_7 : decode cL_adds 7 = .ok (.istore 4, 2) := by decide +kernel
theorem dL_adds_9 : decode cL_adds 9 = .ok (.iconst 0, 1) := by decide +kernel
theorem dL_adds_10 : decode cL_adds 10 = .ok (.istore 5, 2) := by decide +kernel
theorem dL_adds_12 : decode cL_adds 12 = .ok (.iload 5, 2) := by decide +kernel
theorem dL_adds_14 : decode cL_adds 14 = .ok (.aload_n 0, 1) := by decide +kernel
theorem dL_adds_15 : decode cL_adds 15 = .ok (.iconst 2, 1) := by decide +kernel
theorem dL_adds_16 : decode cL_adds 16 = .ok (.invokevirtual 57, 3) := by decide +kernel
theorem dL_adds_19 : decode cL_adds 19 = .ok (.if_icmp .ge 42, 3) := by decide +kernel
theorem dL_adds_22 : decode cL_adds 22 = .ok (.iload_n 1, 1) := by decide +kernel
theorem dL_adds_23 : decode cL_adds 23 = .ok (.aload_n 0, 1) := by decide +kernel
theorem dL_adds_24 : decode cL_adds 24 = .ok (.iload 5, 2) := by decide +kernel
theorem dL_adds_26 : decode cL_adds 26 = .ok (.iconst 4, 1) := by decide +kernel
theorem dL_adds_27 : decode cL_adds 27 = .ok (.invokevirtual 65, 3) := by decide +kernel
theorem dL_adds_30 : decode cL_adds 30 = .ok (.iadd, 1) := by decide +kernel
theorem dL_adds_31 : decode cL_adds 31 = .ok (.istore_n 1, 1) := by decide +kernel
theorem dL_adds_32 : decode cL_adds 32 = .ok (.iload_n 2, 1) := by decide +kernel
theorem dL_adds_33 : decode cL_adds 33 = .ok (.aload_n 0, 1) := by decide +kernel
theorem dL_adds_34 : decode cL_adds 34 = .ok (.iload 5, 2) := by decide +kernel
theorem dL_adds_36 : decode cL_adds 36 = .ok (.iconst 5, 1) := by decide +kernel
theorem dL_adds_37 : decode cL_adds 37 = .ok (.invokevirtual 65, 3) := by decide +kernel
theorem dL_adds_40 : decode cL_adds 40 = .ok (.iadd, 1) := by decide +kernel
theorem dL_adds_41 : decode cL_adds 41 = .ok (.istore_n 2, 1) := by decide +kernel
theorem dL_adds_42 : decode cL_adds 42 = .ok (.iload 4, 2) := by decide +kernel
theorem dL_adds_44 : decode cL_adds 44 = .ok (.aload_n 0, 1) := by decide +kernel
theorem dL_adds_45 : decode cL_adds 45 = .ok (.iload 5, 2) := by decide +kernel
theorem dL_adds_47 : decode cL_adds 47 = .ok (.bipush 6, 2) := by decide +kernel
theorem dL_adds_49 : decode cL_adds 49 = .ok (.invokevirtual 65, 3) := by decide +kernel
theorem dL_adds_52 : decode cL_adds 52 = .ok (.iadd, 1) := by decide +kernel
theorem dL_adds_53 : decode cL_adds 53 = .ok (.istore 4, 2) := by decide +kernel
theorem dL_adds_55 : decode cL_adds 55 = .ok (.iinc 5 1, 3) := by decide +kernel
theorem dL_adds_58 : decode cL_adds 58 = .ok (.goto (-46), 3) := by decide +kernel
theorem dL_adds_61 : decode cL_adds 61 = .ok (.iconst 4, 1) := by decide +kernel
theorem dL_adds_62 : decode cL_adds 62 = .ok (.istore 5, 2) := by decide +kernel
theorem dL_adds_64 : decode cL_adds 64 = .ok (.iload 5, 2) := by decide +kernel
theorem dL_adds_66 : decode cL_adds 66 = .ok (.bipush 10, 2) := by decide +kernel
theorem dL_adds_68 : decode cL_adds 68 = .ok (.if_icmp .gt 18, 3) := by decide +kernel
theorem dL_adds_71 : decode cL_adds 71 = .ok (.iload_n 3, 1) := by decide +kernel
theorem dL_adds_72 : decode cL_adds 72 = .ok (.aload_n 0, 1) := by decide +kernel
theorem dL_adds_73 : decode cL_adds 73 = .ok (.iload 5, 2) := by decide +kernel
theorem dL_adds_75 : decode cL_adds 75 = .ok (.invokevirtual 57, 3) := by decide +kernel
theorem dL_adds_78 : decode cL_adds 78 = .ok (.iadd, 1) := by decide +kernel
theorem dL_adds_79 : decode cL_adds 79 = .ok (.istore_n 3, 1) := by decide +kernel
theorem dL_adds_80 : decode cL_adds 80 = .ok (.iinc 5 1, 3) := by decide +kernel
theorem dL_adds_83 : decode cL_adds 83 = .ok (.goto (-19), 3) := by decide +kernel
theorem dL_adds_86 : decode cL_adds 86 = .ok (.iconst 0, 1) := by decide +kernel
theorem dL_adds_87 : decode cL_adds 87 = .ok (.istore 5, 2) := by decide +kernel
theorem dL_adds_89 : decode cL_adds 89 = .ok (.iload 5, 2) := by decide +kernel
theorem dL_adds_91 : decode cL_adds 91 = .ok (.aload_n 0, 1) := by decide +kernel
theorem dL_adds_92 : decode cL_adds 92 = .ok (.iconst 3, 1) := by decide +kernel
theorem dL_adds_93 : decode cL_adds 93 = .ok (.invokevirtual 57, 3) := by decide +kernel
theorem dL_adds_96 : decode cL_adds 96 = .ok (.if_icmp .ge 139, 3) := by decide +kernel
theorem dL_adds_99 : decode cL_adds 99 = .ok (.aload_n 0, 1) := by decide +kernel
theorem dL_adds_100 : decode cL_adds 100 = .ok (.iload 5, 2) := by decide +kernel
theorem dL_adds_102 : decode cL_adds 102 = .ok (.iconst 4, 1) := by decide +kernel
theorem dL_adds_103 : decode cL_adds 103 = .ok (.invokevirtual 68, 3) := by decide +kernel
theorem dL_adds_106 : decode cL_adds 106 = .ok (.istore 6, 2) := by decide +kernel
theorem dL_adds_108 : decode cL_adds 108 = .ok (.aload_n 0, 1) := by decide +kernel
theorem dL_adds_109 : decode cL_adds 109 = .ok (.iload 5, 2) := by decide +kernel
theorem dL_adds_111 : decode cL_adds 111 = .ok (.iconst 5, 1) := by decide +kernel
theorem dL_adds_112 : decode cL_adds 112 = .ok (.invokevirtual 68, 3) := by decide +kernel
theorem dL_adds_115 : decode cL_adds 115 = .ok (.istore 7, 2) := by decide +kernel
theorem dL_adds_117 : decode cL_adds 117 = .ok (.aload_n 0, 1) := by decide +kernel
theorem dL_adds_118 : decode cL_adds 118 = .ok (.iload 5, 2) := by decide +kernel
theorem dL_adds_120 : decode cL_adds 120 = .ok (.bipush 6, 2) := by decide +kernel
theorem dL_adds_122 : decode cL_adds 122 = .ok (.invokevirtual 68, 3) := by decide +kernel
theorem dL_adds_125 : decode cL_adds 125 = .ok (.iload 7, 2) := by decide +kernel
theorem dL_adds_127 : decode cL_adds 127 = .ok (.if_icmp .gt 66, 3) := by decide +kernel
theorem dL_adds_130 : decode cL_adds 130 = .ok (.iload 6, 2) := by decide +kernel
theorem dL_adds_132 : decode cL_adds 132 = .ok (.iconst 3, 1) := by decide +kernel
theorem dL_adds_133 : decode cL_adds 133 = .ok (.if_icmp .eq 20, 3) := by decide +kernel
theorem dL_adds_136 : decode cL_adds 136 = .ok (.iload 6, 2) := by decide +kernel
theorem dL_adds_138 : decode cL_adds 138 = .ok (.iconst 4, 1) := by decide +kernel
theorem dL_adds_139 : decode cL_adds 139 = .ok (.if_icmp .eq 14, 3) := by decide +kernel
theorem dL_adds_142 : decode cL_adds 142 = .ok (.aload_n 0, 1) := by decide +kernel
theorem dL_adds_143 : decode cL_adds 143 = .ok (.iload 5, 2) := by decide +kernel
theorem dL_adds_145 : decode cL_adds 145 = .ok (.bipush 6, 2) := by decide +kernel
theorem dL_adds_147 : decode cL_adds 147 = .ok (.invokevirtual 68, 3) := by decide +kernel
theorem dL_adds_150 : decode cL_adds 150 = .ok (.ifCond .ne 43, 3) := by decide +kernel
theorem dL_adds_153 : decode cL_adds 153 = .ok (.iload 6, 2) := by decide +kernel
theorem dL_adds_155 : decode cL_adds 155 = .ok (.ifCond .eq 9, 3) := by decide +kernel
theorem dL_adds_158 : decode cL_adds 158 = .ok (.iload 6, 2) := by decide +kernel
theorem dL_adds_160 : decode cL_adds 160 = .ok (.iconst 2, 1) := by decide +kernel
theorem dL_adds_161 : decode cL_adds 161 = .ok (.if_icmp .ne 8, 3) := by decide +kernel
theorem dL_adds_164 : decode cL_adds 164 = .ok (.iload 7, 2) := by decide +kernel
theorem dL_adds_166 : decode cL_adds 166 = .ok (.ifCond .ne 27, 3) := by decide +kernel
theorem dL_adds_169 : decode cL_adds 169 = .ok (.iload 6, 2) := by decide +kernel
theorem dL_adds_171 : decode cL_adds 171 = .ok (.iconst 1, 1) := by decide +kernel
theorem dL_adds_172 : decode cL_adds 172 = .ok (.if_icmp .eq 9, 3) := by decide +kernel
theorem dL_adds_175 : decode cL_adds 175 = .ok (.iload 6, 2) := by decide +kernel
theorem dL_adds_177 : decode cL_adds 177 = .ok (.iconst 3, 1) := by decide +kernel
theorem dL_adds_178 : decode cL_adds 178 = .ok (.if_icmp .le 17, 3) := by decide +kernel
theorem dL_adds_181 : decode cL_adds 181 = .ok (.iload 7, 2) := by decide +kernel
theorem dL_adds_183 : decode cL_adds 183 = .ok (.aload_n 0, 1) := by decide +kernel
theorem dL_adds_184 : decode cL_adds 184 = .ok (.iload 5, 2) := by decide +kernel
theorem dL_adds_186 : decode cL_adds 186 = .ok (.iconst 3, 1) := by decide +kernel
theorem dL_adds_187 : decode cL_adds 187 = .ok (.invokevirtual 68, 3) := by decide +kernel
theorem dL_adds_190 : decode cL_adds 190 = .ok (.if_icmp .ge 5, 3) := by decide +kernel
theorem dL_adds_193 : decode cL_adds 193 = .ok (.iconst 0, 1) := by decide +kernel
theorem dL_adds_194 : decode cL_adds 194 = .ok (.ireturn, 1) := by decide +kernel
theorem dL_adds_195 : decode cL_adds 195 = .ok (.aload_n 0, 1) := by decide +kernel
theorem dL_adds_196 : decode cL_adds 196 = .ok (.iload 5, 2) := by decide +kernel
theorem dL_adds_198 : decode cL_adds 198 = .ok (.bipush 9, 2) := by decide +kernel
theorem dL_adds_200 : decode cL_adds 200 = .ok (.invokevirtual 68, 3) := by decide +kernel
theorem dL_adds_203 : decode cL_adds 203 = .ok (.iconst 1, 1) := by decide +kernel
theorem dL_adds_204 : decode cL_adds 204 = .ok (.aload_n 0, 1) := by decide +kernel
theorem dL_adds_205 : decode cL_adds 205 = .ok (.bipush 16, 2) := by decide +kernel
theorem dL_adds_207 : decode cL_adds 207 = .ok (.invokevirtual 57, 3) := by decide +kernel
theorem dL_adds_210 : decode cL_adds 210 = .ok (.aload_n 0, 1) := by decide +kernel
theorem dL_adds_211 : decode cL_adds 211 = .ok (.aload_n 0, 1) := by decide +kernel
theorem dL_adds_212 : decode cL_adds 212 = .ok (.iload 5, 2) := by decide +kernel
theorem dL_adds_214 : decode cL_adds 214 = .ok (.iconst 0, 1) := by decide +kernel
theorem dL_adds_215 : decode cL_adds 215 = .ok (.invokevirtual 68, 3) := by decide +kernel
theorem dL_adds_218 : decode cL_adds 218 = .ok (.iconst 0, 1) := by decide +kernel
theorem dL_adds_219 : decode cL_adds 219 = .ok (.invokevirtual 65, 3) := by decide +kernel
theorem dL_adds_222 : decode cL_adds 222 = .ok (.imul, 1) := by decide +kernel
theorem dL_adds_223 : decode cL_adds 223 = .ok (.iadd, 1) := by decide +kernel
theorem dL_adds_224 : decode cL_adds 224 = .ok (.if_icmp .eq 5, 3) := by decide +kernel
theorem dL_adds_227 : decode cL_adds 227 = .ok (.iconst 0, 1) := by decide +kernel
theorem dL_adds_228 : decode cL_adds 228 = .ok (.ireturn, 1) := by decide +kernel
theorem dL_adds_229 : decode cL_adds 229 = .ok (.iinc 5 1, 3) := by decide +kernel
theorem dL_adds_232 : decode cL_adds 232 = .ok (.goto (-143), 3) := by decide +kernel
theorem dL_adds_235 : decode cL_adds 235 = .ok (.iload_n 1, 1) := by decide +kernel
theorem dL_adds_236 : decode cL_adds 236 = .ok (.aload_n 0, 1) := by decide +kernel
theorem dL_adds_237 : decode cL_adds 237 = .ok (.bipush 11, 2) := by decide +kernel
theorem dL_adds_239 : decode cL_adds 239 = .ok (.invokevirtual 57, 3) := by decide +kernel
theorem dL_adds_242 : decode cL_adds 242 = .ok (.if_icmp .ne 37, 3) := by decide +kernel
theorem dL_adds_245 : decode cL_adds 245 = .ok (.iload_n 2, 1) := by decide +kernel
theorem dL_adds_246 : decode cL_adds 246 = .ok (.aload_n 0, 1) := by decide +kernel
theorem dL_adds_247 : decode cL_adds 247 = .ok (.bipush 12, 2) := by decide +kernel
theorem dL_adds_249 : decode cL_adds 249 = .ok (.invokevirtual 57, 3) := by decide +kernel
theorem dL_adds_252 : decode cL_adds 252 = .ok (.if_icmp .ne 27, 3) := by decide +kernel
theorem dL_adds_255 : decode cL_adds 255 = .ok (.iload_n 2, 1) := by decide +kernel
theorem dL_adds_256 : decode cL_adds 256 = .ok (.iload_n 1, 1) := by decide +kernel
theorem dL_adds_257 : decode cL_adds 257 = .ok (.if_icmp .gt 22, 3) := by decide +kernel
theorem dL_adds_260 : decode cL_adds 260 = .ok (.iload_n 3, 1) := by decide +kernel
theorem dL_adds_261 : decode cL_adds 261 = .ok (.aload_n 0, 1) := by decide +kernel
theorem dL_adds_262 : decode cL_adds 262 = .ok (.iconst 3, 1) := by decide +kernel
theorem dL_adds_263 : decode cL_adds 263 = .ok (.invokevirtual 57, 3) := by decide +kernel
theorem dL_adds_266 : decode cL_adds 266 = .ok (.if_icmp .ne 13, 3) := by decide +kernel
theorem dL_adds_269 : decode cL_adds 269 = .ok (.iload 4, 2) := by decide +kernel
theorem dL_adds_271 : decode cL_adds 271 = .ok (.iload_n 3, 1) := by decide +kernel
theorem dL_adds_272 : decode cL_adds 272 = .ok (.if_icmp .ne 7, 3) := by decide +kernel
theorem dL_adds_275 : decode cL_adds 275 = .ok (.iconst 1, 1) := by decide +kernel
theorem dL_adds_276 : decode cL_adds 276 = .ok (.goto 4, 3) := by decide +kernel
theorem dL_adds_279 : decode cL_adds 279 = .ok (.iconst 0, 1) := by decide +kernel
theorem dL_adds_280 : decode cL_adds 280 = .ok (.ireturn, 1) := by decide +kernel
set_option maxRecDepth 20000 in
theorem ggL_drawn_X6_count : GoodIn wsL_drawn wsX6_count := goodIn_r _ [6, 7, 8, 9, 10, 11, 12, 13, 14, 15, 16, 17, 18, 19, 20, 21, 22, 23, 24, 25, 26, 27, 28, 29, 30, 31, 32, 33, 34, 35, 36, 37, 38, 39, 40, 41, 42, 43, 237, 238, 239, 240, 241, 242, 243, 244, 245, 246, 247, 248, 249, 250, 251, 252, 253, 254, 255, 256, 257, 258, 259, 260, 261, 262, 263, 264, 265, 266] rfl (by decide +kernel)
set_option maxRecDepth 20000 in
theorem gL_drawn_X6_count : GoodIn wsL_drawn (wsV RL 57 RX6 yX6_count wsX6_count) := goodIn_app (goodIn_of _ (by decide +kernel)) ggL_drawn_X6_count
set_option maxRecDepth 20000 in
theorem ggL_drawn_X6_tries : GoodIn wsL_drawn wsX6_tries := goodIn_r _ [47, 7, 48, 49, 50, 51, 52, 8, 53, 54, 55, 56, 18, 57, 20, 58, 59, 60, 61, 62, 43, 63, 5, 64, 65, 66, 67, 68, 69, 70, 71, 72, 73, 74, 75, 76, 77, 78, 79, 80, 81, 26, 82, 83, 84, 85, 86, 87, 88, 89, 90, 91, 92, 93, 94, 95, 96, 97, 98, 99, 100, 101, 102, 103, 104, 105, 106, 107, 108, 109, 110, 111, 112, 113, 114, 115, 116, 117, 118, 119, 120, 121, 122, 21, 123, 124, 125, 126, 127, 128, 129, 130, 131, 132, 133, 134, 135, 136, 137, 138, 139, 140, 141, 142, 143, 144, 237, 238, 239, 240, 241, 242, 243, 244, 245, 246, 247, 248, 249, 250, 258, 259, 260, 261, 262, 263, 264, 265, 266, 267, 268, 269, 270, 271, 272, 273, 274, 275, 276, 277, 278] rfl (by decide +kernel)
set_option maxRecDepth 20000 in
theorem gL_drawn_X6_tries : GoodIn wsL_drawn (wsV RL 110 RX6 yX6_tries wsX6_tries) := goodIn_app (goodIn_of _ (by decide +kernel)) ggL_drawn_X6_tries
set_option maxRecDepth 20000 in
theorem ggL_drawn_L_up : GoodIn wsL_drawn wsL_up := goodIn_r _ [148, 149] rfl (by decide +kernel)
set_option maxRecDepth 20000 in
theorem gL_drawn_L_up : GoodIn wsL_drawn (va_wsS RL 22 yL_up wsL_up) := goodIn_app (goodIn_of _ (by decide +kernel)) ggL_drawn_L_up
set_option maxRecDepth 20000 in
theorem ggL_drawn_X6_application : GoodIn wsL_drawn wsX6_application := goodIn_r _ [153, 7, 48, 154, 52, 50, 155, 49, 156, 157, 158, 159, 54, 55, 56, 18, 57, 20, 160, 99, 100, 101, 102, 89, 90, 103, 237, 238, 239, 240, 241, 242, 243, 244, 245, 246, 247, 248, 249, 250, 258, 259, 260, 261, 262, 263, 264, 265, 266, 274, 275, 276] rfl (by decide +kernel)
set_option maxRecDepth 20000 in
theorem gL_drawn_X6_application : GoodIn wsL_drawn (wsV RL 68 RX6 yX6_application wsX6_application) := goodIn_app (goodIn_of _ (by decide +kernel)) ggL_drawn_X6_application
set_option maxRecDepth 20000 in
theorem ggL_drawn_X6_save : GoodIn wsL_drawn wsX6_save := goodIn_r _ [164, 165, 7, 166, 9, 167, 168, 169, 18, 170, 62, 171, 172, 20, 112, 89, 21, 43, 102, 173, 174, 175, 176, 177, 178, 179, 180, 181, 182, 95, 183, 184, 185, 97, 186, 187, 188, 26, 189, 28, 84, 83, 190, 191, 128, 192, 193, 194, 237, 238, 239, 240, 241, 242, 243, 244, 245, 246, 247, 248, 249, 250, 277, 278, 274, 275, 276, 258, 259, 260, 261, 262, 263, 264, 265, 266] rfl (by decide +kernel)
set_option maxRecDepth 20000 in
theorem gL_drawn_X6_save : GoodIn wsL_drawn (wsV RL 113 RX6 yX6_save wsX6_save) := goodIn_app (goodIn_of _ (by decide +kernel)) ggL_drawn_X6_save
set_option maxRecDepth 20000 in
theorem ggL_drawn_X6_set : GoodIn wsL_drawn wsX6_set := goodIn_r _ [198, 199, 200, 201, 7, 8, 237, 238, 239, 240, 241, 242, 243, 244, 245, 246, 247, 248, 249, 250] rfl (by decide +kernel)
set_option maxRecDepth 20000 in
theorem gL_drawn_X6_set : GoodIn wsL_drawn (wsV RL 33 RX6 yX6_set wsX6_set) := goodIn_app (goodIn_of _ (by decide +kernel)) ggL_drawn_X6_set
set_option maxRecDepth 20000 in
theorem ggL_drawn_X6_lottery : GoodIn wsL_drawn wsX6_lottery := goodIn_r _ [205, 7, 51, 8, 206, 207, 208, 18, 209, 210, 211, 212, 213, 171, 63, 5, 64, 58, 59, 60, 61, 62, 43, 214, 215, 216, 217, 20, 21, 22, 129, 80, 81, 26, 82, 83, 84, 65, 66, 67, 68, 69, 70, 71, 72, 73, 74, 75, 76, 77, 78, 79, 85, 86, 87, 88, 89, 90, 91, 92, 93, 94, 95, 96, 97, 98, 99, 100, 101, 102, 103, 108, 109, 110, 111, 112, 113, 114, 115, 116, 117, 118, 119, 120, 121, 122, 123, 124, 125, 126, 127, 128, 130, 131, 132, 133, 134, 135, 136, 137, 138, 139, 140, 141, 142, 143, 144, 218, 219, 220, 221, 222, 223, 224, 225, 226, 227, 228, 229, 230, 231, 232, 33, 237, 238, 239, 240, 241, 242, 243, 244, 245, 246, 247, 248, 249, 250, 258, 259, 260, 261, 262, 263, 264, 265, 266, 267, 268, 269, 270, 271, 272, 273, 274, 275, 276, 277, 278] rfl (by decide +kernel)
set_option maxRecDepth 20000 in
theorem gL_drawn_X6_lottery : GoodIn wsL_drawn (wsV RL 97 RX6 yX6_lottery wsX6_lottery) := goodIn_app (goodIn_of _ (by decide +kernel)) ggL_drawn_X6_lottery
set_option maxRecDepth 20000 in
theorem ggL_drawn_X6_restore : GoodIn wsL_drawn wsX6_restore := goodIn_r _ [236, 166, 7, 165, 9, 167, 168, 169, 18, 170, 62, 171, 172, 20, 112, 89, 21, 43, 102, 173, 174, 175, 176, 177, 178, 179, 180, 181, 182, 95, 183, 184, 185, 97, 186, 187, 188, 26, 189, 28, 84, 83, 190, 191, 128, 192, 193, 194, 237, 238, 239, 240, 241, 242, 243, 244, 245, 246, 247, 248, 249, 250, 277, 278, 274, 275, 276, 258, 259, 260, 261, 262, 263, 264, 265, 266] rfl (by decide +kernel)
set_option maxRecDepth 20000 in
theorem gL_drawn_X6_restore : GoodIn wsL_drawn (wsV RL 117 RX6 yX6_restore wsX6_restore) := goodIn_app (goodIn_of _ (by decide +kernel)) ggL_drawn_X6_restore
theorem dL_drawn_0 : decode cL_drawn 0 = .ok (.aload_n 0, 1) := by decide +kernel
theorem dL_drawn_1 : decode cL_drawn 1 = .ok (.iconst 3, 1) := by decide +kernel
theorem dL_drawn_2 : decode cL_drawn 2 = .ok (.invokevirtual 57, 3) := by decide +kernel
theorem dL_drawn_5 : decode cL_drawn 5 = .ok (.istore_n 2, 1) := by decide +kernel
theorem dL_drawn_6 : decode cL_drawn 6 = .ok (.iload_n 2, 1) := by decide +kernel
theorem dL_drawn_7 : decode cL_drawn 7 = .ok (.ifCond .ne 19, 3) := by decide +kernel
theorem dL_drawn_10 : decode cL_drawn 10 = .ok (.aload_n 0, 1) := by decide +kernel
theorem dL_drawn_11 : decode cL_drawn 11 = .ok (.iconst 0, 1) := by decide +kernel
theorem dL_drawn_12 : decode cL_drawn 12 = .ok (.iconst 1, 1) := by decide +kernel
theorem dL_drawn_13 : decode cL_drawn 13 = .ok (.invokevirtual 110, 3) := by decide +kernel
theorem dL_drawn_16 : decode cL_drawn 16 = .ok (.iconst (-1), 1) := by decide +kernel
theorem dL_drawn_17 : decode cL_drawn 17 = .ok (.if_icmp .ne 7, 3) := by decide +kernel
theorem dL_drawn_20 : decode cL_drawn 20 = .ok (.iconst 1, 1) := by decide +kernel
theorem dL_drawn_21 : decode cL_drawn 21 = .ok (.goto 4, 3) := by decide +kernel
theorem dL_drawn_24 : decode cL_drawn 24 = .ok (.iconst 0, 1) := by decide +kernel
theorem dL_drawn_25 : decode cL_drawn 25 = .ok (.ireturn, 1) := by decide +kernel
theorem dL_drawn_26 : decode cL_drawn 26 = .ok (.iload_n 1, 1) := by decide +kernel
theorem dL_drawn_27 : decode cL_drawn 27 = .ok (.iload_n 2, 1) := by decide +kernel
theorem dL_drawn_28 : decode cL_drawn 28 = .ok (.invokestatic 22, 3) := by decide +kernel
theorem dL_drawn_31 : decode cL_drawn 31 = .ok (.istore_n 3, 1) := by decide +kernel
theorem dL_drawn_32 : decode cL_drawn 32 = .ok (.aload_n 0, 1) := by decide +kernel
theorem dL_drawn_33 : decode cL_drawn 33 = .ok (.bipush 20, 2) := by decide +kernel
theorem dL_drawn_35 : decode cL_drawn 35 = .ok (.invokevirtual 57, 3) := by decide +kernel
theorem dL_drawn_38 : decode cL_drawn 38 = .ok (.istore 4, 2) := by decide +kernel
theorem dL_drawn_40 : decode cL_drawn 40 = .ok (.iconst 1, 1) := by decide +kernel
theorem dL_drawn_41 : decode cL_drawn 41 = .ok (.iload_n 1, 1) := by decide +kernel
theorem dL_drawn_42 : decode cL_drawn 42 = .ok (.bipush 6, 2) := by decide +kernel
theorem dL_drawn_44 : decode cL_drawn 44 = .ok (.ishr, 1) := by decide +kernel
theorem dL_drawn_45 : decode cL_drawn 45 = .ok (.bipush 8, 2) := by decide +kernel
theorem dL_drawn_47 : decode cL_drawn 47 = .ok (.invokestatic 22, 3) := by decide +kernel
theorem dL_drawn_50 : decode cL_drawn 50 = .ok (.iadd, 1) := by decide +kernel
theorem dL_drawn_51 : decode cL_drawn 51 = .ok (.istore 5, 2) := by decide +kernel
theorem dL_drawn_53 : decode cL_drawn 53 = .ok (.aload_n 0, 1) := by decide +kernel
theorem dL_drawn_54 : decode cL_drawn 54 = .ok (.iload_n 3, 1) := by decide +kernel
theorem dL_drawn_55 : decode cL_drawn 55 = .ok (.iload 5, 2) := by decide +kernel
theorem dL_drawn_57 : decode cL_drawn 57 = .ok (.invokevirtual 110, 3) := by decide +kernel
theorem dL_drawn_60 : decode cL_drawn 60 = .ok (.istore 6, 2) := by decide +kernel
theorem dL_drawn_62 : decode cL_drawn 62 = .ok (.aload_n 0, 1) := by decide +kernel
theorem dL_drawn_63 : decode cL_drawn 63 = .ok (.iload_n 3, 1) := by decide +kernel
theorem dL_drawn_64 : decode cL_drawn 64 = .ok (.iconst 4, 1) := by decide +kernel
theorem dL_drawn_65 : decode cL_drawn 65 = .ok (.invokevirtual 68, 3) := by decide +kernel
theorem dL_drawn_68 : decode cL_drawn 68 = .ok (.ifCond .eq 16, 3) := by decide +kernel
theorem dL_drawn_71 : decode cL_drawn 71 = .ok (.iload 6, 2) := by decide +kernel
theorem dL_drawn_73 : decode cL_drawn 73 = .ok (.bipush (-5), 2) := by decide +kernel
theorem dL_drawn_75 : decode cL_drawn 75 = .ok (.if_icmp .ne 7, 3) := by decide +kernel
theorem dL_drawn_78 : decode cL_drawn 78 = .ok (.iconst 1, 1) := by decide +kernel
theorem dL_drawn_79 : decode cL_drawn 79 = .ok (.goto 4, 3) := by decide +kernel
theorem dL_drawn_82 : decode cL_drawn 82 = .ok (.iconst 0, 1) := by decide +kernel
theorem dL_drawn_83 : decode cL_drawn 83 = .ok (.ireturn, 1) := by decide +kernel
theorem dL_drawn_84 : decode cL_drawn 84 = .ok (.iload 6, 2) := by decide +kernel
theorem dL_drawn_86 : decode cL_drawn 86 = .ok (.ifCond .lt 21, 3) := by decide +kernel
theorem dL_drawn_89 : decode cL_drawn 89 = .ok (.iload 6, 2) := by decide +kernel
theorem dL_drawn_91 : decode cL_drawn 91 = .ok (.iload 5, 2) := by decide +kernel
theorem dL_drawn_93 : decode cL_drawn 93 = .ok (.if_icmp .gt 14, 3) := by decide +kernel
theorem dL_drawn_96 : decode cL_drawn 96 = .ok (.aload_n 0, 1) := by decide +kernel
theorem dL_drawn_97 : decode cL_drawn 97 = .ok (.bipush 20, 2) := by decide +kernel
theorem dL_drawn_99 : decode cL_drawn 99 = .ok (.invokevirtual 57, 3) := by decide +kernel
theorem dL_drawn_102 : decode cL_drawn 102 = .ok (.iload 4, 2) := by decide +kernel
theorem dL_drawn_104 : decode cL_drawn 104 = .ok (.if_icmp .eq 5, 3) := by decide +kernel
theorem dL_drawn_107 : decode cL_drawn 107 = .ok (.iconst 0, 1) := by decide +kernel
theorem dL_drawn_108 : decode cL_drawn 108 = .ok (.ireturn, 1) := by decide +kernel
theorem dL_drawn_109 : decode cL_drawn 109 = .ok (.iconst 0, 1) := by decide +kernel
theorem dL_drawn_110 : decode cL_drawn 110 = .ok (.istore 7, 2) := by decide +kernel
theorem dL_drawn_112 : decode cL_drawn 112 = .ok (.aload_n 0, 1) := by decide +kernel
theorem dL_drawn_113 : decode cL_drawn 113 = .ok (.iload_n 3, 1) := by decide +kernel
theorem dL_drawn_114 : decode cL_drawn 114 = .ok (.iconst 2, 1) := by decide +kernel
theorem dL_drawn_115 : decode cL_drawn 115 = .ok (.invokevirtual 68, 3) := by decide +kernel
theorem dL_drawn_118 : decode cL_drawn 118 = .ok (.istore 8, 2) := by decide +kernel
theorem dL_drawn_120 : decode cL_drawn 120 = .ok (.aload_n 0, 1) := by decide +kernel
theorem dL_drawn_121 : decode cL_drawn 121 = .ok (.iload_n 3, 1) := by decide +kernel
theorem dL_drawn_122 : decode cL_drawn 122 = .ok (.iconst 1, 1) := by decide +kernel
theorem dL_drawn_123 : decode cL_drawn 123 = .ok (.invokevirtual 68, 3) := by decide +kernel
theorem dL_drawn_126 : decode cL_drawn 126 = .ok (.istore 9, 2) := by decide +kernel
theorem dL_drawn_128 : decode cL_drawn 128 = .ok (.iconst 0, 1) := by decide +kernel
theorem dL_drawn_129 : decode cL_drawn 129 = .ok (.istore 10, 2) := by decide +kernel
theorem dL_drawn_131 : decode cL_drawn 131 = .ok (.iload 10, 2) := by decide +kernel
theorem dL_drawn_133 : decode cL_drawn 133 = .ok (.iload 5, 2) := by decide +kernel
theorem dL_drawn_135 : decode cL_drawn 135 = .ok (.if_icmp .ge 100, 3) := by decide +kernel
theorem dL_drawn_138 : decode cL_drawn 138 = .ok (.aload_n 0, 1) := by decide +kernel
theorem dL_drawn_139 : decode cL_drawn 139 = .ok (.iconst 0, 1) := by decide +kernel
theorem dL_drawn_140 : decode cL_drawn 140 = .ok (.invokevirtual 113, 3) := by decide +kernel
theorem dL_drawn_143 : decode cL_drawn 143 = .ok (.aload_n 0, 1) := by decide +kernel
theorem dL_drawn_144 : decode cL_drawn 144 = .ok (.iconst 0, 1) := by decide +kernel
theorem dL_drawn_145 : decode cL_drawn 145 = .ok (.invokevirtual 57, 3) := by decide +kernel
theorem dL_drawn_148 : decode cL_drawn 148 = .ok (.if_icmp .ne 24, 3) := by decide +kernel
theorem dL_drawn_151 : decode cL_drawn 151 = .ok (.aload_n 0, 1) := by decide +kernel
theorem dL_drawn_152 : decode cL_drawn 152 = .ok (.iconst 5, 1) := by decide +kernel
theorem dL_drawn_153 : decode cL_drawn 153 = .ok (.iload 4, 2) := by decide +kernel
theorem dL_drawn_155 : decode cL_drawn 155 = .ok (.invokevirtual 33, 3) := by decide +kernel
theorem dL_drawn_158 : decode cL_drawn 158 = .ok (.ifCond .lt 14, 3) := by decide +kernel
theorem dL_drawn_161 : decode cL_drawn 161 = .ok (.aload_n 0, 1) := by decide +kernel
theorem dL_drawn_162 : decode cL_drawn 162 = .ok (.iload 9, 2) := by decide +kernel
theorem dL_drawn_164 : decode cL_drawn 164 = .ok (.iload 8, 2) := by decide +kernel
theorem dL_drawn_166 : decode cL_drawn 166 = .ok (.invokevirtual 97, 3) := by decide +kernel
theorem dL_drawn_169 : decode cL_drawn 169 = .ok (.ifCond .ge 5, 3) := by decide +kernel
theorem dL_drawn_172 : decode cL_drawn 172 = .ok (.iconst 0, 1) := by decide +kernel
theorem dL_drawn_173 : decode cL_drawn 173 = .ok (.ireturn, 1) := by decide +kernel
theorem dL_drawn_174 : decode cL_drawn 174 = .ok (.iload 7, 2) := by decide +kernel
theorem dL_drawn_176 : decode cL_drawn 176 = .ok (.aload_n 0, 1) := by decide +kernel
theorem dL_drawn_177 : decode cL_drawn 177 = .ok (.iload_n 3, 1) := by decide +kernel
theorem dL_drawn_178 : decode cL_drawn 178 = .ok (.iconst 4, 1) := by decide +kernel
theorem dL_drawn_179 : decode cL_drawn 179 = .ok (.invokevirtual 68, 3) := by decide +kernel
theorem dL_drawn_182 : decode cL_drawn 182 = .ok (.iconst 1, 1) := by decide +kernel
theorem dL_drawn_183 : decode cL_drawn 183 = .ok (.if_icmp .ne 7, 3) := by decide +kernel
theorem dL_drawn_186 : decode cL_drawn 186 = .ok (.iconst 1, 1) := by decide +kernel
theorem dL_drawn_187 : decode cL_drawn 187 = .ok (.goto 4, 3) := by decide +kernel
theorem dL_drawn_190 : decode cL_drawn 190 = .ok (.iconst 0, 1) := by decide +kernel
theorem dL_drawn_191 : decode cL_drawn 191 = .ok (.iadd, 1) := by decide +kernel
theorem dL_drawn_192 : decode cL_drawn 192 = .ok (.istore 7, 2) := by decide +kernel
theorem dL_drawn_194 : decode cL_drawn 194 = .ok (.aload_n 0, 1) := by decide +kernel
theorem dL_drawn_195 : decode cL_drawn 195 = .ok (.bipush 20, 2) := by decide +kernel
theorem dL_drawn_197 : decode cL_drawn 197 = .ok (.invokevirtual 57, 3) := by decide +kernel
theorem dL_drawn_200 : decode cL_drawn 200 = .ok (.istore 4, 2) := by decide +kernel
theorem dL_drawn_202 : decode cL_drawn 202 = .ok (.iload 4, 2) := by decide +kernel
theorem dL_drawn_204 : decode cL_drawn 204 = .ok (.ifCond .lt 23, 3) := by decide +kernel
theorem dL_drawn_207 : decode cL_drawn 207 = .ok (.iload 4, 2) := by decide +kernel
theorem dL_drawn_209 : decode cL_drawn 209 = .ok (.ldc 116, 2) := by decide +kernel
theorem dL_drawn_211 : decode cL_drawn 211 = .ok (.if_icmp .gt 16, 3) := by decide +kernel
theorem dL_drawn_214 : decode cL_drawn 214 = .ok (.aload_n 0, 1) := by decide +kernel
theorem dL_drawn_215 : decode cL_drawn 215 = .ok (.iconst 0, 1) := by decide +kernel
theorem dL_drawn_216 : decode cL_drawn 216 = .ok (.invokevirtual 117, 3) := by decide +kernel
theorem dL_drawn_219 : decode cL_drawn 219 = .ok (.aload_n 0, 1) := by decide +kernel
theorem dL_drawn_220 : decode cL_drawn 220 = .ok (.iconst 0, 1) := by decide +kernel
theorem dL_drawn_221 : decode cL_drawn 221 = .ok (.invokevirtual 57, 3) := by decide +kernel
theorem dL_drawn_224 : decode cL_drawn 224 = .ok (.if_icmp .eq 5, 3) := by decide +kernel
theorem dL_drawn_227 : decode cL_drawn 227 = .ok (.iconst 0, 1) := by decide +kernel
theorem dL_drawn_228 : decode cL_drawn 228 = .ok (.ireturn, 1) := by decide +kernel
theorem dL_drawn_229 : decode cL_drawn 229 = .ok (.iinc 10 1, 3) := by decide +kernel
theorem dL_drawn_232 : decode cL_drawn 232 = .ok (.goto (-101), 3) := by decide +kernel
theorem dL_drawn_235 : decode cL_drawn 235 = .ok (.iload 6, 2) := by decide +kernel
theorem dL_drawn_237 : decode cL_drawn 237 = .ok (.iload 7, 2) := by decide +kernel
theorem dL_drawn_239 : decode cL_drawn 239 = .ok (.if_icmp .ne 16, 3) := by decide +kernel
theorem dL_drawn_242 : decode cL_drawn 242 = .ok (.aload_n 0, 1) := by decide +kernel
theorem dL_drawn_243 : decode cL_drawn 243 = .ok (.iload_n 3, 1) := by decide +kernel
theorem dL_drawn_244 : decode cL_drawn 244 = .ok (.iconst 4, 1) := by decide +kernel
theorem dL_drawn_245 : decode cL_drawn 245 = .ok (.invokevirtual 68, 3) := by decide +kernel
theorem dL_drawn_248 : decode cL_drawn 248 = .ok (.ifCond .ne 7, 3) := by decide +kernel
theorem dL_drawn_251 : decode cL_drawn 251 = .ok (.iconst 1, 1) := by decide +kernel
theorem dL_drawn_252 : decode cL_drawn 252 = .ok (.goto 4, 3) := by decide +kernel
theorem dL_drawn_255 : decode cL_drawn 255 = .ok (.iconst 0, 1) := by decide +kernel
theorem dL_drawn_256 : decode cL_drawn 256 = .ok (.ireturn, 1) := by decide +kernel
set_option maxRecDepth 20000 in
theorem ggL_told_L_up : GoodIn wsL_told wsL_up := goodIn_r _ [9, 10] rfl (by decide +kernel)
set_option maxRecDepth 20000 in
theorem gL_told_L_up : GoodIn wsL_told (va_wsS RL 22 yL_up wsL_up) := goodIn_app (goodIn_of _ (by decide +kernel)) ggL_told_L_up
set_option maxRecDepth 20000 in
theorem ggL_told_X6_save : GoodIn wsL_told wsX6_save := goodIn_r _ [15, 16, 17, 18, 19, 20, 21, 22, 23, 24, 25, 26, 27, 28, 29, 30, 31, 32, 33, 34, 35, 36, 37, 38, 39, 40, 41, 42, 43, 44, 45, 46, 47, 48, 49, 50, 51, 52, 53, 54, 55, 56, 57, 58, 59, 60, 61, 62, 278, 279, 280, 281, 282, 283, 284, 285, 286, 287, 288, 289, 290, 291, 292, 293, 294, 295, 296, 297, 298, 299, 300, 301, 302, 303, 304, 305] rfl (by decide +kernel)
set_option maxRecDepth 20000 in
theorem gL_told_X6_save : GoodIn wsL_told (wsV RL 113 RX6 yX6_save wsX6_save) := goodIn_app (goodIn_of _ (by decide +kernel)) ggL_told_X6_save
set_option maxRecDepth 20000 in
theorem ggL_told_X6_apply : GoodIn wsL_told wsX6_apply := goodIn_r _ [66, 17, 67, 68, 69, 70, 71, 23, 72, 27, 73, 74, 75, 76, 77, 78, 79, 80, 26, 81, 14, 82, 83, 84, 85, 86, 25, 32, 87, 88, 89, 90, 28, 31, 91, 92, 93, 52, 94, 54, 95, 96, 97, 98, 56, 55, 99, 100, 101, 102, 59, 103, 104, 105, 44, 106, 48, 107, 108, 109, 110, 111, 112, 113, 114, 115, 278, 279, 280, 281, 282, 283, 284, 285, 286, 287, 288, 289, 290, 291, 297, 298, 299, 300, 301, 302, 303, 304, 305, 294, 295, 296] rfl (by decide +kernel)
set_option maxRecDepth 20000 in
theorem gL_told_X6_apply : GoodIn wsL_told (wsV RL 61 RX6 yX6_apply wsX6_apply) := goodIn_app (goodIn_of _ (by decide +kernel)) ggL_told_X6_apply
set_option maxRecDepth 20000 in
theorem ggL_told_X6_count : GoodIn wsL_told wsX6_count := goodIn_r _ [119, 17, 120, 19, 121, 122, 68, 123, 124, 125, 126, 127, 23, 128, 28, 31, 129, 91, 92, 93, 52, 94, 54, 130, 131, 132, 133, 134, 135, 136, 137, 138, 139, 140, 141, 142, 143, 32, 278, 279, 280, 281, 282, 283, 284, 285, 286, 287, 288, 289, 290, 291, 306, 307, 308, 309, 310, 311, 312, 297, 298, 299, 300, 301, 302, 303, 304, 305] rfl (by decide +kernel)
set_option maxRecDepth 20000 in
theorem gL_told_X6_count : GoodIn wsL_told (wsV RL 57 RX6 yX6_count wsX6_count) := goodIn_app (goodIn_of _ (by decide +kernel)) ggL_told_X6_count
set_option maxRecDepth 20000 in
theorem ggL_told_X6_restore : GoodIn wsL_told wsX6_restore := goodIn_r _ [147, 18, 17, 16, 19, 20, 21, 22, 23, 24, 25, 26, 27, 28, 29, 30, 31, 32, 33, 34, 35, 36, 37, 38, 39, 40, 41, 42, 43, 44, 45, 46, 47, 48, 49, 50, 51, 52, 53, 54, 55, 56, 57, 58, 59, 60, 61, 62, 278, 279, 280, 281, 282, 283, 284, 285, 286, 287, 288, 289, 290, 291, 292, 293, 294, 295, 296, 297, 298, 299, 300, 301, 302, 303, 304, 305] rfl (by decide +kernel)
set_option maxRecDepth 20000 in
theorem gL_told_X6_restore : GoodIn wsL_told (wsV RL 117 RX6 yX6_restore wsX6_restore) := goodIn_app (goodIn_of _ (by decide +kernel)) ggL_told_X6_restore
set_option maxRecDepth 20000 in
theorem ggL_told_X6_wipe : GoodIn wsL_told wsX6_wipe := goodIn_r _ [151, 123, 124, 278, 279, 280, 281, 282, 306, 307, 308, 309, 310, 311, 312] rfl (by decide +kernel)
set_option maxRecDepth 20000 in
theorem gL_told_X6_wipe : GoodIn wsL_told (wsV RL 120 RX6 yX6_wipe wsX6_wipe) := goodIn_app (goodIn_of _ (by decide +kernel)) ggL_told_X6_wipe
set_option maxRecDepth 20000 in
theorem ggL_told_X6_put : GoodIn wsL_told wsX6_put := goodIn_r _ [155, 123, 124, 156, 157, 158, 159, 160, 161, 162, 163, 164, 165, 166, 167, 168, 278, 279, 280, 281, 282, 306, 307, 308, 309, 310, 311, 312] rfl (by decide +kernel)
set_option maxRecDepth 20000 in
theorem gL_told_X6_put : GoodIn wsL_told (wsV RL 125 RX6 yX6_put wsX6_put) := goodIn_app (goodIn_of _ (by decide +kernel)) ggL_told_X6_put
set_option maxRecDepth 20000 in
theorem ggL_told_X6_fault : GoodIn wsL_told wsX6_fault := goodIn_r _ [172, 123, 173, 174, 175, 158, 176, 177, 168, 178, 179, 180, 181, 182, 183, 184, 185, 186, 187, 188, 189, 167, 190, 191, 192, 193, 194, 195, 196, 197, 278, 279, 280, 281, 282, 306, 307, 308, 309, 310, 311, 312] rfl (by decide +kernel)
set_option maxRecDepth 20000 in
theorem gL_told_X6_fault : GoodIn wsL_told (wsV RL 137 RX6 yX6_fault wsX6_fault) := goodIn_app (goodIn_of _ (by decide +kernel)) ggL_told_X6_fault
set_option maxRecDepth 20000 in
theorem ggL_told_X6_load : GoodIn wsL_told wsX6_load := goodIn_r _ [201, 123, 202, 124, 203, 204, 205, 206, 173, 174, 175, 158, 176, 177, 168, 178, 179, 180, 181, 182, 183, 184, 185, 186, 187, 188, 189, 167, 190, 191, 192, 193, 194, 195, 196, 197, 207, 208, 64, 65, 14, 66, 17, 67, 68, 69, 70, 71, 23, 72, 27, 73, 74, 75, 76, 77, 78, 79, 80, 26, 81, 82, 83, 84, 85, 86, 25, 32, 87, 88, 89, 90, 28, 31, 91, 92, 93, 52, 94, 54, 95, 96, 97, 98, 56, 55, 99, 100, 101, 102, 59, 103, 104, 105, 44, 106, 48, 107, 108, 109, 110, 111, 112, 113, 114, 115, 209, 278, 279, 280, 281, 282, 306, 307, 308, 309, 310, 311, 312, 283, 284, 285, 286, 287, 288, 289, 290, 291, 297, 298, 299, 300, 301, 302, 303, 304, 305, 294, 295, 296] rfl (by decide +kernel)
set_option maxRecDepth 20000 in
theorem gL_told_X6_load : GoodIn wsL_told (wsV RL 140 RX6 yX6_load wsX6_load) := goodIn_app (goodIn_of _ (by decide +kernel)) ggL_told_X6_load
set_option maxRecDepth 20000 in
theorem ggL_told_X6_application : GoodIn wsL_told wsX6_application := goodIn_r _ [213, 17, 214, 215, 216, 217, 218, 219, 220, 221, 222, 223, 224, 225, 226, 23, 227, 28, 228, 229, 230, 231, 33, 30, 111, 232, 278, 279, 280, 281, 282, 283, 284, 285, 286, 287, 288, 289, 290, 291, 297, 298, 299, 300, 301, 302, 303, 304, 305, 294, 295, 296] rfl (by decide +kernel)
set_option maxRecDepth 20000 in
theorem gL_told_X6_application : GoodIn wsL_told (wsV RL 68 RX6 yX6_application wsX6_application) := goodIn_app (goodIn_of _ (by decide +kernel)) ggL_told_X6_application
set_option maxRecDepth 20000 in
theorem ggL_told_X6_cancel : GoodIn wsL_told wsX6_cancel := goodIn_r _ [236, 17, 214, 219, 221, 216, 217, 224, 225, 226, 23, 227, 28, 237, 100, 101, 52, 102, 59, 238, 239, 240, 241, 113, 25, 134, 242, 243, 244, 245, 31, 30, 111, 232, 246, 84, 85, 86, 32, 81, 14, 82, 247, 248, 249, 250, 29, 251, 252, 253, 254, 255, 256, 257, 258, 259, 260, 115, 261, 262, 263, 264, 95, 96, 97, 98, 56, 55, 265, 266, 267, 268, 129, 269, 270, 271, 272, 273, 104, 105, 44, 106, 48, 274, 275, 276, 277, 33, 278, 279, 280, 281, 282, 283, 284, 285, 286, 287, 288, 289, 290, 291, 297, 298, 299, 300, 301, 302, 303, 304, 305, 294, 295, 296, 292, 293] rfl (by decide +kernel)
set_option maxRecDepth 20000 in
theorem gL_told_X6_cancel : GoodIn wsL_told (wsV RL 75 RX6 yX6_cancel wsX6_cancel) := goodIn_app (goodIn_of _ (by decide +kernel)) ggL_told_X6_cancel
theorem dL_told_0 : decode cL_told 0 = .ok (.iload_n 1, 1) := by decide +kernel
theorem dL_told_1 : decode cL_told 1 = .ok (.bipush 10, 2) := by decide +kernel
theorem dL_told_3 : decode cL_told 3 = .ok (.invokestatic 22, 3) := by decide +kernel
theorem dL_told_6 : decode cL_told 6 = .ok (.istore_n 2, 1) := by decide +kernel
theorem dL_told_7 : decode cL_told 7 = .ok (.iload_n 1, 1) := by decide +kernel
theorem dL_told_8 : decode cL_told 8 = .ok (.iconst 4, 1) := by decide +kernel
theorem dL_told_9 : decode cL_told 9 = .ok (.ishr, 1) := by decide +kernel
theorem dL_told_10 : decode cL_told 10 = .ok (.bipush 6, 2) := by decide +kernel
theorem dL_told_12 : decode cL_told 12 = .ok (.invokestatic 22, 3) := by decide +kernel
theorem dL_told_15 : decode cL_told 15 = .ok (.istore_n 3, 1) := by decide +kernel
theorem dL_told_16 : decode cL_told 16 = .ok (.iload_n 1, 1) := by decide +kernel
theorem dL_told_17 : decode cL_told 17 = .ok (.bipush 7, 2) := by decide +kernel
theorem dL_told_19 : decode cL_told 19 = .ok (.ishr, 1) := by decide +kernel
theorem dL_told_20 : decode cL_told 20 = .ok (.bipush 10, 2) := by decide +kernel
theorem dL_told_22 : decode cL_told 22 = .ok (.invokestatic 22, 3) := by decide +kernel
theorem dL_told_25 : decode cL_told 25 = .ok (.istore 4, 2) := by decide +kernel
theorem dL_told_27 : decode cL_told 27 = .ok (.iconst 1, 1) := by decide +kernel
theorem dL_told_28 : decode cL_told 28 = .ok (.iload_n 1, 1) := by decide +kernel
theorem dL_told_29 : decode cL_told 29 = .ok (.bipush 11, 2) := by decide +kernel
theorem dL_told_31 : decode cL_told 31 = .ok (.ishr, 1) := by decide +kernel
theorem dL_told_32 : decode cL_told 32 = .ok (.iconst 4, 1) := by decide +kernel
theorem dL_told_33 : decode cL_told 33 = .ok (.invokestatic 22, 3) := by decide +kernel
theorem dL_told_36 : decode cL_told 36 = .ok (.iadd, 1) := by decide +kernel
theorem dL_told_37 : decode cL_told 37 = .ok (.istore 5, 2) := by decide +kernel
theorem dL_told_39 : decode cL_told 39 = .ok (.aload_n 0, 1) := by decide +kernel
theorem dL_told_40 : decode cL_told 40 = .ok (.iconst 0, 1) := by decide +kernel
theorem dL_told_41 : decode cL_told 41 = .ok (.invokevirtual 113, 3) := by decide +kernel
theorem dL_told_44 : decode cL_told 44 = .ok (.istore 6, 2) := by decide +kernel
theorem dL_told_46 : decode cL_told 46 = .ok (.aload_n 0, 1) := by decide +kernel
theorem dL_told_47 : decode cL_told 47 = .ok (.iload_n 2, 1) := by decide +kernel
theorem dL_told_48 : decode cL_told 48 = .ok (.iload_n 3, 1) := by decide +kernel
theorem dL_told_49 : decode cL_told 49 = .ok (.bipush 50, 2) := by decide +kernel
theorem dL_told_51 : decode cL_told 51 = .ok (.iload 4, 2) := by decide +kernel
theorem dL_told_53 : decode cL_told 53 = .ok (.iadd, 1) := by decide +kernel
theorem dL_told_54 : decode cL_told 54 = .ok (.iload 5, 2) := by decide +kernel
theorem dL_told_56 : decode cL_told 56 = .ok (.invokevirtual 61, 3) := by decide +kernel
theorem dL_told_59 : decode cL_told 59 = .ok (.istore 7, 2) := by decide +kernel
theorem dL_told_61 : decode cL_told 61 = .ok (.aload_n 0, 1) := by decide +kernel
theorem dL_told_62 : decode cL_told 62 = .ok (.iconst 3, 1) := by decide +kernel
theorem dL_told_63 : decode cL_told 63 = .ok (.invokevirtual 57, 3) := by decide +kernel
theorem dL_told_66 : decode cL_told 66 = .ok (.istore 8, 2) := by decide +kernel
theorem dL_told_68 : decode cL_told 68 = .ok (.aload_n 0, 1) := by decide +kernel
theorem dL_told_69 : decode cL_told 69 = .ok (.iconst 0, 1) := by decide +kernel
theorem dL_told_70 : decode cL_told 70 = .ok (.invokevirtual 117, 3) := by decide +kernel
theorem dL_told_73 : decode cL_told 73 = .ok (.iload 6, 2) := by decide +kernel
theorem dL_told_75 : decode cL_told 75 = .ok (.if_icmp .eq 5, 3) := by decide +kernel
theorem dL_told_78 : decode cL_told 78 = .ok (.iconst 0, 1) := by decide +kernel
theorem dL_told_79 : decode cL_told 79 = .ok (.ireturn, 1) := by decide +kernel
theorem dL_told_80 : decode cL_told 80 = .ok (.aload_n 0, 1) := by decide +kernel
theorem dL_told_81 : decode cL_told 81 = .ok (.invokevirtual 120, 3) := by decide +kernel
theorem dL_told_84 : decode cL_told 84 = .ok (.pop, 1) := by decide +kernel
theorem dL_told_85 : decode cL_told 85 = .ok (.aload_n 0, 1) := by decide +kernel
theorem dL_told_86 : decode cL_told 86 = .ok (.bipush 48, 2) := by decide +kernel
theorem dL_told_88 : decode cL_told 88 = .ok (.iload_n 2, 1) := by decide +kernel
theorem dL_told_89 : decode cL_told 89 = .ok (.iadd, 1) := by decide +kernel
theorem dL_told_90 : decode cL_told 90 = .ok (.i2l, 1) := by decide +kernel
theorem dL_told_91 : decode cL_told 91 = .ok (.ldc2_w 123, 3) := by decide +kernel
theorem dL_told_94 : decode cL_told 94 = .ok (.lor, 1) := by decide +kernel
theorem dL_told_95 : decode cL_told 95 = .ok (.invokevirtual 125, 3) := by decide +kernel
theorem dL_told_98 : decode cL_told 98 = .ok (.pop, 1) := by decide +kernel
theorem dL_told_99 : decode cL_told 99 = .ok (.aload_n 0, 1) := by decide +kernel
theorem dL_told_100 : decode cL_told 100 = .ok (.bipush 48, 2) := by decide +kernel
theorem dL_told_102 : decode cL_told 102 = .ok (.iload_n 3, 1) := by decide +kernel
theorem dL_told_103 : decode cL_told 103 = .ok (.iadd, 1) := by decide +kernel
theorem dL_told_104 : decode cL_told 104 = .ok (.i2l, 1) := by decide +kernel
theorem dL_told_105 : decode cL_told 105 = .ok (.ldc2_w 129, 3) := by decide +kernel
theorem dL_told_108 : decode cL_told 108 = .ok (.lor, 1) := by decide +kernel
theorem dL_told_109 : decode cL_told 109 = .ok (.invokevirtual 125, 3) := by decide +kernel
theorem dL_told_112 : decode cL_told 112 = .ok (.pop, 1) := by decide +kernel
theorem dL_told_113 : decode cL_told 113 = .ok (.aload_n 0, 1) := by decide +kernel
theorem dL_told_114 : decode cL_told 114 = .ok (.bipush 48, 2) := by decide +kernel
theorem dL_told_116 : decode cL_told 116 = .ok (.iload 4, 2) := by decide +kernel
theorem dL_told_118 : decode cL_told 118 = .ok (.iadd, 1) := by decide +kernel
theorem dL_told_119 : decode cL_told 119 = .ok (.i2l, 1) := by decide +kernel
theorem dL_told_120 : decode cL_told 120 = .ok (.ldc2_w 131, 3) := by decide +kernel
theorem dL_told_123 : decode cL_told 123 = .ok (.lor, 1) := by decide +kernel
theorem dL_told_124 : decode cL_told 124 = .ok (.ldc2_w 133, 3) := by decide +kernel
theorem dL_told_127 : decode cL_told 127 = .ok (.lor, 1) := by decide +kernel
theorem dL_told_128 : decode cL_told 128 = .ok (.invokevirtual 125, 3) := by decide +kernel
theorem dL_told_131 : decode cL_told 131 = .ok (.pop, 1) := by decide +kernel
theorem dL_told_132 : decode cL_told 132 = .ok (.aload_n 0, 1) := by decide +kernel
theorem dL_told_133 : decode cL_told 133 = .ok (.bipush 48, 2) := by decide +kernel
theorem dL_told_135 : decode cL_told 135 = .ok (.iload 5, 2) := by decide +kernel
theorem dL_told_137 : decode cL_told 137 = .ok (.iadd, 1) := by decide +kernel
theorem dL_told_138 : decode cL_told 138 = .ok (.i2l, 1) := by decide +kernel
theorem dL_told_139 : decode cL_told 139 = .ok (.ldc2_w 135, 3) := by decide +kernel
theorem dL_told_142 : decode cL_told 142 = .ok (.lor, 1) := by decide +kernel
theorem dL_told_143 : decode cL_told 143 = .ok (.invokevirtual 125, 3) := by decide +kernel
theorem dL_told_146 : decode cL_told 146 = .ok (.pop, 1) := by decide +kernel
theorem dL_told_147 : decode cL_told 147 = .ok (.aload_n 0, 1) := by decide +kernel
theorem dL_told_148 : decode cL_told 148 = .ok (.bipush 14, 2) := by decide +kernel
theorem dL_told_150 : decode cL_told 150 = .ok (.invokevirtual 57, 3) := by decide +kernel
theorem dL_told_153 : decode cL_told 153 = .ok (.bipush 9, 2) := by decide +kernel
theorem dL_told_155 : decode cL_told 155 = .ok (.if_icmp .ne 12, 3) := by decide +kernel
theorem dL_told_158 : decode cL_told 158 = .ok (.aload_n 0, 1) := by decide +kernel
theorem dL_told_159 : decode cL_told 159 = .ok (.invokevirtual 137, 3) := by decide +kernel
theorem dL_told_162 : decode cL_told 162 = .ok (.bipush (-6), 2) := by decide +kernel
theorem dL_told_164 : decode cL_told 164 = .ok (.if_icmp .eq 5, 3) := by decide +kernel
theorem dL_told_167 : decode cL_told 167 = .ok (.iconst 0, 1) := by decide +kernel
theorem dL_told_168 : decode cL_told 168 = .ok (.ireturn, 1) := by decide +kernel
theorem dL_told_169 : decode cL_told 169 = .ok (.aload_n 0, 1) := by decide +kernel
theorem dL_told_170 : decode cL_told 170 = .ok (.invokevirtual 140, 3) := by decide +kernel
theorem dL_told_173 : decode cL_told 173 = .ok (.iload 7, 2) := by decide +kernel
theorem dL_told_175 : decode cL_told 175 = .ok (.ifCond .ge 7, 3) := by decide +kernel
theorem dL_told_178 : decode cL_told 178 = .ok (.iconst 0, 1) := by decide +kernel
theorem dL_told_179 : decode cL_told 179 = .ok (.goto 4, 3) := by decide +kernel
theorem dL_told_182 : decode cL_told 182 = .ok (.iconst 1, 1) := by decide +kernel
theorem dL_told_183 : decode cL_told 183 = .ok (.if_icmp .ne 22, 3) := by decide +kernel
theorem dL_told_186 : decode cL_told 186 = .ok (.aload_n 0, 1) := by decide +kernel
theorem dL_told_187 : decode cL_told 187 = .ok (.iconst 3, 1) := by decide +kernel
theorem dL_told_188 : decode cL_told 188 = .ok (.invokevirtual 57, 3) := by decide +kernel
theorem dL_told_191 : decode cL_told 191 = .ok (.iload 8, 2) := by decide +kernel
theorem dL_told_193 : decode cL_told 193 = .ok (.if_icmp .ne 12, 3) := by decide +kernel
theorem dL_told_196 : decode cL_told 196 = .ok (.aload_n 0, 1) := by decide +kernel
theorem dL_told_197 : decode cL_told 197 = .ok (.bipush 14, 2) := by decide +kernel
theorem dL_told_199 : decode cL_told 199 = .ok (.invokevirtual 57, 3) := by decide +kernel
theorem dL_told_202 : decode cL_told 202 = .ok (.ifCond .eq 5, 3) := by decide +kernel
theorem dL_told_205 : decode cL_told 205 = .ok (.iconst 0, 1) := by decide +kernel
theorem dL_told_206 : decode cL_told 206 = .ok (.ireturn, 1) := by decide +kernel
theorem dL_told_207 : decode cL_told 207 = .ok (.iload 7, 2) := by decide +kernel
theorem dL_told_209 : decode cL_told 209 = .ok (.ifCond .lt 39, 3) := by decide +kernel
theorem dL_told_212 : decode cL_told 212 = .ok (.aload_n 0, 1) := by decide +kernel
theorem dL_told_213 : decode cL_told 213 = .ok (.iload 7, 2) := by decide +kernel
theorem dL_told_215 : decode cL_told 215 = .ok (.iconst 2, 1) := by decide +kernel
theorem dL_told_216 : decode cL_told 216 = .ok (.invokevirtual 68, 3) := by decide +kernel
theorem dL_told_219 : decode cL_told 219 = .ok (.bipush 50, 2) := by decide +kernel
theorem dL_told_221 : decode cL_told 221 = .ok (.iload 4, 2) := by decide +kernel
theorem dL_told_223 : decode cL_told 223 = .ok (.iadd, 1) := by decide +kernel
theorem dL_told_224 : decode cL_told 224 = .ok (.if_icmp .ne 28, 3) := by decide +kernel
theorem dL_told_227 : decode cL_told 227 = .ok (.aload_n 0, 1) := by decide +kernel
theorem dL_told_228 : decode cL_told 228 = .ok (.iload 7, 2) := by decide +kernel
theorem dL_told_230 : decode cL_told 230 = .ok (.iconst 3, 1) := by decide +kernel
theorem dL_told_231 : decode cL_told 231 = .ok (.invokevirtual 68, 3) := by decide +kernel
theorem dL_told_234 : decode cL_told 234 = .ok (.iload 5, 2) := by decide +kernel
theorem dL_told_236 : decode cL_told 236 = .ok (.if_icmp .ne 16, 3) := by decide +kernel
theorem dL_told_239 : decode cL_told 239 = .ok (.aload_n 0, 1) := by decide +kernel
theorem dL_told_240 : decode cL_told 240 = .ok (.iload 7, 2) := by decide +kernel
theorem dL_told_242 : decode cL_told 242 = .ok (.invokevirtual 75, 3) := by decide +kernel
theorem dL_told_245 : decode cL_told 245 = .ok (.ifCond .ne 7, 3) := by decide +kernel
theorem dL_told_248 : decode cL_told 248 = .ok (.iconst 1, 1) := by decide +kernel
theorem dL_told_249 : decode cL_told 249 = .ok (.goto 4, 3) := by decide +kernel
theorem dL_told_252 : decode cL_told 252 = .ok (.iconst 0, 1) := by decide +kernel
theorem dL_told_253 : decode cL_told 253 = .ok (.ireturn, 1) := by decide +kernel
set_option maxRecDepth 20000 in
theorem ggL_kept_X6_save : GoodIn wsL_kept wsX6_save := goodIn_r _ [5, 6, 7, 8, 9, 10, 11, 12, 13, 14, 15, 16, 17, 18, 19, 20, 21, 22, 23, 24, 25, 26, 27, 28, 29, 30, 31, 32, 33, 34, 35, 36, 37, 38, 39, 40, 41, 42, 43, 44, 45, 46, 47, 48, 49, 50, 51, 52, 305, 306, 307, 308, 309, 310, 311, 312, 313, 314, 315, 316, 317, 318, 319, 320, 321, 322, 323, 324, 325, 326, 327, 328, 329, 330, 331, 332] rfl (by decide +kernel)
set_option maxRecDepth 20000 in
theorem gL_kept_X6_save : GoodIn wsL_kept (wsV RL 113 RX6 yX6_save wsX6_save) := goodIn_app (goodIn_of _ (by decide +kernel)) ggL_kept_X6_save
set_option maxRecDepth 20000 in
theorem ggL_kept_X6_count : GoodIn wsL_kept wsX6_count := goodIn_r _ [56, 7, 57, 9, 58, 59, 60, 61, 62, 63, 64, 65, 13, 66, 18, 21, 67, 68, 69, 70, 42, 71, 44, 72, 73, 74, 75, 76, 77, 78, 79, 80, 81, 82, 83, 84, 85, 22, 305, 306, 307, 308, 309, 310, 311, 312, 313, 314, 315, 316, 317, 318, 333, 334, 335, 336, 337, 338, 339, 324, 325, 326, 327, 328, 329, 330, 331, 332] rfl (by decide +kernel)
set_option maxRecDepth 20000 in
theorem gL_kept_X6_count : GoodIn wsL_kept (wsV RL 57 RX6 yX6_count wsX6_count) := goodIn_app (goodIn_of _ (by decide +kernel)) ggL_kept_X6_count
set_option maxRecDepth 20000 in
theorem ggL_kept_X6_climber : GoodIn wsL_kept wsX6_climber := goodIn_r _ [89, 7, 90, 91, 92, 93, 94, 95, 96, 13, 97, 17, 63, 64, 65, 66, 18, 21, 67, 68, 69, 70, 42, 71, 44, 72, 73, 74, 75, 76, 77, 78, 79, 80, 81, 98, 99, 100, 101, 305, 306, 307, 308, 309, 310, 311, 312, 313, 314, 315, 316, 317, 318, 321, 322, 323, 324, 325, 326, 327, 328, 329, 330, 331, 332] rfl (by decide +kernel)
set_option maxRecDepth 20000 in
theorem gL_kept_X6_climber : GoodIn wsL_kept (wsV RL 65 RX6 yX6_climber wsX6_climber) := goodIn_app (goodIn_of _ (by decide +kernel)) ggL_kept_X6_climber
set_option maxRecDepth 20000 in
theorem ggL_kept_X6_application : GoodIn wsL_kept wsX6_application := goodIn_r _ [105, 7, 106, 107, 108, 109, 110, 111, 112, 113, 114, 115, 116, 117, 118, 13, 119, 18, 120, 121, 122, 123, 23, 20, 124, 125, 305, 306, 307, 308, 309, 310, 311, 312, 313, 314, 315, 316, 317, 318, 324, 325, 326, 327, 328, 329, 330, 331, 332, 321, 322, 323] rfl (by decide +kernel)
set_option maxRecDepth 20000 in
theorem gL_kept_X6_application : GoodIn wsL_kept (wsV RL 68 RX6 yX6_application wsX6_application) := goodIn_app (goodIn_of _ (by decide +kernel)) ggL_kept_X6_application
set_option maxRecDepth 20000 in
theorem ggL_kept_X6_set : GoodIn wsL_kept wsX6_set := goodIn_r _ [129, 130, 131, 132, 7, 57, 305, 306, 307, 308, 309, 310, 311, 312, 313, 314, 315, 316, 317, 318] rfl (by decide +kernel)
set_option maxRecDepth 20000 in
theorem gL_kept_X6_set : GoodIn wsL_kept (wsV RL 33 RX6 yX6_set wsX6_set) := goodIn_app (goodIn_of _ (by decide +kernel)) ggL_kept_X6_set
set_option maxRecDepth 20000 in
theorem ggL_kept_X6_buffer : GoodIn wsL_kept wsX6_buffer := goodIn_r _ [136, 7, 137, 138, 139, 140, 141, 142, 13, 143, 16, 305, 306, 307, 308, 309, 310, 311, 312, 313, 314, 315, 316, 317, 318, 319, 320] rfl (by decide +kernel)
set_option maxRecDepth 20000 in
theorem gL_kept_X6_buffer : GoodIn wsL_kept (wsV RL 143 RX6 yX6_buffer wsX6_buffer) := goodIn_app (goodIn_of _ (by decide +kernel)) ggL_kept_X6_buffer
set_option maxRecDepth 20000 in
theorem ggL_kept_X6_apply : GoodIn wsL_kept wsX6_apply := goodIn_r _ [147, 7, 90, 60, 94, 95, 96, 13, 97, 17, 148, 149, 150, 151, 152, 141, 142, 143, 16, 153, 4, 154, 155, 156, 157, 158, 15, 22, 159, 160, 161, 162, 18, 21, 68, 69, 70, 42, 71, 44, 163, 164, 165, 166, 46, 45, 167, 168, 169, 170, 49, 171, 172, 173, 34, 174, 38, 175, 176, 177, 178, 124, 179, 180, 181, 182, 305, 306, 307, 308, 309, 310, 311, 312, 313, 314, 315, 316, 317, 318, 324, 325, 326, 327, 328, 329, 330, 331, 332, 321, 322, 323] rfl (by decide +kernel)
set_option maxRecDepth 20000 in
theorem gL_kept_X6_apply : GoodIn wsL_kept (wsV RL 61 RX6 yX6_apply wsX6_apply) := goodIn_app (goodIn_of _ (by decide +kernel)) ggL_kept_X6_apply
set_option maxRecDepth 20000 in
theorem ggL_kept_X6_lottery : GoodIn wsL_kept wsX6_lottery := goodIn_r _ [186, 7, 187, 57, 148, 149, 150, 13, 151, 152, 141, 142, 143, 16, 153, 4, 154, 155, 156, 157, 158, 15, 22, 188, 189, 190, 191, 18, 21, 67, 163, 164, 165, 42, 166, 46, 45, 192, 193, 194, 195, 196, 197, 198, 199, 200, 201, 202, 203, 204, 205, 206, 207, 208, 209, 210, 20, 124, 180, 211, 172, 173, 34, 174, 38, 212, 121, 122, 123, 23, 125, 213, 214, 215, 216, 19, 217, 218, 219, 220, 221, 222, 223, 224, 225, 226, 182, 227, 228, 229, 230, 49, 231, 232, 233, 234, 235, 236, 237, 238, 239, 240, 241, 242, 243, 244, 245, 246, 247, 248, 249, 250, 251, 252, 253, 254, 255, 256, 257, 258, 259, 260, 76, 305, 306, 307, 308, 309, 310, 311, 312, 313, 314, 315, 316, 317, 318, 324, 325, 326, 327, 328, 329, 330, 331, 332, 340, 341, 342, 343, 344, 345, 346, 321, 322, 323, 319, 320] rfl (by decide +kernel)
set_option maxRecDepth 20000 in
theorem gL_kept_X6_lottery : GoodIn wsL_kept (wsV RL 97 RX6 yX6_lottery wsX6_lottery) := goodIn_app (goodIn_of _ (by decide +kernel)) ggL_kept_X6_lottery
set_option maxRecDepth 20000 in
theorem ggL_kept_X6_close : GoodIn wsL_kept wsX6_close := goodIn_r _ [264, 7, 265, 266, 153, 4, 154, 155, 156, 157, 13, 158, 15, 22, 267, 268, 269, 270, 18, 21, 67, 180, 76, 81, 20, 124, 125, 271, 272, 273, 274, 275, 23, 276, 277, 278, 279, 182, 179, 280, 218, 219, 220, 221, 19, 222, 223, 224, 225, 226, 227, 228, 229, 42, 230, 49, 163, 164, 165, 166, 46, 45, 246, 247, 248, 249, 305, 306, 307, 308, 309, 310, 311, 312, 313, 314, 315, 316, 317, 318, 324, 325, 326, 327, 328, 329, 330, 331, 332, 321, 322, 323, 319, 320] rfl (by decide +kernel)
set_option maxRecDepth 20000 in
theorem gL_kept_X6_close : GoodIn wsL_kept (wsV RL 101 RX6 yX6_close wsX6_close) := goodIn_app (goodIn_of _ (by decide +kernel)) ggL_kept_X6_close
set_option maxRecDepth 20000 in
theorem ggL_kept_X6_end : GoodIn wsL_kept wsX6_end := goodIn_r _ [284, 7, 9, 285, 286, 287, 13, 288, 18, 21, 67, 180, 15, 271, 20, 124, 23, 289, 290, 291, 34, 292, 37, 38, 293, 294, 278, 295, 246, 247, 248, 249, 163, 164, 165, 42, 166, 46, 45, 305, 306, 307, 308, 309, 310, 311, 312, 313, 314, 315, 316, 317, 318, 324, 325, 326, 327, 328, 329, 330, 331, 332, 321, 322, 323] rfl (by decide +kernel)
set_option maxRecDepth 20000 in
theorem gL_kept_X6_end : GoodIn wsL_kept (wsV RL 107 RX6 yX6_end wsX6_end) := goodIn_app (goodIn_of _ (by decide +kernel)) ggL_kept_X6_end
set_option maxRecDepth 20000 in
theorem ggL_kept_L_up : GoodIn wsL_kept wsL_up := goodIn_r _ [299, 300] rfl (by decide +kernel)
set_option maxRecDepth 20000 in
theorem gL_kept_L_up : GoodIn wsL_kept (va_wsS RL 22 yL_up wsL_up) := goodIn_app (goodIn_of _ (by decide +kernel)) ggL_kept_L_up
set_option maxRecDepth 20000 in
theorem ggL_kept_X6_restore : GoodIn wsL_kept wsX6_restore := goodIn_r _ [304, 8, 7, 6, 9, 10, 11, 12, 13, 14, 15, 16, 17, 18, 19, 20, 21, 22, 23, 24, 25, 26, 27, 28, 29, 30, 31, 32, 33, 34, 35, 36, 37, 38, 39, 40, 41, 42, 43, 44, 45, 46, 47, 48, 49, 50, 51, 52, 305, 306, 307, 308, 309, 310, 311, 312, 313, 314, 315, 316, 317, 318, 319, 320, 321, 322, 323, 324, 325, 326, 327, 328, 329, 330, 331, 332] rfl (by decide +kernel)
set_option maxRecDepth 20000 in
theorem gL_kept_X6_restore : GoodIn wsL_kept (wsV RL 117 RX6 yX6_restore wsX6_restore) := goodIn_app (goodIn_of _ (by decide +kernel)) ggL_kept_X6_restore
theorem dL_kept_0 : decode cL_kept 0 = .ok (.aload_n 0, 1) := by decide +kernel
theorem dL_kept_1 : decode cL_kept 1 = .ok (.iconst 1, 1) := by decide +kernel
theorem dL_kept_2 : decode cL_kept 2 = .ok (.invokevirtual 113, 3) := by decide +kernel
theorem dL_kept_5 : decode cL_kept 5 = .ok (.istore_n 2, 1) := by decide +kernel
theorem dL_kept_6 : decode cL_kept 6 = .ok (.aload_n 0, 1) := by decide +kernel
theorem dL_kept_7 : decode cL_kept 7 = .ok (.iconst 3, 1) := by decide +kernel
theorem dL_kept_8 : decode cL_kept 8 = .ok (.invokevirtual 57, 3) := by decide +kernel
theorem dL_kept_11 : decode cL_kept 11 = .ok (.istore_n 3, 1) := by decide +kernel
theorem dL_kept_12 : decode cL_kept 12 = .ok (.aload_n 0, 1) := by decide +kernel
theorem dL_kept_13 : decode cL_kept 13 = .ok (.bipush 11, 2) := by decide +kernel
theorem dL_kept_15 : decode cL_kept 15 = .ok (.invokevirtual 57, 3) := by decide +kernel
theorem dL_kept_18 : decode cL_kept 18 = .ok (.istore 4, 2) := by decide +kernel
theorem dL_kept_20 : decode cL_kept 20 = .ok (.aload_n 0, 1) := by decide +kernel
theorem dL_kept_21 : decode cL_kept 21 = .ok (.bipush 13, 2) := by decide +kernel
theorem dL_kept_23 : decode cL_kept 23 = .ok (.invokevirtual 57, 3) := by decide +kernel
theorem dL_kept_26 : decode cL_kept 26 = .ok (.istore 5, 2) := by decide +kernel
theorem dL_kept_28 : decode cL_kept 28 = .ok (.aload_n 0, 1) := by decide +kernel
theorem dL_kept_29 : decode cL_kept 29 = .ok (.iconst 0, 1) := by decide +kernel
theorem dL_kept_30 : decode cL_kept 30 = .ok (.iconst 0, 1) := by decide +kernel
theorem dL_kept_31 : decode cL_kept 31 = .ok (.invokevirtual 65, 3) := by decide +kernel
theorem dL_kept_34 : decode cL_kept 34 = .ok (.istore 6, 2) := by decide +kernel
theorem dL_kept_36 : decode cL_kept 36 = .ok (.iload_n 3, 1) := by decide +kernel
theorem dL_kept_37 : decode cL_kept 37 = .ok (.ifCond .ne 7, 3) := by decide +kernel
theorem dL_kept_40 : decode cL_kept 40 = .ok (.iconst 0, 1) := by decide +kernel
theorem dL_kept_41 : decode cL_kept 41 = .ok (.goto 9, 3) := by decide +kernel
theorem dL_kept_44 : decode cL_kept 44 = .ok (.aload_n 0, 1) := by decide +kernel
theorem dL_kept_45 : decode cL_kept 45 = .ok (.iconst 0, 1) := by decide +kernel
theorem dL_kept_46 : decode cL_kept 46 = .ok (.iconst 4, 1) := by decide +kernel
theorem dL_kept_47 : decode cL_kept 47 = .ok (.invokevirtual 68, 3) := by decide +kernel
theorem dL_kept_50 : decode cL_kept 50 = .ok (.istore 7, 2) := by decide +kernel
theorem dL_kept_52 : decode cL_kept 52 = .ok (.aload_n 0, 1) := by decide +kernel
theorem dL_kept_53 : decode cL_kept 53 = .ok (.iconst 0, 1) := by decide +kernel
theorem dL_kept_54 : decode cL_kept 54 = .ok (.sipush 1000, 3) := by decide +kernel
theorem dL_kept_57 : decode cL_kept 57 = .ok (.invokevirtual 33, 3) := by decide +kernel
theorem dL_kept_60 : decode cL_kept 60 = .ok (.pop, 1) := by decide +kernel
theorem dL_kept_61 : decode cL_kept 61 = .ok (.aload_n 0, 1) := by decide +kernel
theorem dL_kept_62 : decode cL_kept 62 = .ok (.iconst 0, 1) := by decide +kernel
theorem dL_kept_63 : decode cL_kept 63 = .ok (.iconst 0, 1) := by decide +kernel
theorem dL_kept_64 : decode cL_kept 64 = .ok (.invokevirtual 143, 3) := by decide +kernel
theorem dL_kept_67 : decode cL_kept 67 = .ok (.pop, 1) := by decide +kernel
theorem dL_kept_68 : decode cL_kept 68 = .ok (.aload_n 0, 1) := by decide +kernel
theorem dL_kept_69 : decode cL_kept 69 = .ok (.iconst 0, 1) := by decide +kernel
theorem dL_kept_70 : decode cL_kept 70 = .ok (.iconst 0, 1) := by decide +kernel
theorem dL_kept_71 : decode cL_kept 71 = .ok (.iload_n 2, 1) := by decide +kernel
theorem dL_kept_72 : decode cL_kept 72 = .ok (.iconst 1, 1) := by decide +kernel
theorem dL_kept_73 : decode cL_kept 73 = .ok (.invokevirtual 61, 3) := by decide +kernel
theorem dL_kept_76 : decode cL_kept 76 = .ok (.pop, 1) := by decide +kernel
theorem dL_kept_77 : decode cL_kept 77 = .ok (.aload_n 0, 1) := by decide +kernel
theorem dL_kept_78 : decode cL_kept 78 = .ok (.iconst 0, 1) := by decide +kernel
theorem dL_kept_79 : decode cL_kept 79 = .ok (.iload_n 2, 1) := by decide +kernel
theorem dL_kept_80 : decode cL_kept 80 = .ok (.invokevirtual 97, 3) := by decide +kernel
theorem dL_kept_83 : decode cL_kept 83 = .ok (.pop, 1) := by decide +kernel
theorem dL_kept_84 : decode cL_kept 84 = .ok (.aload_n 0, 1) := by decide +kernel
theorem dL_kept_85 : decode cL_kept 85 = .ok (.iload_n 2, 1) := by decide +kernel
theorem dL_kept_86 : decode cL_kept 86 = .ok (.iconst 1, 1) := by decide +kernel
theorem dL_kept_87 : decode cL_kept 87 = .ok (.iadd, 1) := by decide +kernel
theorem dL_kept_88 : decode cL_kept 88 = .ok (.bipush 59, 2) := by decide +kernel
theorem dL_kept_90 : decode cL_kept 90 = .ok (.if_icmp .le 8, 3) := by decide +kernel
theorem dL_kept_93 : decode cL_kept 93 = .ok (.bipush 59, 2) := by decide +kernel
theorem dL_kept_95 : decode cL_kept 95 = .ok (.goto 6, 3) := by decide +kernel
theorem dL_kept_98 : decode cL_kept 98 = .ok (.iload_n 2, 1) := by decide +kernel
theorem dL_kept_99 : decode cL_kept 99 = .ok (.iconst 1, 1) := by decide +kernel
theorem dL_kept_100 : decode cL_kept 100 = .ok (.iadd, 1) := by decide +kernel
theorem dL_kept_101 : decode cL_kept 101 = .ok (.invokevirtual 101, 3) := by decide +kernel
theorem dL_kept_104 : decode cL_kept 104 = .ok (.pop, 1) := by decide +kernel
theorem dL_kept_105 : decode cL_kept 105 = .ok (.aload_n 0, 1) := by decide +kernel
theorem dL_kept_106 : decode cL_kept 106 = .ok (.invokevirtual 107, 3) := by decide +kernel
theorem dL_kept_109 : decode cL_kept 109 = .ok (.pop, 1) := by decide +kernel
theorem dL_kept_110 : decode cL_kept 110 = .ok (.aload_n 0, 1) := by decide +kernel
theorem dL_kept_111 : decode cL_kept 111 = .ok (.iconst 1, 1) := by decide +kernel
theorem dL_kept_112 : decode cL_kept 112 = .ok (.iconst 0, 1) := by decide +kernel
theorem dL_kept_113 : decode cL_kept 113 = .ok (.bipush 59, 2) := by decide +kernel
theorem dL_kept_115 : decode cL_kept 115 = .ok (.iconst 1, 1) := by decide +kernel
theorem dL_kept_116 : decode cL_kept 116 = .ok (.iload_n 1, 1) := by decide +kernel
theorem dL_kept_117 : decode cL_kept 117 = .ok (.iconst 4, 1) := by decide +kernel
theorem dL_kept_118 : decode cL_kept 118 = .ok (.invokestatic 22, 3) := by decide +kernel
theorem dL_kept_121 : decode cL_kept 121 = .ok (.iadd, 1) := by decide +kernel
theorem dL_kept_122 : decode cL_kept 122 = .ok (.invokevirtual 61, 3) := by decide +kernel
theorem dL_kept_125 : decode cL_kept 125 = .ok (.pop, 1) := by decide +kernel
theorem dL_kept_126 : decode cL_kept 126 = .ok (.aload_n 0, 1) := by decide +kernel
theorem dL_kept_127 : decode cL_kept 127 = .ok (.iconst 0, 1) := by decide +kernel
theorem dL_kept_128 : decode cL_kept 128 = .ok (.bipush 59, 2) := by decide +kernel
theorem dL_kept_130 : decode cL_kept 130 = .ok (.invokevirtual 97, 3) := by decide +kernel
theorem dL_kept_133 : decode cL_kept 133 = .ok (.pop, 1) := by decide +kernel
theorem dL_kept_134 : decode cL_kept 134 = .ok (.aload_n 0, 1) := by decide +kernel
theorem dL_kept_135 : decode cL_kept 135 = .ok (.iconst 1, 1) := by decide +kernel
theorem dL_kept_136 : decode cL_kept 136 = .ok (.invokevirtual 117, 3) := by decide +kernel
theorem dL_kept_139 : decode cL_kept 139 = .ok (.iload_n 2, 1) := by decide +kernel
theorem dL_kept_140 : decode cL_kept 140 = .ok (.if_icmp .ne 73, 3) := by decide +kernel
theorem dL_kept_143 : decode cL_kept 143 = .ok (.aload_n 0, 1) := by decide +kernel
theorem dL_kept_144 : decode cL_kept 144 = .ok (.iconst 0, 1) := by decide +kernel
theorem dL_kept_145 : decode cL_kept 145 = .ok (.invokevirtual 57, 3) := by decide +kernel
theorem dL_kept_148 : decode cL_kept 148 = .ok (.iload_n 2, 1) := by decide +kernel
theorem dL_kept_149 : decode cL_kept 149 = .ok (.if_icmp .ne 64, 3) := by decide +kernel
theorem dL_kept_152 : decode cL_kept 152 = .ok (.aload_n 0, 1) := by decide +kernel
theorem dL_kept_153 : decode cL_kept 153 = .ok (.iconst 3, 1) := by decide +kernel
theorem dL_kept_154 : decode cL_kept 154 = .ok (.invokevirtual 57, 3) := by decide +kernel
theorem dL_kept_157 : decode cL_kept 157 = .ok (.iload_n 3, 1) := by decide +kernel
theorem dL_kept_158 : decode cL_kept 158 = .ok (.if_icmp .ne 55, 3) := by decide +kernel
theorem dL_kept_161 : decode cL_kept 161 = .ok (.aload_n 0, 1) := by decide +kernel
theorem dL_kept_162 : decode cL_kept 162 = .ok (.bipush 11, 2) := by decide +kernel
theorem dL_kept_164 : decode cL_kept 164 = .ok (.invokevirtual 57, 3) := by decide +kernel
theorem dL_kept_167 : decode cL_kept 167 = .ok (.iload 4, 2) := by decide +kernel
theorem dL_kept_169 : decode cL_kept 169 = .ok (.if_icmp .ne 44, 3) := by decide +kernel
theorem dL_kept_172 : decode cL_kept 172 = .ok (.aload_n 0, 1) := by decide +kernel
theorem dL_kept_173 : decode cL_kept 173 = .ok (.bipush 13, 2) := by decide +kernel
theorem dL_kept_175 : decode cL_kept 175 = .ok (.invokevirtual 57, 3) := by decide +kernel
theorem dL_kept_178 : decode cL_kept 178 = .ok (.iload 5, 2) := by decide +kernel
theorem dL_kept_180 : decode cL_kept 180 = .ok (.if_icmp .ne 33, 3) := by decide +kernel
theorem dL_kept_183 : decode cL_kept 183 = .ok (.aload_n 0, 1) := by decide +kernel
theorem dL_kept_184 : decode cL_kept 184 = .ok (.iconst 0, 1) := by decide +kernel
theorem dL_kept_185 : decode cL_kept 185 = .ok (.iconst 0, 1) := by decide +kernel
theorem dL_kept_186 : decode cL_kept 186 = .ok (.invokevirtual 65, 3) := by decide +kernel
theorem dL_kept_189 : decode cL_kept 189 = .ok (.iload 6, 2) := by decide +kernel
theorem dL_kept_191 : decode cL_kept 191 = .ok (.if_icmp .ne 22, 3) := by decide +kernel
theorem dL_kept_194 : decode cL_kept 194 = .ok (.iload_n 3, 1) := by decide +kernel
theorem dL_kept_195 : decode cL_kept 195 = .ok (.ifCond .eq 14, 3) := by decide +kernel
theorem dL_kept_198 : decode cL_kept 198 = .ok (.aload_n 0, 1) := by decide +kernel
theorem dL_kept_199 : decode cL_kept 199 = .ok (.iconst 0, 1) := by decide +kernel
theorem dL_kept_200 : decode cL_kept 200 = .ok (.iconst 4, 1) := by decide +kernel
theorem dL_kept_201 : decode cL_kept 201 = .ok (.invokevirtual 68, 3) := by decide +kernel
theorem dL_kept_204 : decode cL_kept 204 = .ok (.iload 7, 2) := by decide +kernel
theorem dL_kept_206 : decode cL_kept 206 = .ok (.if_icmp .ne 7, 3) := by decide +kernel
theorem dL_kept_209 : decode cL_kept 209 = .ok (.iconst 1, 1) := by decide +kernel
theorem dL_kept_210 : decode cL_kept 210 = .ok (.goto 4, 3) := by decide +kernel
theorem dL_kept_213 : decode cL_kept 213 = .ok (.iconst 0, 1) := by decide +kernel
theorem dL_kept_214 : decode cL_kept 214 = .ok (.ireturn, 1) := by decide +kernel
set_option maxRecDepth 20000 in
theorem ggL_refused_L_up : GoodIn wsL_refused wsL_up := goodIn_r _ [6, 7] rfl (by decide +kernel)
set_option maxRecDepth 20000 in
theorem gL_refused_L_up : GoodIn wsL_refused (va_wsS RL 22 yL_up wsL_up) := goodIn_app (goodIn_of _ (by decide +kernel)) ggL_refused_L_up
set_option maxRecDepth 20000 in
theorem ggL_refused_X6_route : GoodIn wsL_refused wsX6_route := goodIn_r _ [12, 13, 14, 15, 16, 17, 18, 19, 20, 21, 22, 23, 400, 401, 402, 403, 404, 405, 406, 407, 408, 409, 410, 411, 412, 413, 414, 415] rfl (by decide +kernel)
set_option maxRecDepth 20000 in
theorem gL_refused_X6_route : GoodIn wsL_refused (wsV RL 26 RX6 yX6_route wsX6_route) := goodIn_app (goodIn_of _ (by decide +kernel)) ggL_refused_X6_route
set_option maxRecDepth 20000 in
theorem ggL_refused_X6_buffer : GoodIn wsL_refused wsX6_buffer := goodIn_r _ [27, 13, 28, 29, 30, 31, 32, 33, 18, 34, 21, 400, 401, 402, 403, 404, 405, 406, 407, 408, 409, 410, 411, 412, 413, 414, 415] rfl (by decide +kernel)
set_option maxRecDepth 20000 in
theorem gL_refused_X6_buffer : GoodIn wsL_refused (wsV RL 143 RX6 yX6_buffer wsX6_buffer) := goodIn_app (goodIn_of _ (by decide +kernel)) ggL_refused_X6_buffer
set_option maxRecDepth 20000 in
theorem ggL_refused_X6_set : GoodIn wsL_refused wsX6_set := goodIn_r _ [38, 39, 40, 41, 13, 42, 400, 401, 402, 403, 404, 405, 406, 407, 408, 409, 410, 411, 412, 413] rfl (by decide +kernel)
set_option maxRecDepth 20000 in
theorem gL_refused_X6_set : GoodIn wsL_refused (wsV RL 33 RX6 yX6_set wsX6_set) := goodIn_app (goodIn_of _ (by decide +kernel)) ggL_refused_X6_set
set_option maxRecDepth 20000 in
theorem ggL_refused_X6_apply : GoodIn wsL_refused wsX6_apply := goodIn_r _ [46, 13, 47, 48, 49, 50, 51, 18, 52, 53, 54, 55, 56, 57, 58, 32, 33, 34, 21, 59, 11, 60, 61, 62, 63, 64, 65, 66, 67, 68, 69, 70, 71, 72, 73, 74, 75, 76, 77, 78, 79, 80, 81, 82, 83, 84, 85, 86, 87, 88, 89, 90, 91, 92, 93, 94, 95, 96, 97, 98, 99, 100, 101, 102, 103, 104, 400, 401, 402, 403, 404, 405, 406, 407, 408, 409, 410, 411, 412, 413, 416, 417, 418, 419, 420, 421, 422, 423, 424, 425, 426, 427] rfl (by decide +kernel)
set_option maxRecDepth 20000 in
theorem gL_refused_X6_apply : GoodIn wsL_refused (wsV RL 61 RX6 yX6_apply wsX6_apply) := goodIn_app (goodIn_of _ (by decide +kernel)) ggL_refused_X6_apply
set_option maxRecDepth 20000 in
theorem ggL_refused_X6_lottery : GoodIn wsL_refused wsX6_lottery := goodIn_r _ [108, 13, 109, 42, 54, 55, 56, 18, 57, 58, 32, 33, 34, 21, 59, 11, 60, 61, 62, 63, 64, 65, 66, 110, 111, 112, 113, 71, 72, 114, 79, 80, 81, 76, 82, 83, 84, 115, 116, 117, 118, 119, 120, 121, 122, 123, 124, 125, 126, 127, 128, 129, 130, 131, 132, 133, 134, 100, 102, 135, 91, 92, 93, 94, 95, 136, 137, 138, 139, 140, 141, 142, 143, 144, 145, 20, 23, 146, 147, 148, 149, 22, 150, 151, 152, 153, 104, 154, 155, 156, 157, 89, 158, 159, 160, 161, 162, 163, 164, 165, 166, 167, 168, 169, 170, 171, 172, 173, 174, 175, 176, 177, 178, 179, 180, 181, 182, 183, 184, 185, 186, 187, 188, 400, 401, 402, 403, 404, 405, 406, 407, 408, 409, 410, 411, 412, 413, 416, 417, 418, 419, 420, 421, 422, 423, 424, 428, 429, 430, 431, 432, 433, 434, 425, 426, 427, 414, 415] rfl (by decide +kernel)
set_option maxRecDepth 20000 in
theorem gL_refused_X6_lottery : GoodIn wsL_refused (wsV RL 97 RX6 yX6_lottery wsX6_lottery) := goodIn_app (goodIn_of _ (by decide +kernel)) ggL_refused_X6_lottery
set_option maxRecDepth 20000 in
theorem ggL_refused_X6_cancel : GoodIn wsL_refused wsX6_cancel := goodIn_r _ [192, 13, 193, 194, 195, 196, 197, 198, 199, 200, 18, 201, 71, 202, 86, 87, 76, 88, 89, 203, 204, 205, 206, 102, 65, 188, 207, 208, 209, 210, 72, 134, 100, 141, 211, 62, 63, 64, 66, 59, 11, 60, 212, 143, 144, 145, 20, 23, 146, 147, 148, 149, 22, 150, 151, 152, 153, 104, 154, 155, 156, 157, 79, 80, 81, 82, 83, 84, 213, 214, 215, 216, 114, 217, 131, 132, 133, 135, 91, 92, 93, 94, 95, 218, 185, 186, 187, 140, 400, 401, 402, 403, 404, 405, 406, 407, 408, 409, 410, 411, 412, 413, 416, 417, 418, 419, 420, 421, 422, 423, 424, 425, 426, 427, 414, 415] rfl (by decide +kernel)
set_option maxRecDepth 20000 in
theorem gL_refused_X6_cancel : GoodIn wsL_refused (wsV RL 75 RX6 yX6_cancel wsX6_cancel) := goodIn_app (goodIn_of _ (by decide +kernel)) ggL_refused_X6_cancel
set_option maxRecDepth 20000 in
theorem ggL_refused_X6_close : GoodIn wsL_refused wsX6_close := goodIn_r _ [222, 13, 223, 224, 59, 11, 60, 61, 62, 63, 18, 64, 65, 66, 225, 226, 227, 228, 71, 72, 114, 102, 188, 229, 134, 100, 141, 230, 231, 232, 233, 234, 140, 235, 236, 237, 238, 104, 101, 211, 146, 147, 148, 149, 20, 22, 150, 151, 152, 153, 154, 155, 156, 76, 157, 89, 79, 80, 81, 82, 83, 84, 173, 174, 175, 176, 400, 401, 402, 403, 404, 405, 406, 407, 408, 409, 410, 411, 412, 413, 416, 417, 418, 419, 420, 421, 422, 423, 424, 425, 426, 427, 414, 415] rfl (by decide +kernel)
set_option maxRecDepth 20000 in
theorem gL_refused_X6_close : GoodIn wsL_refused (wsV RL 101 RX6 yX6_close wsX6_close) := goodIn_app (goodIn_of _ (by decide +kernel)) ggL_refused_X6_close
set_option maxRecDepth 20000 in
theorem ggL_refused_X6_standby : GoodIn wsL_refused wsX6_standby := goodIn_r _ [242, 13, 193, 194, 197, 243, 244, 196, 245, 198, 199, 200, 18, 201, 71, 61, 62, 63, 64, 65, 66, 59, 11, 60, 246, 131, 132, 133, 134, 100, 102, 135, 91, 92, 93, 94, 95, 247, 147, 148, 149, 20, 22, 150, 151, 152, 153, 72, 104, 154, 155, 156, 76, 157, 89, 79, 80, 81, 82, 83, 84, 248, 185, 186, 187, 114, 140, 188, 400, 401, 402, 403, 404, 405, 406, 407, 408, 409, 410, 411, 412, 413, 416, 417, 418, 419, 420, 421, 422, 423, 424, 425, 426, 427, 414, 415] rfl (by decide +kernel)
set_option maxRecDepth 20000 in
theorem gL_refused_X6_standby : GoodIn wsL_refused (wsV RL 146 RX6 yX6_standby wsX6_standby) := goodIn_app (goodIn_of _ (by decide +kernel)) ggL_refused_X6_standby
set_option maxRecDepth 20000 in
theorem ggL_refused_X6_show : GoodIn wsL_refused wsX6_show := goodIn_r _ [252, 13, 193, 194, 197, 243, 253, 198, 199, 200, 18, 201, 71, 400, 401, 402, 403, 404, 405, 406, 407, 408, 409, 410, 411, 412, 413, 416, 417, 418, 419, 420, 421, 422, 423, 424] rfl (by decide +kernel)
set_option maxRecDepth 20000 in
theorem gL_refused_X6_show : GoodIn wsL_refused (wsV RL 84 RX6 yX6_show wsX6_show) := goodIn_app (goodIn_of _ (by decide +kernel)) ggL_refused_X6_show
set_option maxRecDepth 20000 in
theorem ggL_refused_X6_onRoute : GoodIn wsL_refused wsX6_onRoute := goodIn_r _ [257, 13, 28, 29, 30, 258, 259, 237, 260, 54, 55, 56, 18, 57, 58, 32, 33, 34, 21, 59, 11, 60, 261, 151, 152, 153, 71, 72, 104, 154, 155, 156, 76, 157, 89, 79, 80, 81, 82, 83, 84, 142, 143, 144, 145, 20, 23, 146, 147, 148, 149, 22, 150, 110, 111, 112, 113, 114, 400, 401, 402, 403, 404, 405, 406, 407, 408, 409, 410, 411, 412, 413, 414, 415, 416, 417, 418, 419, 420, 421, 422, 423, 424] rfl (by decide +kernel)
set_option maxRecDepth 20000 in
theorem gL_refused_X6_onRoute : GoodIn wsL_refused (wsV RL 93 RX6 yX6_onRoute wsX6_onRoute) := goodIn_app (goodIn_of _ (by decide +kernel)) ggL_refused_X6_onRoute
set_option maxRecDepth 20000 in
theorem ggL_refused_X6_climber : GoodIn wsL_refused wsX6_climber := goodIn_r _ [265, 13, 47, 266, 267, 268, 49, 50, 51, 18, 52, 53, 269, 270, 271, 272, 71, 72, 114, 73, 74, 75, 76, 77, 78, 273, 274, 275, 276, 188, 277, 278, 279, 280, 229, 281, 282, 283, 284, 400, 401, 402, 403, 404, 405, 406, 407, 408, 409, 410, 411, 412, 413, 425, 426, 427, 416, 417, 418, 419, 420, 421, 422, 423, 424] rfl (by decide +kernel)
set_option maxRecDepth 20000 in
theorem gL_refused_X6_climber : GoodIn wsL_refused (wsV RL 65 RX6 yX6_climber wsX6_climber) := goodIn_app (goodIn_of _ (by decide +kernel)) ggL_refused_X6_climber
set_option maxRecDepth 20000 in
theorem ggL_refused_X6_application : GoodIn wsL_refused wsX6_application := goodIn_r _ [288, 13, 193, 289, 196, 197, 244, 194, 245, 195, 253, 290, 198, 199, 200, 18, 201, 71, 291, 137, 138, 139, 140, 134, 100, 141, 400, 401, 402, 403, 404, 405, 406, 407, 408, 409, 410, 411, 412, 413, 416, 417, 418, 419, 420, 421, 422, 423, 424, 425, 426, 427] rfl (by decide +kernel)
set_option maxRecDepth 20000 in
theorem gL_refused_X6_application : GoodIn wsL_refused (wsV RL 68 RX6 yX6_application wsX6_application) := goodIn_app (goodIn_of _ (by decide +kernel)) ggL_refused_X6_application
set_option maxRecDepth 20000 in
theorem ggL_refused_X6_count : GoodIn wsL_refused wsX6_count := goodIn_r _ [295, 13, 42, 243, 14, 296, 48, 297, 298, 269, 270, 271, 18, 272, 71, 72, 114, 73, 74, 75, 76, 77, 78, 273, 274, 275, 276, 188, 277, 278, 279, 280, 229, 299, 300, 301, 302, 66, 400, 401, 402, 403, 404, 405, 406, 407, 408, 409, 410, 411, 412, 413, 435, 436, 437, 438, 439, 440, 441, 416, 417, 418, 419, 420, 421, 422, 423, 424] rfl (by decide +kernel)
set_option maxRecDepth 20000 in
theorem gL_refused_X6_count : GoodIn wsL_refused (wsV RL 57 RX6 yX6_count wsX6_count) := goodIn_app (goodIn_of _ (by decide +kernel)) ggL_refused_X6_count
set_option maxRecDepth 20000 in
theorem ggL_refused_X6_nextWaiting : GoodIn wsL_refused wsX6_nextWaiting := goodIn_r _ [306, 13, 54, 55, 56, 18, 57, 58, 32, 33, 34, 21, 59, 11, 60, 61, 62, 63, 64, 65, 66, 142, 143, 144, 145, 20, 23, 146, 147, 148, 149, 22, 150, 151, 152, 153, 71, 72, 104, 154, 155, 156, 76, 157, 89, 79, 80, 81, 82, 83, 84, 307, 214, 215, 216, 114, 134, 100, 141, 217, 131, 132, 133, 102, 135, 91, 92, 93, 94, 95, 400, 401, 402, 403, 404, 405, 406, 407, 408, 409, 410, 411, 412, 413, 414, 415, 416, 417, 418, 419, 420, 421, 422, 423, 424, 425, 426, 427] rfl (by decide +kernel)
set_option maxRecDepth 20000 in
theorem gL_refused_X6_nextWaiting : GoodIn wsL_refused (wsV RL 104 RX6 yX6_nextWaiting wsX6_nextWaiting) := goodIn_app (goodIn_of _ (by decide +kernel)) ggL_refused_X6_nextWaiting
set_option maxRecDepth 20000 in
theorem ggL_refused_X6_odds : GoodIn wsL_refused wsX6_odds := goodIn_r _ [311, 13, 193, 109, 196, 197, 312, 313, 314, 198, 199, 200, 18, 201, 71, 115, 116, 117, 118, 119, 120, 121, 122, 123, 124, 125, 126, 127, 128, 129, 80, 81, 76, 82, 83, 84, 130, 131, 132, 133, 134, 100, 102, 135, 91, 92, 93, 94, 95, 136, 137, 138, 139, 140, 141, 315, 316, 317, 318, 400, 401, 402, 403, 404, 405, 406, 407, 408, 409, 410, 411, 412, 413, 416, 417, 418, 419, 420, 421, 422, 423, 424, 428, 429, 430, 431, 432, 433, 434, 425, 426, 427] rfl (by decide +kernel)
set_option maxRecDepth 20000 in
theorem gL_refused_X6_odds : GoodIn wsL_refused (wsV RL 90 RX6 yX6_odds wsX6_odds) := goodIn_app (goodIn_of _ (by decide +kernel)) ggL_refused_X6_odds
set_option maxRecDepth 20000 in
theorem ggL_refused_X6_tries : GoodIn wsL_refused wsX6_tries := goodIn_r _ [322, 13, 193, 194, 197, 109, 196, 42, 323, 198, 199, 200, 18, 201, 71, 61, 62, 63, 64, 65, 66, 59, 11, 60, 115, 116, 117, 118, 119, 120, 121, 122, 123, 124, 125, 126, 127, 128, 129, 80, 81, 76, 82, 83, 84, 130, 131, 132, 133, 134, 100, 102, 135, 91, 92, 93, 94, 95, 136, 137, 138, 139, 140, 141, 315, 316, 317, 318, 142, 143, 144, 145, 20, 23, 146, 147, 148, 149, 22, 150, 151, 152, 153, 72, 104, 154, 155, 156, 157, 89, 79, 158, 159, 160, 161, 162, 163, 164, 165, 166, 167, 168, 169, 170, 171, 172, 400, 401, 402, 403, 404, 405, 406, 407, 408, 409, 410, 411, 412, 413, 416, 417, 418, 419, 420, 421, 422, 423, 424, 428, 429, 430, 431, 432, 433, 434, 425, 426, 427, 414, 415] rfl (by decide +kernel)
set_option maxRecDepth 20000 in
theorem gL_refused_X6_tries : GoodIn wsL_refused (wsV RL 110 RX6 yX6_tries wsX6_tries) := goodIn_app (goodIn_of _ (by decide +kernel)) ggL_refused_X6_tries
set_option maxRecDepth 20000 in
theorem ggL_refused_X6_load : GoodIn wsL_refused wsX6_load := goodIn_r _ [327, 297, 328, 298, 329, 330, 331, 332, 333, 334, 335, 336, 337, 338, 339, 340, 341, 342, 343, 344, 345, 346, 347, 348, 349, 350, 351, 352, 353, 354, 355, 356, 357, 358, 359, 360, 361, 362, 44, 45, 11, 46, 13, 47, 48, 49, 50, 51, 18, 52, 53, 54, 55, 56, 57, 58, 32, 33, 34, 21, 59, 60, 61, 62, 63, 64, 65, 66, 67, 68, 69, 70, 71, 72, 73, 74, 75, 76, 77, 78, 79, 80, 81, 82, 83, 84, 85, 86, 87, 88, 89, 90, 91, 92, 93, 94, 95, 96, 97, 98, 99, 100, 101, 102, 103, 104, 363, 400, 401, 402, 403, 404, 435, 436, 437, 438, 439, 440, 441, 405, 406, 407, 408, 409, 410, 411, 412, 413, 416, 417, 418, 419, 420, 421, 422, 423, 424, 425, 426, 427] rfl (by decide +kernel)
set_option maxRecDepth 20000 in
theorem gL_refused_X6_load : GoodIn wsL_refused (wsV RL 140 RX6 yX6_load wsX6_load) := goodIn_app (goodIn_of _ (by decide +kernel)) ggL_refused_X6_load
set_option maxRecDepth 20000 in
theorem ggL_refused_X6_save : GoodIn wsL_refused wsX6_save := goodIn_r _ [367, 368, 13, 369, 243, 370, 371, 372, 18, 373, 65, 21, 53, 71, 20, 134, 72, 66, 140, 374, 375, 376, 377, 378, 379, 380, 381, 382, 383, 93, 384, 385, 386, 95, 387, 388, 389, 76, 390, 78, 84, 83, 391, 392, 89, 393, 394, 395, 400, 401, 402, 403, 404, 405, 406, 407, 408, 409, 410, 411, 412, 413, 414, 415, 425, 426, 427, 416, 417, 418, 419, 420, 421, 422, 423, 424] rfl (by decide +kernel)
set_option maxRecDepth 20000 in
theorem gL_refused_X6_save : GoodIn wsL_refused (wsV RL 113 RX6 yX6_save wsX6_save) := goodIn_app (goodIn_of _ (by decide +kernel)) ggL_refused_X6_save
set_option maxRecDepth 20000 in
theorem ggL_refused_X6_restore : GoodIn wsL_refused wsX6_restore := goodIn_r _ [399, 369, 13, 368, 243, 370, 371, 372, 18, 373, 65, 21, 53, 71, 20, 134, 72, 66, 140, 374, 375, 376, 377, 378, 379, 380, 381, 382, 383, 93, 384, 385, 386, 95, 387, 388, 389, 76, 390, 78, 84, 83, 391, 392, 89, 393, 394, 395, 400, 401, 402, 403, 404, 405, 406, 407, 408, 409, 410, 411, 412, 413, 414, 415, 425, 426, 427, 416, 417, 418, 419, 420, 421, 422, 423, 424] rfl (by decide +kernel)
set_option maxRecDepth 20000 in
theorem gL_refused_X6_restore : GoodIn wsL_refused (wsV RL 117 RX6 yX6_restore wsX6_restore) := goodIn_app (goodIn_of _ (by decide +kernel)) ggL_refused_X6_restore
theorem dL_refused_0 : decode cL_refused 0 = .ok (.iload_n 1, 1) := by decide +kernel
theorem dL_refused_1 : decode cL_refused 1 = .ok (.ifCond .ge 14, 3) := by decide +kernel
theorem dL_refused_4 : decode cL_refused 4 = .ok (.iconst (-1), 1) := by decide +kernel
theorem dL_refused_5 : decode cL_refused 5 = .ok (.iload_n 1, 1) := by decide +kernel
theorem dL_refused_6 : decode cL_refused 6 = .ok (.ldc 100, 2) := by decide +kernel
theorem dL_refused_8 : decode cL_refused 8 = .ok (.invokestatic 22, 3) := by decide +kernel
theorem dL_refused_11 : decode cL_refused 11 = .ok (.isub, 1) := by decide +kernel
theorem dL_refused_12 : decode cL_refused 12 = .ok (.goto 10, 3) := by decide +kernel
theorem dL_refused_15 : decode cL_refused 15 = .ok (.iload_n 1, 1) := by decide +kernel
theorem dL_refused_16 : decode cL_refused 16 = .ok (.ldc 100, 2) := by decide +kernel
theorem dL_refused_18 : decode cL_refused 18 = .ok (.irem, 1) := by decide +kernel
theorem dL_refused_19 : decode cL_refused 19 = .ok (.ldc 36, 2) := by decide +kernel
theorem dL_refused_21 : decode cL_refused 21 = .ok (.iadd, 1) := by decide +kernel
theorem dL_refused_22 : decode cL_refused 22 = .ok (.istore_n 2, 1) := by decide +kernel
theorem dL_refused_23 : decode cL_refused 23 = .ok (.aload_n 0, 1) := by decide +kernel
theorem dL_refused_24 : decode cL_refused 24 = .ok (.iload_n 2, 1) := by decide +kernel
theorem dL_refused_25 : decode cL_refused 25 = .ok (.iconst 0, 1) := by decide +kernel
theorem dL_refused_26 : decode cL_refused 26 = .ok (.invokevirtual 26, 3) := by decide +kernel
theorem dL_refused_29 : decode cL_refused 29 = .ok (.bipush (-2), 2) := by decide +kernel
theorem dL_refused_31 : decode cL_refused 31 = .ok (.if_icmp .ne 226, 3) := by decide +kernel
theorem dL_refused_34 : decode cL_refused 34 = .ok (.aload_n 0, 1) := by decide +kernel
theorem dL_refused_35 : decode cL_refused 35 = .ok (.iconst 1, 1) := by decide +kernel
theorem dL_refused_36 : decode cL_refused 36 = .ok (.iload_n 2, 1) := by decide +kernel
theorem dL_refused_37 : decode cL_refused 37 = .ok (.invokevirtual 26, 3) := by decide +kernel
theorem dL_refused_40 : decode cL_refused 40 = .ok (.bipush (-2), 2) := by decide +kernel
theorem dL_refused_42 : decode cL_refused 42 = .ok (.if_icmp .ne 215, 3) := by decide +kernel
theorem dL_refused_45 : decode cL_refused 45 = .ok (.aload_n 0, 1) := by decide +kernel
theorem dL_refused_46 : decode cL_refused 46 = .ok (.iload_n 2, 1) := by decide +kernel
theorem dL_refused_47 : decode cL_refused 47 = .ok (.iconst 0, 1) := by decide +kernel
theorem dL_refused_48 : decode cL_refused 48 = .ok (.invokevirtual 143, 3) := by decide +kernel
theorem dL_refused_51 : decode cL_refused 51 = .ok (.iconst (-1), 1) := by decide +kernel
theorem dL_refused_52 : decode cL_refused 52 = .ok (.if_icmp .ne 205, 3) := by decide +kernel
theorem dL_refused_55 : decode cL_refused 55 = .ok (.aload_n 0, 1) := by decide +kernel
theorem dL_refused_56 : decode cL_refused 56 = .ok (.iload_n 2, 1) := by decide +kernel
theorem dL_refused_57 : decode cL_refused 57 = .ok (.iconst 1, 1) := by decide +kernel
theorem dL_refused_58 : decode cL_refused 58 = .ok (.invokevirtual 33, 3) := by decide +kernel
theorem dL_refused_61 : decode cL_refused 61 = .ok (.bipush (-2), 2) := by decide +kernel
theorem dL_refused_63 : decode cL_refused 63 = .ok (.if_icmp .ne 194, 3) := by decide +kernel
theorem dL_refused_66 : decode cL_refused 66 = .ok (.aload_n 0, 1) := by decide +kernel
theorem dL_refused_67 : decode cL_refused 67 = .ok (.iconst 0, 1) := by decide +kernel
theorem dL_refused_68 : decode cL_refused 68 = .ok (.iload_n 2, 1) := by decide +kernel
theorem dL_refused_69 : decode cL_refused 69 = .ok (.invokevirtual 33, 3) := by decide +kernel
theorem dL_refused_72 : decode cL_refused 72 = .ok (.bipush (-2), 2) := by decide +kernel
theorem dL_refused_74 : decode cL_refused 74 = .ok (.if_icmp .ne 183, 3) := by decide +kernel
theorem dL_refused_77 : decode cL_refused 77 = .ok (.aload_n 0, 1) := by decide +kernel
theorem dL_refused_78 : decode cL_refused 78 = .ok (.iconst 5, 1) := by decide +kernel
theorem dL_refused_79 : decode cL_refused 79 = .ok (.iload_n 2, 1) := by decide +kernel
theorem dL_refused_80 : decode cL_refused 80 = .ok (.invokevirtual 33, 3) := by decide +kernel
theorem dL_refused_83 : decode cL_refused 83 = .ok (.bipush (-2), 2) := by decide +kernel
theorem dL_refused_85 : decode cL_refused 85 = .ok (.if_icmp .ne 172, 3) := by decide +kernel
theorem dL_refused_88 : decode cL_refused 88 = .ok (.aload_n 0, 1) := by decide +kernel
theorem dL_refused_89 : decode cL_refused 89 = .ok (.iload_n 2, 1) := by decide +kernel
theorem dL_refused_90 : decode cL_refused 90 = .ok (.iconst 0, 1) := by decide +kernel
theorem dL_refused_91 : decode cL_refused 91 = .ok (.iconst 0, 1) := by decide +kernel
theorem dL_refused_92 : decode cL_refused 92 = .ok (.iconst 1, 1) := by decide +kernel
theorem dL_refused_93 : decode cL_refused 93 = .ok (.invokevirtual 61, 3) := by decide +kernel
theorem dL_refused_96 : decode cL_refused 96 = .ok (.iconst (-1), 1) := by decide +kernel
theorem dL_refused_97 : decode cL_refused 97 = .ok (.if_icmp .ne 160, 3) := by decide +kernel
theorem dL_refused_100 : decode cL_refused 100 = .ok (.aload_n 0, 1) := by decide +kernel
theorem dL_refused_101 : decode cL_refused 101 = .ok (.iload_n 2, 1) := by decide +kernel
theorem dL_refused_102 : decode cL_refused 102 = .ok (.iconst 0, 1) := by decide +kernel
theorem dL_refused_103 : decode cL_refused 103 = .ok (.invokevirtual 97, 3) := by decide +kernel
theorem dL_refused_106 : decode cL_refused 106 = .ok (.iconst (-1), 1) := by decide +kernel
theorem dL_refused_107 : decode cL_refused 107 = .ok (.if_icmp .ne 150, 3) := by decide +kernel
theorem dL_refused_110 : decode cL_refused 110 = .ok (.aload_n 0, 1) := by decide +kernel
theorem dL_refused_111 : decode cL_refused 111 = .ok (.iload_n 2, 1) := by decide +kernel
theorem dL_refused_112 : decode cL_refused 112 = .ok (.invokevirtual 75, 3) := by decide +kernel
theorem dL_refused_115 : decode cL_refused 115 = .ok (.iconst (-1), 1) := by decide +kernel
theorem dL_refused_116 : decode cL_refused 116 = .ok (.if_icmp .ne 141, 3) := by decide +kernel
theorem dL_refused_119 : decode cL_refused 119 = .ok (.aload_n 0, 1) := by decide +kernel
theorem dL_refused_120 : decode cL_refused 120 = .ok (.iload_n 2, 1) := by decide +kernel
theorem dL_refused_121 : decode cL_refused 121 = .ok (.invokevirtual 101, 3) := by decide +kernel
theorem dL_refused_124 : decode cL_refused 124 = .ok (.iconst (-1), 1) := by decide +kernel
theorem dL_refused_125 : decode cL_refused 125 = .ok (.if_icmp .ne 132, 3) := by decide +kernel
theorem dL_refused_128 : decode cL_refused 128 = .ok (.aload_n 0, 1) := by decide +kernel
theorem dL_refused_129 : decode cL_refused 129 = .ok (.iload_n 2, 1) := by decide +kernel
theorem dL_refused_130 : decode cL_refused 130 = .ok (.invokevirtual 146, 3) := by decide +kernel
theorem dL_refused_133 : decode cL_refused 133 = .ok (.iconst (-1), 1) := by decide +kernel
theorem dL_refused_134 : decode cL_refused 134 = .ok (.if_icmp .ne 123, 3) := by decide +kernel
theorem dL_refused_137 : decode cL_refused 137 = .ok (.aload_n 0, 1) := by decide +kernel
theorem dL_refused_138 : decode cL_refused 138 = .ok (.iload_n 2, 1) := by decide +kernel
theorem dL_refused_139 : decode cL_refused 139 = .ok (.invokevirtual 84, 3) := by decide +kernel
theorem dL_refused_142 : decode cL_refused 142 = .ok (.iconst (-1), 1) := by decide +kernel
theorem dL_refused_143 : decode cL_refused 143 = .ok (.if_icmp .ne 114, 3) := by decide +kernel
theorem dL_refused_146 : decode cL_refused 146 = .ok (.aload_n 0, 1) := by decide +kernel
theorem dL_refused_147 : decode cL_refused 147 = .ok (.iload_n 2, 1) := by decide +kernel
theorem dL_refused_148 : decode cL_refused 148 = .ok (.iconst 0, 1) := by decide +kernel
theorem dL_refused_149 : decode cL_refused 149 = .ok (.iconst 0, 1) := by decide +kernel
theorem dL_refused_150 : decode cL_refused 150 = .ok (.invokevirtual 93, 3) := by decide +kernel
theorem dL_refused_153 : decode cL_refused 153 = .ok (.iconst (-1), 1) := by decide +kernel
theorem dL_refused_154 : decode cL_refused 154 = .ok (.if_icmp .ne 103, 3) := by decide +kernel
theorem dL_refused_157 : decode cL_refused 157 = .ok (.aload_n 0, 1) := by decide +kernel
theorem dL_refused_158 : decode cL_refused 158 = .ok (.iload_n 2, 1) := by decide +kernel
theorem dL_refused_159 : decode cL_refused 159 = .ok (.iconst 0, 1) := by decide +kernel
theorem dL_refused_160 : decode cL_refused 160 = .ok (.invokevirtual 65, 3) := by decide +kernel
theorem dL_refused_163 : decode cL_refused 163 = .ok (.iconst (-1), 1) := by decide +kernel
theorem dL_refused_164 : decode cL_refused 164 = .ok (.if_icmp .ne 93, 3) := by decide +kernel
theorem dL_refused_167 : decode cL_refused 167 = .ok (.aload_n 0, 1) := by decide +kernel
theorem dL_refused_168 : decode cL_refused 168 = .ok (.iload_n 2, 1) := by decide +kernel
theorem dL_refused_169 : decode cL_refused 169 = .ok (.iconst 0, 1) := by decide +kernel
theorem dL_refused_170 : decode cL_refused 170 = .ok (.invokevirtual 68, 3) := by decide +kernel
theorem dL_refused_173 : decode cL_refused 173 = .ok (.iconst (-1), 1) := by decide +kernel
theorem dL_refused_174 : decode cL_refused 174 = .ok (.if_icmp .ne 83, 3) := by decide +kernel
theorem dL_refused_177 : decode cL_refused 177 = .ok (.aload_n 0, 1) := by decide +kernel
theorem dL_refused_178 : decode cL_refused 178 = .ok (.iload_n 2, 1) := by decide +kernel
theorem dL_refused_179 : decode cL_refused 179 = .ok (.invokevirtual 57, 3) := by decide +kernel
theorem dL_refused_182 : decode cL_refused 182 = .ok (.bipush (-2), 2) := by decide +kernel
theorem dL_refused_184 : decode cL_refused 184 = .ok (.if_icmp .ne 73, 3) := by decide +kernel
theorem dL_refused_187 : decode cL_refused 187 = .ok (.aload_n 0, 1) := by decide +kernel
theorem dL_refused_188 : decode cL_refused 188 = .ok (.iload_n 2, 1) := by decide +kernel
theorem dL_refused_189 : decode cL_refused 189 = .ok (.iconst 0, 1) := by decide +kernel
theorem dL_refused_190 : decode cL_refused 190 = .ok (.invokevirtual 104, 3) := by decide +kernel
theorem dL_refused_193 : decode cL_refused 193 = .ok (.iconst (-1), 1) := by decide +kernel
theorem dL_refused_194 : decode cL_refused 194 = .ok (.if_icmp .ne 63, 3) := by decide +kernel
theorem dL_refused_197 : decode cL_refused 197 = .ok (.aload_n 0, 1) := by decide +kernel
theorem dL_refused_198 : decode cL_refused 198 = .ok (.iload_n 2, 1) := by decide +kernel
theorem dL_refused_199 : decode cL_refused 199 = .ok (.invokevirtual 90, 3) := by decide +kernel
theorem dL_refused_202 : decode cL_refused 202 = .ok (.iconst (-1), 1) := by decide +kernel
theorem dL_refused_203 : decode cL_refused 203 = .ok (.if_icmp .ne 54, 3) := by decide +kernel
theorem dL_refused_206 : decode cL_refused 206 = .ok (.aload_n 0, 1) := by decide +kernel
theorem dL_refused_207 : decode cL_refused 207 = .ok (.iload_n 2, 1) := by decide +kernel
theorem dL_refused_208 : decode cL_refused 208 = .ok (.iconst 1, 1) := by decide +kernel
theorem dL_refused_209 : decode cL_refused 209 = .ok (.invokevirtual 110, 3) := by decide +kernel
theorem dL_refused_212 : decode cL_refused 212 = .ok (.iconst (-1), 1) := by decide +kernel
theorem dL_refused_213 : decode cL_refused 213 = .ok (.if_icmp .ne 44, 3) := by decide +kernel
theorem dL_refused_216 : decode cL_refused 216 = .ok (.aload_n 0, 1) := by decide +kernel
theorem dL_refused_217 : decode cL_refused 217 = .ok (.invokevirtual 140, 3) := by decide +kernel
theorem dL_refused_220 : decode cL_refused 220 = .ok (.bipush (-3), 2) := by decide +kernel
theorem dL_refused_222 : decode cL_refused 222 = .ok (.if_icmp .ne 35, 3) := by decide +kernel
theorem dL_refused_225 : decode cL_refused 225 = .ok (.aload_n 0, 1) := by decide +kernel
theorem dL_refused_226 : decode cL_refused 226 = .ok (.iload_n 2, 1) := by decide +kernel
theorem dL_refused_227 : decode cL_refused 227 = .ok (.invokevirtual 113, 3) := by decide +kernel
theorem dL_refused_230 : decode cL_refused 230 = .ok (.bipush (-2), 2) := by decide +kernel
theorem dL_refused_232 : decode cL_refused 232 = .ok (.if_icmp .ne 25, 3) := by decide +kernel
theorem dL_refused_235 : decode cL_refused 235 = .ok (.aload_n 0, 1) := by decide +kernel
theorem dL_refused_236 : decode cL_refused 236 = .ok (.iload_n 2, 1) := by decide +kernel
theorem dL_refused_237 : decode cL_refused 237 = .ok (.invokevirtual 117, 3) := by decide +kernel
theorem dL_refused_240 : decode cL_refused 240 = .ok (.bipush (-2), 2) := by decide +kernel
theorem dL_refused_242 : decode cL_refused 242 = .ok (.if_icmp .ne 15, 3) := by decide +kernel
theorem dL_refused_245 : decode cL_refused 245 = .ok (.aload_n 0, 1) := by decide +kernel
theorem dL_refused_246 : decode cL_refused 246 = .ok (.iconst 0, 1) := by decide +kernel
theorem dL_refused_247 : decode cL_refused 247 = .ok (.invokevirtual 57, 3) := by decide +kernel
theorem dL_refused_250 : decode cL_refused 250 = .ok (.ifCond .ne 7, 3) := by decide +kernel
theorem dL_refused_253 : decode cL_refused 253 = .ok (.iconst 1, 1) := by decide +kernel
theorem dL_refused_254 : decode cL_refused 254 = .ok (.goto 4, 3) := by decide +kernel
theorem dL_refused_257 : decode cL_refused 257 = .ok (.iconst 0, 1) := by decide +kernel
theorem dL_refused_258 : decode cL_refused 258 = .ok (.ireturn, 1) := by decide +kernel
