theorem dX0_init_0 : decode cX0_init 0 = .ok (.aload_n 0, 1) := by decide +kernel
theorem dX0_init_1 : decode cX0_init 1 = .ok (.invokespecial 3, 3) := by decide +kernel
theorem dX0_init_4 : decode cX0_init 4 = .ok (.return_, 1) := by decide +kernel
theorem dX0_isOf_0 : decode cX0_isOf 0 = .ok (.aload_n 0, 1) := by decide +kernel
theorem dX0_isOf_1 : decode cX0_isOf 1 = .ok (.getfield 9, 3) := by decide +kernel
theorem dX0_isOf_4 : decode cX0_isOf 4 = .ok (.iload_n 2, 1) := by decide +kernel
theorem dX0_isOf_5 : decode cX0_isOf 5 = .ok (.if_icmp .ne 20, 3) := by decide +kernel
theorem dX0_isOf_8 : decode cX0_isOf 8 = .ok (.iload_n 1, 1) := by decide +kernel
theorem dX0_isOf_9 : decode cX0_isOf 9 = .ok (.iconst (-1), 1) := by decide +kernel
theorem dX0_isOf_10 : decode cX0_isOf 10 = .ok (.if_icmp .eq 11, 3) := by decide +kernel
theorem dX0_isOf_13 : decode cX0_isOf 13 = .ok (.iload_n 1, 1) := by decide +kernel
theorem dX0_isOf_14 : decode cX0_isOf 14 = .ok (.aload_n 0, 1) := by decide +kernel
theorem dX0_isOf_15 : decode cX0_isOf 15 = .ok (.getfield 15, 3) := by decide +kernel
theorem dX0_isOf_18 : decode cX0_isOf 18 = .ok (.if_icmp .ne 7, 3) := by decide +kernel
theorem dX0_isOf_21 : decode cX0_isOf 21 = .ok (.iconst 1, 1) := by decide +kernel
theorem dX0_isOf_22 : decode cX0_isOf 22 = .ok (.goto 4, 3) := by decide +kernel
theorem dX0_isOf_25 : decode cX0_isOf 25 = .ok (.iconst 0, 1) := by decide +kernel
theorem dX0_isOf_26 : decode cX0_isOf 26 = .ok (.ireturn, 1) := by decide +kernel
theorem dX0_isBy_0 : decode cX0_isBy 0 = .ok (.iload_n 1, 1) := by decide +kernel
theorem dX0_isBy_1 : decode cX0_isBy 1 = .ok (.iconst (-1), 1) := by decide +kernel
theorem dX0_isBy_2 : decode cX0_isBy 2 = .ok (.if_icmp .eq 11, 3) := by decide +kernel
theorem dX0_isBy_5 : decode cX0_isBy 5 = .ok (.iload_n 1, 1) := by decide +kernel
theorem dX0_isBy_6 : decode cX0_isBy 6 = .ok (.aload_n 0, 1) := by decide +kernel
theorem dX0_isBy_7 : decode cX0_isBy 7 = .ok (.getfield 18, 3) := by decide +kernel
theorem dX0_isBy_10 : decode cX0_isBy 10 = .ok (.if_icmp .ne 7, 3) := by decide +kernel
theorem dX0_isBy_13 : decode cX0_isBy 13 = .ok (.iconst 1, 1) := by decide +kernel
theorem dX0_isBy_14 : decode cX0_isBy 14 = .ok (.goto 4, 3) := by decide +kernel
theorem dX0_isBy_17 : decode cX0_isBy 17 = .ok (.iconst 0, 1) := by decide +kernel
theorem dX0_isBy_18 : decode cX0_isBy 18 = .ok (.ireturn, 1) := by decide +kernel
theorem dX0_isAlive_0 : decode cX0_isAlive 0 = .ok (.aload_n 0, 1) := by decide +kernel
theorem dX0_isAlive_1 : decode cX0_isAlive 1 = .ok (.getfield 21, 3) := by decide +kernel
theorem dX0_isAlive_4 : decode cX0_isAlive 4 = .ok (.ifCond .eq 19, 3) := by decide +kernel
theorem dX0_isAlive_7 : decode cX0_isAlive 7 = .ok (.aload_n 0, 1) := by decide +kernel
theorem dX0_isAlive_8 : decode cX0_isAlive 8 = .ok (.getfield 21, 3) := by decide +kernel
theorem dX0_isAlive_11 : decode cX0_isAlive 11 = .ok (.iconst 1, 1) := by decide +kernel
theorem dX0_isAlive_12 : decode cX0_isAlive 12 = .ok (.if_icmp .eq 11, 3) := by decide +kernel
theorem dX0_isAlive_15 : decode cX0_isAlive 15 = .ok (.aload_n 0, 1) := by decide +kernel
theorem dX0_isAlive_16 : decode cX0_isAlive 16 = .ok (.getfield 21, 3) := by decide +kernel
theorem dX0_isAlive_19 : decode cX0_isAlive 19 = .ok (.iconst 2, 1) := by decide +kernel
theorem dX0_isAlive_20 : decode cX0_isAlive 20 = .ok (.if_icmp .ne 7, 3) := by decide +kernel
theorem dX0_isAlive_23 : decode cX0_isAlive 23 = .ok (.iconst 1, 1) := by decide +kernel
theorem dX0_isAlive_24 : decode cX0_isAlive 24 = .ok (.goto 4, 3) := by decide +kernel
theorem dX0_isAlive_27 : decode cX0_isAlive 27 = .ok (.iconst 0, 1) := by decide +kernel
theorem dX0_isAlive_28 : decode cX0_isAlive 28 = .ok (.ireturn, 1) := by decide +kernel
theorem dX0_takesPlaces_0 : decode cX0_takesPlaces 0 = .ok (.aload_n 0, 1) := by decide +kernel
theorem dX0_takesPlaces_1 : decode cX0_takesPlaces 1 = .ok (.getfield 21, 3) := by decide +kernel
theorem dX0_takesPlaces_4 : decode cX0_takesPlaces 4 = .ok (.iconst 1, 1) := by decide +kernel
theorem dX0_takesPlaces_5 : decode cX0_takesPlaces 5 = .ok (.if_icmp .eq 20, 3) := by decide +kernel
theorem dX0_takesPlaces_8 : decode cX0_takesPlaces 8 = .ok (.aload_n 0, 1) := by decide +kernel
theorem dX0_takesPlaces_9 : decode cX0_takesPlaces 9 = .ok (.getfield 21, 3) := by decide +kernel
theorem dX0_takesPlaces_12 : decode cX0_takesPlaces 12 = .ok (.iconst 5, 1) := by decide +kernel
theorem dX0_takesPlaces_13 : decode cX0_takesPlaces 13 = .ok (.if_icmp .eq 12, 3) := by decide +kernel
theorem dX0_takesPlaces_16 : decode cX0_takesPlaces 16 = .ok (.aload_n 0, 1) := by decide +kernel
theorem dX0_takesPlaces_17 : decode cX0_takesPlaces 17 = .ok (.getfield 21, 3) := by decide +kernel
theorem dX0_takesPlaces_20 : decode cX0_takesPlaces 20 = .ok (.bipush 6, 2) := by decide +kernel
theorem dX0_takesPlaces_22 : decode cX0_takesPlaces 22 = .ok (.if_icmp .ne 7, 3) := by decide +kernel
theorem dX0_takesPlaces_25 : decode cX0_takesPlaces 25 = .ok (.iconst 1, 1) := by decide +kernel
theorem dX0_takesPlaces_26 : decode cX0_takesPlaces 26 = .ok (.goto 4, 3) := by decide +kernel
theorem dX0_takesPlaces_29 : decode cX0_takesPlaces 29 = .ok (.iconst 0, 1) := by decide +kernel
theorem dX0_takesPlaces_30 : decode cX0_takesPlaces 30 = .ok (.ireturn, 1) := by decide +kernel
theorem dX0_copyFrom_0 : decode cX0_copyFrom 0 = .ok (.aload_n 0, 1) := by decide +kernel
theorem dX0_copyFrom_1 : decode cX0_copyFrom 1 = .ok (.aload_n 1, 1) := by decide +kernel
theorem dX0_copyFrom_2 : decode cX0_copyFrom 2 = .ok (.getfield 18, 3) := by decide +kernel
theorem dX0_copyFrom_5 : decode cX0_copyFrom 5 = .ok (.putfield 18, 3) := by decide +kernel
theorem dX0_copyFrom_8 : decode cX0_copyFrom 8 = .ok (.aload_n 0, 1) := by decide +kernel
theorem dX0_copyFrom_9 : decode cX0_copyFrom 9 = .ok (.aload_n 1, 1) := by decide +kernel
theorem dX0_copyFrom_10 : decode cX0_copyFrom 10 = .ok (.getfield 15, 3) := by decide +kernel
theorem dX0_copyFrom_13 : decode cX0_copyFrom 13 = .ok (.putfield 15, 3) := by decide +kernel
theorem dX0_copyFrom_16 : decode cX0_copyFrom 16 = .ok (.aload_n 0, 1) := by decide +kernel
theorem dX0_copyFrom_17 : decode cX0_copyFrom 17 = .ok (.aload_n 1, 1) := by decide +kernel
theorem dX0_copyFrom_18 : decode cX0_copyFrom 18 = .ok (.getfield 9, 3) := by decide +kernel
theorem dX0_copyFrom_21 : decode cX0_copyFrom 21 = .ok (.putfield 9, 3) := by decide +kernel
theorem dX0_copyFrom_24 : decode cX0_copyFrom 24 = .ok (.aload_n 0, 1) := by decide +kernel
theorem dX0_copyFrom_25 : decode cX0_copyFrom 25 = .ok (.aload_n 1, 1) := by decide +kernel
theorem dX0_copyFrom_26 : decode cX0_copyFrom 26 = .ok (.getfield 24, 3) := by decide +kernel
theorem dX0_copyFrom_29 : decode cX0_copyFrom 29 = .ok (.putfield 24, 3) := by decide +kernel
theorem dX0_copyFrom_32 : decode cX0_copyFrom 32 = .ok (.aload_n 0, 1) := by decide +kernel
theorem dX0_copyFrom_33 : decode cX0_copyFrom 33 = .ok (.aload_n 1, 1) := by decide +kernel
theorem dX0_copyFrom_34 : decode cX0_copyFrom 34 = .ok (.getfield 27, 3) := by decide +kernel
theorem dX0_copyFrom_37 : decode cX0_copyFrom 37 = .ok (.putfield 27, 3) := by decide +kernel
theorem dX0_copyFrom_40 : decode cX0_copyFrom 40 = .ok (.aload_n 0, 1) := by decide +kernel
theorem dX0_copyFrom_41 : decode cX0_copyFrom 41 = .ok (.aload_n 1, 1) := by decide +kernel
theorem dX0_copyFrom_42 : decode cX0_copyFrom 42 = .ok (.getfield 21, 3) := by decide +kernel
theorem dX0_copyFrom_45 : decode cX0_copyFrom 45 = .ok (.putfield 21, 3) := by decide +kernel
theorem dX0_copyFrom_48 : decode cX0_copyFrom 48 = .ok (.aload_n 0, 1) := by decide +kernel
theorem dX0_copyFrom_49 : decode cX0_copyFrom 49 = .ok (.aload_n 1, 1) := by decide +kernel
theorem dX0_copyFrom_50 : decode cX0_copyFrom 50 = .ok (.getfield 30, 3) := by decide +kernel
theorem dX0_copyFrom_53 : decode cX0_copyFrom 53 = .ok (.putfield 30, 3) := by decide +kernel
theorem dX0_copyFrom_56 : decode cX0_copyFrom 56 = .ok (.aload_n 0, 1) := by decide +kernel
theorem dX0_copyFrom_57 : decode cX0_copyFrom 57 = .ok (.aload_n 1, 1) := by decide +kernel
theorem dX0_copyFrom_58 : decode cX0_copyFrom 58 = .ok (.getfield 33, 3) := by decide +kernel
theorem dX0_copyFrom_61 : decode cX0_copyFrom 61 = .ok (.putfield 33, 3) := by decide +kernel
theorem dX0_copyFrom_64 : decode cX0_copyFrom 64 = .ok (.aload_n 0, 1) := by decide +kernel
theorem dX0_copyFrom_65 : decode cX0_copyFrom 65 = .ok (.aload_n 1, 1) := by decide +kernel
theorem dX0_copyFrom_66 : decode cX0_copyFrom 66 = .ok (.getfield 36, 3) := by decide +kernel
theorem dX0_copyFrom_69 : decode cX0_copyFrom 69 = .ok (.putfield 36, 3) := by decide +kernel
theorem dX0_copyFrom_72 : decode cX0_copyFrom 72 = .ok (.return_, 1) := by decide +kernel
theorem dX1_init_0 : decode cX1_init 0 = .ok (.aload_n 0, 1) := by decide +kernel
theorem dX1_init_1 : decode cX1_init 1 = .ok (.invokespecial 3, 3) := by decide +kernel
theorem dX1_init_4 : decode cX1_init 4 = .ok (.aload_n 0, 1) := by decide +kernel
theorem dX1_init_5 : decode cX1_init 5 = .ok (.bipush (-6), 2) := by decide +kernel
theorem dX1_init_7 : decode cX1_init 7 = .ok (.putfield 9, 3) := by decide +kernel
theorem dX1_init_10 : decode cX1_init 10 = .ok (.return_, 1) := by decide +kernel
theorem dX1_isBarredOn_0 : decode cX1_isBarredOn 0 = .ok (.aload_n 0, 1) := by decide +kernel
theorem dX1_isBarredOn_1 : decode cX1_isBarredOn 1 = .ok (.getfield 9, 3) := by decide +kernel
theorem dX1_isBarredOn_4 : decode cX1_isBarredOn 4 = .ok (.iload_n 1, 1) := by decide +kernel
theorem dX1_isBarredOn_5 : decode cX1_isBarredOn 5 = .ok (.if_icmp .lt 7, 3) := by decide +kernel
theorem dX1_isBarredOn_8 : decode cX1_isBarredOn 8 = .ok (.iconst 1, 1) := by decide +kernel
theorem dX1_isBarredOn_9 : decode cX1_isBarredOn 9 = .ok (.goto 4, 3) := by decide +kernel
theorem dX1_isBarredOn_12 : decode cX1_isBarredOn 12 = .ok (.iconst 0, 1) := by decide +kernel
theorem dX1_isBarredOn_13 : decode cX1_isBarredOn 13 = .ok (.ireturn, 1) := by decide +kernel
theorem dX1_strike_0 : decode cX1_strike 0 = .ok (.aload_n 0, 1) := by decide +kernel
theorem dX1_strike_1 : decode cX1_strike 1 = .ok (.dup, 1) := by decide +kernel
theorem dX1_strike_2 : decode cX1_strike 2 = .ok (.getfield 15, 3) := by decide +kernel
theorem dX1_strike_5 : decode cX1_strike 5 = .ok (.iconst 1, 1) := by decide +kernel
theorem dX1_strike_6 : decode cX1_strike 6 = .ok (.iadd, 1) := by decide +kernel
theorem dX1_strike_7 : decode cX1_strike 7 = .ok (.putfield 15, 3) := by decide +kernel
theorem dX1_strike_10 : decode cX1_strike 10 = .ok (.aload_n 0, 1) := by decide +kernel
theorem dX1_strike_11 : decode cX1_strike 11 = .ok (.getfield 15, 3) := by decide +kernel
theorem dX1_strike_14 : decode cX1_strike 14 = .ok (.iload_n 1, 1) := by decide +kernel
theorem dX1_strike_15 : decode cX1_strike 15 = .ok (.if_icmp .lt 20, 3) := by decide +kernel
theorem dX1_strike_18 : decode cX1_strike 18 = .ok (.aload_n 0, 1) := by decide +kernel
theorem dX1_strike_19 : decode cX1_strike 19 = .ok (.iconst 0, 1) := by decide +kernel
theorem dX1_strike_20 : decode cX1_strike 20 = .ok (.putfield 15, 3) := by decide +kernel
theorem dX1_strike_23 : decode cX1_strike 23 = .ok (.aload_n 0, 1) := by decide +kernel
theorem dX1_strike_24 : decode cX1_strike 24 = .ok (.aload_n 0, 1) := by decide +kernel
theorem dX1_strike_25 : decode cX1_strike 25 = .ok (.getfield 9, 3) := by decide +kernel
theorem dX1_strike_28 : decode cX1_strike 28 = .ok (.iload_n 2, 1) := by decide +kernel
theorem dX1_strike_29 : decode cX1_strike 29 = .ok (.invokestatic 18, 3) := by decide +kernel
theorem dX1_strike_32 : decode cX1_strike 32 = .ok (.putfield 9, 3) := by decide +kernel
theorem dX1_strike_35 : decode cX1_strike 35 = .ok (.return_, 1) := by decide +kernel
theorem dX1_copyFrom_0 : decode cX1_copyFrom 0 = .ok (.aload_n 0, 1) := by decide +kernel
theorem dX1_copyFrom_1 : decode cX1_copyFrom 1 = .ok (.aload_n 1, 1) := by decide +kernel
theorem dX1_copyFrom_2 : decode cX1_copyFrom 2 = .ok (.getfield 24, 3) := by decide +kernel
theorem dX1_copyFrom_5 : decode cX1_copyFrom 5 = .ok (.putfield 24, 3) := by decide +kernel
theorem dX1_copyFrom_8 : decode cX1_copyFrom 8 = .ok (.aload_n 0, 1) := by decide +kernel
theorem dX1_copyFrom_9 : decode cX1_copyFrom 9 = .ok (.aload_n 1, 1) := by decide +kernel
theorem dX1_copyFrom_10 : decode cX1_copyFrom 10 = .ok (.getfield 15, 3) := by decide +kernel
theorem dX1_copyFrom_13 : decode cX1_copyFrom 13 = .ok (.putfield 15, 3) := by decide +kernel
theorem dX1_copyFrom_16 : decode cX1_copyFrom 16 = .ok (.aload_n 0, 1) := by decide +kernel
theorem dX1_copyFrom_17 : decode cX1_copyFrom 17 = .ok (.aload_n 1, 1) := by decide +kernel
theorem dX1_copyFrom_18 : decode cX1_copyFrom 18 = .ok (.getfield 9, 3) := by decide +kernel
theorem dX1_copyFrom_21 : decode cX1_copyFrom 21 = .ok (.putfield 9, 3) := by decide +kernel
theorem dX1_copyFrom_24 : decode cX1_copyFrom 24 = .ok (.return_, 1) := by decide +kernel
theorem dX2_init_0 : decode cX2_init 0 = .ok (.aload_n 0, 1) := by decide +kernel
theorem dX2_init_1 : decode cX2_init 1 = .ok (.invokespecial 3, 3) := by decide +kernel
theorem dX2_init_4 : decode cX2_init 4 = .ok (.aload_n 0, 1) := by decide +kernel
theorem dX2_init_5 : decode cX2_init 5 = .ok (.bipush 40, 2) := by decide +kernel
theorem dX2_init_7 : decode cX2_init 7 = .ok (.newarray .int, 2) := by decide +kernel
theorem dX2_init_9 : decode cX2_init 9 = .ok (.putfield 9, 3) := by decide +kernel
theorem dX2_init_12 : decode cX2_init 12 = .ok (.aload_n 0, 1) := by decide +kernel
theorem dX2_init_13 : decode cX2_init 13 = .ok (.bipush 40, 2) := by decide +kernel
theorem dX2_init_15 : decode cX2_init 15 = .ok (.newarray .int, 2) := by decide +kernel
theorem dX2_init_17 : decode cX2_init 17 = .ok (.putfield 15, 3) := by decide +kernel
theorem dX2_init_20 : decode cX2_init 20 = .ok (.aload_n 0, 1) := by decide +kernel
theorem dX2_init_21 : decode cX2_init 21 = .ok (.bipush 40, 2) := by decide +kernel
theorem dX2_init_23 : decode cX2_init 23 = .ok (.newarray .int, 2) := by decide +kernel
theorem dX2_init_25 : decode cX2_init 25 = .ok (.putfield 18, 3) := by decide +kernel
theorem dX2_init_28 : decode cX2_init 28 = .ok (.aload_n 0, 1) := by decide +kernel
theorem dX2_init_29 : decode cX2_init 29 = .ok (.bipush 40, 2) := by decide +kernel
theorem dX2_init_31 : decode cX2_init 31 = .ok (.newarray .boolean, 2) := by decide +kernel
theorem dX2_init_33 : decode cX2_init 33 = .ok (.putfield 21, 3) := by decide +kernel
theorem dX2_init_36 : decode cX2_init 36 = .ok (.aload_n 0, 1) := by decide +kernel
theorem dX2_init_37 : decode cX2_init 37 = .ok (.bipush 40, 2) := by decide +kernel
theorem dX2_init_39 : decode cX2_init 39 = .ok (.newarray .boolean, 2) := by decide +kernel
theorem dX2_init_41 : decode cX2_init 41 = .ok (.putfield 25, 3) := by decide +kernel
theorem dX2_init_44 : decode cX2_init 44 = .ok (.return_, 1) := by decide +kernel
set_option maxRecDepth 20000 in
theorem ggX2_enterAll_X0_isOf : GoodIn wsX2_enterAll wsX0_isOf := goodIn_r _ [14, 15, 16, 53, 54, 55, 56, 57, 58, 59, 60, 61] rfl (by decide +kernel)
set_option maxRecDepth 20000 in
theorem gX2_enterAll_X0_isOf : GoodIn wsX2_enterAll (wsV RX2 49 RX0 yX0_isOf wsX0_isOf) := goodIn_app (goodIn_of _ (by decide +kernel)) ggX2_enterAll_X0_isOf
set_option maxRecDepth 20000 in
theorem ggX2_enterAll_X3_isBarred : GoodIn wsX2_enterAll wsX3_isBarred := goodIn_r _ [21, 22, 23, 24, 25, 26, 27, 28, 29, 30, 44, 45, 46, 47, 48, 49, 50, 51, 52, 53, 54, 55, 56, 57, 58, 59, 60, 61, 62, 63, 64] rfl (by decide +kernel)
set_option maxRecDepth 20000 in
theorem gX2_enterAll_X3_isBarred : GoodIn wsX2_enterAll (wsV RX2 53 RX3 yX3_isBarred wsX3_isBarred) := goodIn_app (goodIn_of _ (by decide +kernel)) ggX2_enterAll_X3_isBarred
set_option maxRecDepth 20000 in
theorem ggX2_enterAll_X3_ticketsOf : GoodIn wsX2_enterAll wsX3_ticketsOf := goodIn_r _ [34, 35, 22, 23, 36, 44, 45, 46, 47, 48, 49, 50, 51, 52, 53, 54, 55, 56, 57, 58, 59, 60, 61, 62, 63, 64] rfl (by decide +kernel)
set_option maxRecDepth 20000 in
theorem gX2_enterAll_X3_ticketsOf : GoodIn wsX2_enterAll (wsV RX2 60 RX3 yX3_ticketsOf wsX3_ticketsOf) := goodIn_app (goodIn_of _ (by decide +kernel)) ggX2_enterAll_X3_ticketsOf
theorem dX2_enterAll_0 : decode cX2_enterAll 0 = .ok (.aload_n 0, 1) := by decide +kernel
theorem dX2_enterAll_1 : decode cX2_enterAll 1 = .ok (.iconst 0, 1) := by decide +kernel
theorem dX2_enterAll_2 : decode cX2_enterAll 2 = .ok (.putfield 28, 3) := by decide +kernel
theorem dX2_enterAll_5 : decode cX2_enterAll 5 = .ok (.aload_n 0, 1) := by decide +kernel
theorem dX2_enterAll_6 : decode cX2_enterAll 6 = .ok (.iconst 0, 1) := by decide +kernel
theorem dX2_enterAll_7 : decode cX2_enterAll 7 = .ok (.putfield 32, 3) := by decide +kernel
theorem dX2_enterAll_10 : decode cX2_enterAll 10 = .ok (.iconst 0, 1) := by decide +kernel
theorem dX2_enterAll_11 : decode cX2_enterAll 11 = .ok (.istore 4, 2) := by decide +kernel
theorem dX2_enterAll_13 : decode cX2_enterAll 13 = .ok (.iload 4, 2) := by decide +kernel
theorem dX2_enterAll_15 : decode cX2_enterAll 15 = .ok (.aload_n 1, 1) := by decide +kernel
theorem dX2_enterAll_16 : decode cX2_enterAll 16 = .ok (.getfield 35, 3) := by decide +kernel
theorem dX2_enterAll_19 : decode cX2_enterAll 19 = .ok (.if_icmp .ge 113, 3) := by decide +kernel
theorem dX2_enterAll_22 : decode cX2_enterAll 22 = .ok (.aload_n 1, 1) := by decide +kernel
theorem dX2_enterAll_23 : decode cX2_enterAll 23 = .ok (.getfield 40, 3) := by decide +kernel
theorem dX2_enterAll_26 : decode cX2_enterAll 26 = .ok (.iload 4, 2) := by decide +kernel
theorem dX2_enterAll_28 : decode cX2_enterAll 28 = .ok (.aaload, 1) := by decide +kernel
theorem dX2_enterAll_29 : decode cX2_enterAll 29 = .ok (.astore 5, 2) := by decide +kernel
theorem dX2_enterAll_31 : decode cX2_enterAll 31 = .ok (.aload 5, 2) := by decide +kernel
theorem dX2_enterAll_33 : decode cX2_enterAll 33 = .ok (.getfield 44, 3) := by decide +kernel
theorem dX2_enterAll_36 : decode cX2_enterAll 36 = .ok (.ifCond .ne 90, 3) := by decide +kernel
theorem dX2_enterAll_39 : decode cX2_enterAll 39 = .ok (.aload 5, 2) := by decide +kernel
theorem dX2_enterAll_41 : decode cX2_enterAll 41 = .ok (.iload_n 2, 1) := by decide +kernel
theorem dX2_enterAll_42 : decode cX2_enterAll 42 = .ok (.iload_n 3, 1) := by decide +kernel
theorem dX2_enterAll_43 : decode cX2_enterAll 43 = .ok (.invokevirtual 49, 3) := by decide +kernel
theorem dX2_enterAll_46 : decode cX2_enterAll 46 = .ok (.ifCond .eq 80, 3) := by decide +kernel
theorem dX2_enterAll_49 : decode cX2_enterAll 49 = .ok (.aload_n 1, 1) := by decide +kernel
theorem dX2_enterAll_50 : decode cX2_enterAll 50 = .ok (.aload 5, 2) := by decide +kernel
theorem dX2_enterAll_52 : decode cX2_enterAll 52 = .ok (.invokevirtual 53, 3) := by decide +kernel
theorem dX2_enterAll_55 : decode cX2_enterAll 55 = .ok (.ifCond .ne 71, 3) := by decide +kernel
theorem dX2_enterAll_58 : decode cX2_enterAll 58 = .ok (.aload_n 0, 1) := by decide +kernel
theorem dX2_enterAll_59 : decode cX2_enterAll 59 = .ok (.getfield 9, 3) := by decide +kernel
theorem dX2_enterAll_62 : decode cX2_enterAll 62 = .ok (.aload_n 0, 1) := by decide +kernel
theorem dX2_enterAll_63 : decode cX2_enterAll 63 = .ok (.getfield 28, 3) := by decide +kernel
theorem dX2_enterAll_66 : decode cX2_enterAll 66 = .ok (.iload 4, 2) := by decide +kernel
theorem dX2_enterAll_68 : decode cX2_enterAll 68 = .ok (.iastore, 1) := by decide +kernel
theorem dX2_enterAll_69 : decode cX2_enterAll 69 = .ok (.aload_n 0, 1) := by decide +kernel
theorem dX2_enterAll_70 : decode cX2_enterAll 70 = .ok (.getfield 15, 3) := by decide +kernel
theorem dX2_enterAll_73 : decode cX2_enterAll 73 = .ok (.aload_n 0, 1) := by decide +kernel
theorem dX2_enterAll_74 : decode cX2_enterAll 74 = .ok (.getfield 28, 3) := by decide +kernel
theorem dX2_enterAll_77 : decode cX2_enterAll 77 = .ok (.aload 5, 2) := by decide +kernel
theorem dX2_enterAll_79 : decode cX2_enterAll 79 = .ok (.getfield 57, 3) := by decide +kernel
theorem dX2_enterAll_82 : decode cX2_enterAll 82 = .ok (.iastore, 1) := by decide +kernel
theorem dX2_enterAll_83 : decode cX2_enterAll 83 = .ok (.aload_n 0, 1) := by decide +kernel
theorem dX2_enterAll_84 : decode cX2_enterAll 84 = .ok (.getfield 18, 3) := by decide +kernel
theorem dX2_enterAll_87 : decode cX2_enterAll 87 = .ok (.aload_n 0, 1) := by decide +kernel
theorem dX2_enterAll_88 : decode cX2_enterAll 88 = .ok (.getfield 28, 3) := by decide +kernel
theorem dX2_enterAll_91 : decode cX2_enterAll 91 = .ok (.aload_n 1, 1) := by decide +kernel
theorem dX2_enterAll_92 : decode cX2_enterAll 92 = .ok (.aload 5, 2) := by decide +kernel
theorem dX2_enterAll_94 : decode cX2_enterAll 94 = .ok (.invokevirtual 60, 3) := by decide +kernel
theorem dX2_enterAll_97 : decode cX2_enterAll 97 = .ok (.iastore, 1) := by decide +kernel
theorem dX2_enterAll_98 : decode cX2_enterAll 98 = .ok (.aload_n 0, 1) := by decide +kernel
theorem dX2_enterAll_99 : decode cX2_enterAll 99 = .ok (.dup, 1) := by decide +kernel
theorem dX2_enterAll_100 : decode cX2_enterAll 100 = .ok (.getfield 32, 3) := by decide +kernel
theorem dX2_enterAll_103 : decode cX2_enterAll 103 = .ok (.aload_n 0, 1) := by decide +kernel
theorem dX2_enterAll_104 : decode cX2_enterAll 104 = .ok (.getfield 18, 3) := by decide +kernel
theorem dX2_enterAll_107 : decode cX2_enterAll 107 = .ok (.aload_n 0, 1) := by decide +kernel
theorem dX2_enterAll_108 : decode cX2_enterAll 108 = .ok (.getfield 28, 3) := by decide +kernel
theorem dX2_enterAll_111 : decode cX2_enterAll 111 = .ok (.iaload, 1) := by decide +kernel
theorem dX2_enterAll_112 : decode cX2_enterAll 112 = .ok (.iadd, 1) := by decide +kernel
theorem dX2_enterAll_113 : decode cX2_enterAll 113 = .ok (.putfield 32, 3) := by decide +kernel
theorem dX2_enterAll_116 : decode cX2_enterAll 116 = .ok (.aload_n 0, 1) := by decide +kernel
theorem dX2_enterAll_117 : decode cX2_enterAll 117 = .ok (.dup, 1) := by decide +kernel
theorem dX2_enterAll_118 : decode cX2_enterAll 118 = .ok (.getfield 28, 3) := by decide +kernel
theorem dX2_enterAll_121 : decode cX2_enterAll 121 = .ok (.iconst 1, 1) := by decide +kernel
theorem dX2_enterAll_122 : decode cX2_enterAll 122 = .ok (.iadd, 1) := by decide +kernel
theorem dX2_enterAll_123 : decode cX2_enterAll 123 = .ok (.putfield 28, 3) := by decide +kernel
theorem dX2_enterAll_126 : decode cX2_enterAll 126 = .ok (.iinc 4 1, 3) := by decide +kernel
theorem dX2_enterAll_129 : decode cX2_enterAll 129 = .ok (.goto (-116), 3) := by decide +kernel
theorem dX2_enterAll_132 : decode cX2_enterAll 132 = .ok (.return_, 1) := by decide +kernel
theorem dX2_entryOf_0 : decode cX2_entryOf 0 = .ok (.iconst 0, 1) := by decide +kernel
theorem dX2_entryOf_1 : decode cX2_entryOf 1 = .ok (.istore_n 2, 1) := by decide +kernel
theorem dX2_entryOf_2 : decode cX2_entryOf 2 = .ok (.iload_n 2, 1) := by decide +kernel
theorem dX2_entryOf_3 : decode cX2_entryOf 3 = .ok (.aload_n 0, 1) := by decide +kernel
theorem dX2_entryOf_4 : decode cX2_entryOf 4 = .ok (.getfield 28, 3) := by decide +kernel
theorem dX2_entryOf_7 : decode cX2_entryOf 7 = .ok (.if_icmp .ge 21, 3) := by decide +kernel
theorem dX2_entryOf_10 : decode cX2_entryOf 10 = .ok (.aload_n 0, 1) := by decide +kernel
theorem dX2_entryOf_11 : decode cX2_entryOf 11 = .ok (.getfield 9, 3) := by decide +kernel
theorem dX2_entryOf_14 : decode cX2_entryOf 14 = .ok (.iload_n 2, 1) := by decide +kernel
theorem dX2_entryOf_15 : decode cX2_entryOf 15 = .ok (.iaload, 1) := by decide +kernel
theorem dX2_entryOf_16 : decode cX2_entryOf 16 = .ok (.iload_n 1, 1) := by decide +kernel
theorem dX2_entryOf_17 : decode cX2_entryOf 17 = .ok (.if_icmp .ne 5, 3) := by decide +kernel
theorem dX2_entryOf_20 : decode cX2_entryOf 20 = .ok (.iload_n 2, 1) := by decide +kernel
theorem dX2_entryOf_21 : decode cX2_entryOf 21 = .ok (.ireturn, 1) := by decide +kernel
theorem dX2_entryOf_22 : decode cX2_entryOf 22 = .ok (.iinc 2 1, 3) := by decide +kernel
theorem dX2_entryOf_25 : decode cX2_entryOf 25 = .ok (.goto (-23), 3) := by decide +kernel
theorem dX2_entryOf_28 : decode cX2_entryOf 28 = .ok (.bipush (-6), 2) := by decide +kernel
theorem dX2_entryOf_30 : decode cX2_entryOf 30 = .ok (.ireturn, 1) := by decide +kernel
set_option maxRecDepth 20000 in
theorem ggX2_hold_X2_seedBehind : GoodIn wsX2_hold wsX2_seedBehind := goodIn_r _ [10, 11, 12] rfl (by decide +kernel)
set_option maxRecDepth 20000 in
theorem gX2_hold_X2_seedBehind : GoodIn wsX2_hold (va_wsS RX2 64 yX2_seedBehind wsX2_seedBehind) := goodIn_app (goodIn_of _ (by decide +kernel)) ggX2_hold_X2_seedBehind
set_option maxRecDepth 20000 in
theorem ggX2_hold_X2_entryAt : GoodIn wsX2_hold wsX2_entryAt := goodIn_r _ [16, 2, 3, 4, 17, 18, 19, 20, 21, 22, 23] rfl (by decide +kernel)
set_option maxRecDepth 20000 in
theorem gX2_hold_X2_entryAt : GoodIn wsX2_hold (wsV RX2 68 RX2 yX2_entryAt wsX2_entryAt) := goodIn_app (goodIn_of _ (by decide +kernel)) ggX2_hold_X2_entryAt
theorem dX2_hold_0 : decode cX2_hold 0 = .ok (.iload_n 1, 1) := by decide +kernel
theorem dX2_hold_1 : decode cX2_hold 1 = .ok (.istore_n 3, 1) := by decide +kernel
theorem dX2_hold_2 : decode cX2_hold 2 = .ok (.iload_n 2, 1) := by decide +kernel
theorem dX2_hold_3 : decode cX2_hold 3 = .ok (.istore 4, 2) := by decide +kernel
theorem dX2_hold_5 : decode cX2_hold 5 = .ok (.aload_n 0, 1) := by decide +kernel
theorem dX2_hold_6 : decode cX2_hold 6 = .ok (.getfield 32, 3) := by decide +kernel
theorem dX2_hold_9 : decode cX2_hold 9 = .ok (.istore 5, 2) := by decide +kernel
theorem dX2_hold_11 : decode cX2_hold 11 = .ok (.iconst 0, 1) := by decide +kernel
theorem dX2_hold_12 : decode cX2_hold 12 = .ok (.istore 6, 2) := by decide +kernel
theorem dX2_hold_14 : decode cX2_hold 14 = .ok (.iload 6, 2) := by decide +kernel
theorem dX2_hold_16 : decode cX2_hold 16 = .ok (.aload_n 0, 1) := by decide +kernel
theorem dX2_hold_17 : decode cX2_hold 17 = .ok (.getfield 28, 3) := by decide +kernel
theorem dX2_hold_20 : decode cX2_hold 20 = .ok (.if_icmp .ge 17, 3) := by decide +kernel
theorem dX2_hold_23 : decode cX2_hold 23 = .ok (.aload_n 0, 1) := by decide +kernel
theorem dX2_hold_24 : decode cX2_hold 24 = .ok (.getfield 21, 3) := by decide +kernel
theorem dX2_hold_27 : decode cX2_hold 27 = .ok (.iload 6, 2) := by decide +kernel
theorem dX2_hold_29 : decode cX2_hold 29 = .ok (.iconst 0, 1) := by decide +kernel
theorem dX2_hold_30 : decode cX2_hold 30 = .ok (.bastore, 1) := by decide +kernel
theorem dX2_hold_31 : decode cX2_hold 31 = .ok (.iinc 6 1, 3) := by decide +kernel
theorem dX2_hold_34 : decode cX2_hold 34 = .ok (.goto (-20), 3) := by decide +kernel
theorem dX2_hold_37 : decode cX2_hold 37 = .ok (.iconst 0, 1) := by decide +kernel
theorem dX2_hold_38 : decode cX2_hold 38 = .ok (.istore 6, 2) := by decide +kernel
theorem dX2_hold_40 : decode cX2_hold 40 = .ok (.iload 6, 2) := by decide +kernel
theorem dX2_hold_42 : decode cX2_hold 42 = .ok (.aload_n 0, 1) := by decide +kernel
theorem dX2_hold_43 : decode cX2_hold 43 = .ok (.getfield 28, 3) := by decide +kernel
theorem dX2_hold_46 : decode cX2_hold 46 = .ok (.if_icmp .ge 95, 3) := by decide +kernel
theorem dX2_hold_49 : decode cX2_hold 49 = .ok (.iload 5, 2) := by decide +kernel
theorem dX2_hold_51 : decode cX2_hold 51 = .ok (.ifCond .le 90, 3) := by decide +kernel
theorem dX2_hold_54 : decode cX2_hold 54 = .ok (.iload_n 3, 1) := by decide +kernel
theorem dX2_hold_55 : decode cX2_hold 55 = .ok (.invokestatic 64, 3) := by decide +kernel
theorem dX2_hold_58 : decode cX2_hold 58 = .ok (.istore_n 3, 1) := by decide +kernel
theorem dX2_hold_59 : decode cX2_hold 59 = .ok (.aload_n 0, 1) := by decide +kernel
theorem dX2_hold_60 : decode cX2_hold 60 = .ok (.iload_n 3, 1) := by decide +kernel
theorem dX2_hold_61 : decode cX2_hold 61 = .ok (.iload 5, 2) := by decide +kernel
theorem dX2_hold_63 : decode cX2_hold 63 = .ok (.irem, 1) := by decide +kernel
theorem dX2_hold_64 : decode cX2_hold 64 = .ok (.invokevirtual 68, 3) := by decide +kernel
theorem dX2_hold_67 : decode cX2_hold 67 = .ok (.istore 7, 2) := by decide +kernel
theorem dX2_hold_69 : decode cX2_hold 69 = .ok (.aload_n 0, 1) := by decide +kernel
theorem dX2_hold_70 : decode cX2_hold 70 = .ok (.getfield 21, 3) := by decide +kernel
theorem dX2_hold_73 : decode cX2_hold 73 = .ok (.iload 7, 2) := by decide +kernel
theorem dX2_hold_75 : decode cX2_hold 75 = .ok (.iconst 1, 1) := by decide +kernel
theorem dX2_hold_76 : decode cX2_hold 76 = .ok (.bastore, 1) := by decide +kernel
theorem dX2_hold_77 : decode cX2_hold 77 = .ok (.iload 5, 2) := by decide +kernel
theorem dX2_hold_79 : decode cX2_hold 79 = .ok (.aload_n 0, 1) := by decide +kernel
theorem dX2_hold_80 : decode cX2_hold 80 = .ok (.getfield 18, 3) := by decide +kernel
theorem dX2_hold_83 : decode cX2_hold 83 = .ok (.iload 7, 2) := by decide +kernel
theorem dX2_hold_85 : decode cX2_hold 85 = .ok (.iaload, 1) := by decide +kernel
theorem dX2_hold_86 : decode cX2_hold 86 = .ok (.isub, 1) := by decide +kernel
theorem dX2_hold_87 : decode cX2_hold 87 = .ok (.istore 5, 2) := by decide +kernel
theorem dX2_hold_89 : decode cX2_hold 89 = .ok (.aload_n 0, 1) := by decide +kernel
theorem dX2_hold_90 : decode cX2_hold 90 = .ok (.getfield 25, 3) := by decide +kernel
theorem dX2_hold_93 : decode cX2_hold 93 = .ok (.iload 7, 2) := by decide +kernel
theorem dX2_hold_95 : decode cX2_hold 95 = .ok (.aload_n 0, 1) := by decide +kernel
theorem dX2_hold_96 : decode cX2_hold 96 = .ok (.getfield 15, 3) := by decide +kernel
theorem dX2_hold_99 : decode cX2_hold 99 = .ok (.iload 7, 2) := by decide +kernel
theorem dX2_hold_101 : decode cX2_hold 101 = .ok (.iaload, 1) := by decide +kernel
theorem dX2_hold_102 : decode cX2_hold 102 = .ok (.iload 4, 2) := by decide +kernel
theorem dX2_hold_104 : decode cX2_hold 104 = .ok (.if_icmp .gt 7, 3) := by decide +kernel
theorem dX2_hold_107 : decode cX2_hold 107 = .ok (.iconst 1, 1) := by decide +kernel
theorem dX2_hold_108 : decode cX2_hold 108 = .ok (.goto 4, 3) := by decide +kernel
theorem dX2_hold_111 : decode cX2_hold 111 = .ok (.iconst 0, 1) := by decide +kernel
theorem dX2_hold_112 : decode cX2_hold 112 = .ok (.bastore, 1) := by decide +kernel
theorem dX2_hold_113 : decode cX2_hold 113 = .ok (.aload_n 0, 1) := by decide +kernel
theorem dX2_hold_114 : decode cX2_hold 114 = .ok (.getfield 25, 3) := by decide +kernel
theorem dX2_hold_117 : decode cX2_hold 117 = .ok (.iload 7, 2) := by decide +kernel
theorem dX2_hold_119 : decode cX2_hold 119 = .ok (.baload, 1) := by decide +kernel
theorem dX2_hold_120 : decode cX2_hold 120 = .ok (.ifCond .eq 15, 3) := by decide +kernel
theorem dX2_hold_123 : decode cX2_hold 123 = .ok (.iload 4, 2) := by decide +kernel
theorem dX2_hold_125 : decode cX2_hold 125 = .ok (.aload_n 0, 1) := by decide +kernel
theorem dX2_hold_126 : decode cX2_hold 126 = .ok (.getfield 15, 3) := by decide +kernel
theorem dX2_hold_129 : decode cX2_hold 129 = .ok (.iload 7, 2) := by decide +kernel
theorem dX2_hold_131 : decode cX2_hold 131 = .ok (.iaload, 1) := by decide +kernel
theorem dX2_hold_132 : decode cX2_hold 132 = .ok (.isub, 1) := by decide +kernel
theorem dX2_hold_133 : decode cX2_hold 133 = .ok (.istore 4, 2) := by decide +kernel
theorem dX2_hold_135 : decode cX2_hold 135 = .ok (.iinc 6 1, 3) := by decide +kernel
theorem dX2_hold_138 : decode cX2_hold 138 = .ok (.goto (-98), 3) := by decide +kernel
theorem dX2_hold_141 : decode cX2_hold 141 = .ok (.iload_n 3, 1) := by decide +kernel
theorem dX2_hold_142 : decode cX2_hold 142 = .ok (.ireturn, 1) := by decide +kernel
theorem dX2_seedBehind_0 : decode cX2_seedBehind 0 = .ok (.bipush 75, 2) := by decide +kernel
theorem dX2_seedBehind_2 : decode cX2_seedBehind 2 = .ok (.iload_n 0, 1) := by decide +kernel
theorem dX2_seedBehind_3 : decode cX2_seedBehind 3 = .ok (.imul, 1) := by decide +kernel
theorem dX2_seedBehind_4 : decode cX2_seedBehind 4 = .ok (.bipush 74, 2) := by decide +kernel
theorem dX2_seedBehind_6 : decode cX2_seedBehind 6 = .ok (.iadd, 1) := by decide +kernel
theorem dX2_seedBehind_7 : decode cX2_seedBehind 7 = .ok (.ldc 71, 2) := by decide +kernel
theorem dX2_seedBehind_9 : decode cX2_seedBehind 9 = .ok (.irem, 1) := by decide +kernel
theorem dX2_seedBehind_10 : decode cX2_seedBehind 10 = .ok (.istore_n 1, 1) := by decide +kernel
theorem dX2_seedBehind_11 : decode cX2_seedBehind 11 = .ok (.iload_n 1, 1) := by decide +kernel
theorem dX2_seedBehind_12 : decode cX2_seedBehind 12 = .ok (.ldc 72, 2) := by decide +kernel
theorem dX2_seedBehind_14 : decode cX2_seedBehind 14 = .ok (.if_icmp .ne 7, 3) := by decide +kernel
theorem dX2_seedBehind_17 : decode cX2_seedBehind 17 = .ok (.iconst 0, 1) := by decide +kernel
theorem dX2_seedBehind_18 : decode cX2_seedBehind 18 = .ok (.goto 4, 3) := by decide +kernel
theorem dX2_seedBehind_21 : decode cX2_seedBehind 21 = .ok (.iload_n 1, 1) := by decide +kernel
theorem dX2_seedBehind_22 : decode cX2_seedBehind 22 = .ok (.ireturn, 1) := by decide +kernel
theorem dX2_entryAt_0 : decode cX2_entryAt 0 = .ok (.iconst 0, 1) := by decide +kernel
theorem dX2_entryAt_1 : decode cX2_entryAt 1 = .ok (.istore_n 2, 1) := by decide +kernel
theorem dX2_entryAt_2 : decode cX2_entryAt 2 = .ok (.iconst 0, 1) := by decide +kernel
theorem dX2_entryAt_3 : decode cX2_entryAt 3 = .ok (.istore_n 3, 1) := by decide +kernel
theorem dX2_entryAt_4 : decode cX2_entryAt 4 = .ok (.iconst 0, 1) := by decide +kernel
theorem dX2_entryAt_5 : decode cX2_entryAt 5 = .ok (.istore 4, 2) := by decide +kernel
theorem dX2_entryAt_7 : decode cX2_entryAt 7 = .ok (.iload 4, 2) := by decide +kernel
theorem dX2_entryAt_9 : decode cX2_entryAt 9 = .ok (.aload_n 0, 1) := by decide +kernel
theorem dX2_entryAt_10 : decode cX2_entryAt 10 = .ok (.getfield 28, 3) := by decide +kernel
theorem dX2_entryAt_13 : decode cX2_entryAt 13 = .ok (.if_icmp .ge 37, 3) := by decide +kernel
theorem dX2_entryAt_16 : decode cX2_entryAt 16 = .ok (.iload_n 2, 1) := by decide +kernel
theorem dX2_entryAt_17 : decode cX2_entryAt 17 = .ok (.iload_n 1, 1) := by decide +kernel
theorem dX2_entryAt_18 : decode cX2_entryAt 18 = .ok (.if_icmp .gt 32, 3) := by decide +kernel
theorem dX2_entryAt_21 : decode cX2_entryAt 21 = .ok (.aload_n 0, 1) := by decide +kernel
theorem dX2_entryAt_22 : decode cX2_entryAt 22 = .ok (.getfield 21, 3) := by decide +kernel
theorem dX2_entryAt_25 : decode cX2_entryAt 25 = .ok (.iload 4, 2) := by decide +kernel
theorem dX2_entryAt_27 : decode cX2_entryAt 27 = .ok (.baload, 1) := by decide +kernel
theorem dX2_entryAt_28 : decode cX2_entryAt 28 = .ok (.ifCond .ne 16, 3) := by decide +kernel
theorem dX2_entryAt_31 : decode cX2_entryAt 31 = .ok (.iload_n 2, 1) := by decide +kernel
theorem dX2_entryAt_32 : decode cX2_entryAt 32 = .ok (.aload_n 0, 1) := by decide +kernel
theorem dX2_entryAt_33 : decode cX2_entryAt 33 = .ok (.getfield 18, 3) := by decide +kernel
theorem dX2_entryAt_36 : decode cX2_entryAt 36 = .ok (.iload 4, 2) := by decide +kernel
theorem dX2_entryAt_38 : decode cX2_entryAt 38 = .ok (.iaload, 1) := by decide +kernel
theorem dX2_entryAt_39 : decode cX2_entryAt 39 = .ok (.iadd, 1) := by decide +kernel
theorem dX2_entryAt_40 : decode cX2_entryAt 40 = .ok (.istore_n 2, 1) := by decide +kernel
theorem dX2_entryAt_41 : decode cX2_entryAt 41 = .ok (.iload 4, 2) := by decide +kernel
theorem dX2_entryAt_43 : decode cX2_entryAt 43 = .ok (.istore_n 3, 1) := by decide +kernel
theorem dX2_entryAt_44 : decode cX2_entryAt 44 = .ok (.iinc 4 1, 3) := by decide +kernel
theorem dX2_entryAt_47 : decode cX2_entryAt 47 = .ok (.goto (-40), 3) := by decide +kernel
theorem dX2_entryAt_50 : decode cX2_entryAt 50 = .ok (.iload_n 3, 1) := by decide +kernel
theorem dX2_entryAt_51 : decode cX2_entryAt 51 = .ok (.ireturn, 1) := by decide +kernel
set_option maxRecDepth 20000 in
theorem ggX2_settle_X3_givePermit : GoodIn wsX2_settle wsX3_givePermit := goodIn_r _ [12, 13, 14, 15, 16, 33, 34, 35, 36, 37, 38, 39, 40, 41, 24, 25, 26, 27, 28, 29, 30, 31, 32] rfl (by decide +kernel)
set_option maxRecDepth 20000 in
theorem gX2_settle_X3_givePermit : GoodIn wsX2_settle (wsV RX2 73 RX3 yX3_givePermit wsX3_givePermit) := goodIn_app (goodIn_of _ (by decide +kernel)) ggX2_settle_X3_givePermit
theorem dX2_settle_0 : decode cX2_settle 0 = .ok (.iconst 0, 1) := by decide +kernel
theorem dX2_settle_1 : decode cX2_settle 1 = .ok (.istore_n 2, 1) := by decide +kernel
theorem dX2_settle_2 : decode cX2_settle 2 = .ok (.iconst 0, 1) := by decide +kernel
theorem dX2_settle_3 : decode cX2_settle 3 = .ok (.istore_n 3, 1) := by decide +kernel
theorem dX2_settle_4 : decode cX2_settle 4 = .ok (.iload_n 3, 1) := by decide +kernel
theorem dX2_settle_5 : decode cX2_settle 5 = .ok (.aload_n 0, 1) := by decide +kernel
theorem dX2_settle_6 : decode cX2_settle 6 = .ok (.getfield 28, 3) := by decide +kernel
theorem dX2_settle_9 : decode cX2_settle 9 = .ok (.if_icmp .ge 76, 3) := by decide +kernel
theorem dX2_settle_12 : decode cX2_settle 12 = .ok (.aload_n 1, 1) := by decide +kernel
theorem dX2_settle_13 : decode cX2_settle 13 = .ok (.getfield 40, 3) := by decide +kernel
theorem dX2_settle_16 : decode cX2_settle 16 = .ok (.aload_n 0, 1) := by decide +kernel
theorem dX2_settle_17 : decode cX2_settle 17 = .ok (.getfield 9, 3) := by decide +kernel
theorem dX2_settle_20 : decode cX2_settle 20 = .ok (.iload_n 3, 1) := by decide +kernel
theorem dX2_settle_21 : decode cX2_settle 21 = .ok (.iaload, 1) := by decide +kernel
theorem dX2_settle_22 : decode cX2_settle 22 = .ok (.aaload, 1) := by decide +kernel
theorem dX2_settle_23 : decode cX2_settle 23 = .ok (.astore 4, 2) := by decide +kernel
theorem dX2_settle_25 : decode cX2_settle 25 = .ok (.aload_n 0, 1) := by decide +kernel
theorem dX2_settle_26 : decode cX2_settle 26 = .ok (.getfield 25, 3) := by decide +kernel
theorem dX2_settle_29 : decode cX2_settle 29 = .ok (.iload_n 3, 1) := by decide +kernel
theorem dX2_settle_30 : decode cX2_settle 30 = .ok (.baload, 1) := by decide +kernel
theorem dX2_settle_31 : decode cX2_settle 31 = .ok (.ifCond .eq 29, 3) := by decide +kernel
theorem dX2_settle_34 : decode cX2_settle 34 = .ok (.aload_n 1, 1) := by decide +kernel
theorem dX2_settle_35 : decode cX2_settle 35 = .ok (.aload 4, 2) := by decide +kernel
theorem dX2_settle_37 : decode cX2_settle 37 = .ok (.invokevirtual 73, 3) := by decide +kernel
theorem dX2_settle_40 : decode cX2_settle 40 = .ok (.aload_n 1, 1) := by decide +kernel
theorem dX2_settle_41 : decode cX2_settle 41 = .ok (.getfield 77, 3) := by decide +kernel
theorem dX2_settle_44 : decode cX2_settle 44 = .ok (.aload 4, 2) := by decide +kernel
theorem dX2_settle_46 : decode cX2_settle 46 = .ok (.getfield 81, 3) := by decide +kernel
theorem dX2_settle_49 : decode cX2_settle 49 = .ok (.aaload, 1) := by decide +kernel
theorem dX2_settle_50 : decode cX2_settle 50 = .ok (.iconst 0, 1) := by decide +kernel
theorem dX2_settle_51 : decode cX2_settle 51 = .ok (.putfield 84, 3) := by decide +kernel
theorem dX2_settle_54 : decode cX2_settle 54 = .ok (.iinc 2 1, 3) := by decide +kernel
theorem dX2_settle_57 : decode cX2_settle 57 = .ok (.goto 22, 3) := by decide +kernel
theorem dX2_settle_60 : decode cX2_settle 60 = .ok (.aload_n 1, 1) := by decide +kernel
theorem dX2_settle_61 : decode cX2_settle 61 = .ok (.getfield 77, 3) := by decide +kernel
theorem dX2_settle_64 : decode cX2_settle 64 = .ok (.aload 4, 2) := by decide +kernel
theorem dX2_settle_66 : decode cX2_settle 66 = .ok (.getfield 81, 3) := by decide +kernel
theorem dX2_settle_69 : decode cX2_settle 69 = .ok (.aaload, 1) := by decide +kernel
theorem dX2_settle_70 : decode cX2_settle 70 = .ok (.dup, 1) := by decide +kernel
theorem dX2_settle_71 : decode cX2_settle 71 = .ok (.getfield 84, 3) := by decide +kernel
theorem dX2_settle_74 : decode cX2_settle 74 = .ok (.iconst 1, 1) := by decide +kernel
theorem dX2_settle_75 : decode cX2_settle 75 = .ok (.iadd, 1) := by decide +kernel
theorem dX2_settle_76 : decode cX2_settle 76 = .ok (.putfield 84, 3) := by decide +kernel
theorem dX2_settle_79 : decode cX2_settle 79 = .ok (.iinc 3 1, 3) := by decide +kernel
theorem dX2_settle_82 : decode cX2_settle 82 = .ok (.goto (-78), 3) := by decide +kernel
theorem dX2_settle_85 : decode cX2_settle 85 = .ok (.iload_n 2, 1) := by decide +kernel
theorem dX2_settle_86 : decode cX2_settle 86 = .ok (.ireturn, 1) := by decide +kernel
set_option maxRecDepth 20000 in
theorem ggX3_init_X5_init : GoodIn wsX3_init wsX5_init := goodIn_r _ [21, 22, 2, 3] rfl (by decide +kernel)
set_option maxRecDepth 20000 in
theorem gX3_init_X5_init_n40 : GoodIn wsX3_init (wsX5_init) := ggX3_init_X5_init
set_option maxRecDepth 20000 in
theorem ggX3_init_X1_init : GoodIn wsX3_init wsX1_init := goodIn_r _ [24, 25, 2, 3, 26, 41, 42, 43] rfl (by decide +kernel)
set_option maxRecDepth 20000 in
theorem gX3_init_X1_init_n41 : GoodIn wsX3_init (wsX1_init) := ggX3_init_X1_init
set_option maxRecDepth 20000 in
theorem ggX3_init_X0_init : GoodIn wsX3_init wsX0_init := goodIn_r _ [28, 29, 2, 3] rfl (by decide +kernel)
set_option maxRecDepth 20000 in
theorem gX3_init_X0_init_n42 : GoodIn wsX3_init (wsX0_init) := ggX3_init_X0_init
theorem dX3_init_0 : decode cX3_init 0 = .ok (.aload_n 0, 1) := by decide +kernel
theorem dX3_init_1 : decode cX3_init 1 = .ok (.invokespecial 3, 3) := by decide +kernel
theorem dX3_init_4 : decode cX3_init 4 = .ok (.aload_n 0, 1) := by decide +kernel
theorem dX3_init_5 : decode cX3_init 5 = .ok (.bipush 6, 2) := by decide +kernel
theorem dX3_init_7 : decode cX3_init 7 = .ok (.anewarray 9, 3) := by decide +kernel
theorem dX3_init_10 : decode cX3_init 10 = .ok (.putfield 11, 3) := by decide +kernel
theorem dX3_init_13 : decode cX3_init 13 = .ok (.aload_n 0, 1) := by decide +kernel
theorem dX3_init_14 : decode cX3_init 14 = .ok (.bipush 12, 2) := by decide +kernel
theorem dX3_init_16 : decode cX3_init 16 = .ok (.anewarray 17, 3) := by decide +kernel
theorem dX3_init_19 : decode cX3_init 19 = .ok (.putfield 19, 3) := by decide +kernel
theorem dX3_init_22 : decode cX3_init 22 = .ok (.aload_n 0, 1) := by decide +kernel
theorem dX3_init_23 : decode cX3_init 23 = .ok (.bipush 40, 2) := by decide +kernel
theorem dX3_init_25 : decode cX3_init 25 = .ok (.anewarray 23, 3) := by decide +kernel
theorem dX3_init_28 : decode cX3_init 28 = .ok (.putfield 25, 3) := by decide +kernel
theorem dX3_init_31 : decode cX3_init 31 = .ok (.aload_n 0, 1) := by decide +kernel
theorem dX3_init_32 : decode cX3_init 32 = .ok (.bipush 60, 2) := by decide +kernel
theorem dX3_init_34 : decode cX3_init 34 = .ok (.newarray .boolean, 2) := by decide +kernel
theorem dX3_init_36 : decode cX3_init 36 = .ok (.putfield 29, 3) := by decide +kernel
theorem dX3_init_39 : decode cX3_init 39 = .ok (.aload_n 0, 1) := by decide +kernel
theorem dX3_init_40 : decode cX3_init 40 = .ok (.getstatic 33, 3) := by decide +kernel
theorem dX3_init_43 : decode cX3_init 43 = .ok (.arraylength, 1) := by decide +kernel
theorem dX3_init_44 : decode cX3_init 44 = .ok (.newarray .int, 2) := by decide +kernel
theorem dX3_init_46 : decode cX3_init 46 = .ok (.putfield 37, 3) := by decide +kernel
theorem dX3_init_49 : decode cX3_init 49 = .ok (.iconst 0, 1) := by decide +kernel
theorem dX3_init_50 : decode cX3_init 50 = .ok (.istore_n 1, 1) := by decide +kernel
theorem dX3_init_51 : decode cX3_init 51 = .ok (.iload_n 1, 1) := by decide +kernel
theorem dX3_init_52 : decode cX3_init 52 = .ok (.aload_n 0, 1) := by decide +kernel
theorem dX3_init_53 : decode cX3_init 53 = .ok (.getfield 11, 3) := by decide +kernel
theorem dX3_init_56 : decode cX3_init 56 = .ok (.arraylength, 1) := by decide +kernel
theorem dX3_init_57 : decode cX3_init 57 = .ok (.if_icmp .ge 22, 3) := by decide +kernel
theorem dX3_init_60 : decode cX3_init 60 = .ok (.aload_n 0, 1) := by decide +kernel
theorem dX3_init_61 : decode cX3_init 61 = .ok (.getfield 11, 3) := by decide +kernel
theorem dX3_init_64 : decode cX3_init 64 = .ok (.iload_n 1, 1) := by decide +kernel
theorem dX3_init_65 : decode cX3_init 65 = .ok (.new 9, 3) := by decide +kernel
theorem dX3_init_68 : decode cX3_init 68 = .ok (.dup, 1) := by decide +kernel
theorem dX3_init_69 : decode cX3_init 69 = .ok (.invokespecial 40, 3) := by decide +kernel
theorem dX3_init_72 : decode cX3_init 72 = .ok (.aastore, 1) := by decide +kernel
theorem dX3_init_73 : decode cX3_init 73 = .ok (.iinc 1 1, 3) := by decide +kernel
theorem dX3_init_76 : decode cX3_init 76 = .ok (.goto (-25), 3) := by decide +kernel
theorem dX3_init_79 : decode cX3_init 79 = .ok (.iconst 0, 1) := by decide +kernel
theorem dX3_init_80 : decode cX3_init 80 = .ok (.istore_n 1, 1) := by decide +kernel
theorem dX3_init_81 : decode cX3_init 81 = .ok (.iload_n 1, 1) := by decide +kernel
theorem dX3_init_82 : decode cX3_init 82 = .ok (.aload_n 0, 1) := by decide +kernel
theorem dX3_init_83 : decode cX3_init 83 = .ok (.getfield 19, 3) := by decide +kernel
theorem dX3_init_86 : decode cX3_init 86 = .ok (.arraylength, 1) := by decide +kernel
theorem dX3_init_87 : decode cX3_init 87 = .ok (.if_icmp .ge 22, 3) := by decide +kernel
theorem dX3_init_90 : decode cX3_init 90 = .ok (.aload_n 0, 1) := by decide +kernel
theorem dX3_init_91 : decode cX3_init 91 = .ok (.getfield 19, 3) := by decide +kernel
theorem dX3_init_94 : decode cX3_init 94 = .ok (.iload_n 1, 1) := by decide +kernel
theorem dX3_init_95 : decode cX3_init 95 = .ok (.new 17, 3) := by decide +kernel
theorem dX3_init_98 : decode cX3_init 98 = .ok (.dup, 1) := by decide +kernel
theorem dX3_init_99 : decode cX3_init 99 = .ok (.invokespecial 41, 3) := by decide +kernel
theorem dX3_init_102 : decode cX3_init 102 = .ok (.aastore, 1) := by decide +kernel
theorem dX3_init_103 : decode cX3_init 103 = .ok (.iinc 1 1, 3) := by decide +kernel
theorem dX3_init_106 : decode cX3_init 106 = .ok (.goto (-25), 3) := by decide +kernel
theorem dX3_init_109 : decode cX3_init 109 = .ok (.iconst 0, 1) := by decide +kernel
theorem dX3_init_110 : decode cX3_init 110 = .ok (.istore_n 1, 1) := by decide +kernel
theorem dX3_init_111 : decode cX3_init 111 = .ok (.iload_n 1, 1) := by decide +kernel
theorem dX3_init_112 : decode cX3_init 112 = .ok (.aload_n 0, 1) := by decide +kernel
theorem dX3_init_113 : decode cX3_init 113 = .ok (.getfield 25, 3) := by decide +kernel
theorem dX3_init_116 : decode cX3_init 116 = .ok (.arraylength, 1) := by decide +kernel
theorem dX3_init_117 : decode cX3_init 117 = .ok (.if_icmp .ge 22, 3) := by decide +kernel
theorem dX3_init_120 : decode cX3_init 120 = .ok (.aload_n 0, 1) := by decide +kernel
theorem dX3_init_121 : decode cX3_init 121 = .ok (.getfield 25, 3) := by decide +kernel
theorem dX3_init_124 : decode cX3_init 124 = .ok (.iload_n 1, 1) := by decide +kernel
theorem dX3_init_125 : decode cX3_init 125 = .ok (.new 23, 3) := by decide +kernel
theorem dX3_init_128 : decode cX3_init 128 = .ok (.dup, 1) := by decide +kernel
theorem dX3_init_129 : decode cX3_init 129 = .ok (.invokespecial 42, 3) := by decide +kernel
theorem dX3_init_132 : decode cX3_init 132 = .ok (.aastore, 1) := by decide +kernel
theorem dX3_init_133 : decode cX3_init 133 = .ok (.iinc 1 1, 3) := by decide +kernel
theorem dX3_init_136 : decode cX3_init 136 = .ok (.goto (-25), 3) := by decide +kernel
theorem dX3_init_139 : decode cX3_init 139 = .ok (.iconst 0, 1) := by decide +kernel
theorem dX3_init_140 : decode cX3_init 140 = .ok (.istore_n 1, 1) := by decide +kernel
theorem dX3_init_141 : decode cX3_init 141 = .ok (.iload_n 1, 1) := by decide +kernel
theorem dX3_init_142 : decode cX3_init 142 = .ok (.aload_n 0, 1) := by decide +kernel
theorem dX3_init_143 : decode cX3_init 143 = .ok (.getfield 37, 3) := by decide +kernel
theorem dX3_init_146 : decode cX3_init 146 = .ok (.arraylength, 1) := by decide +kernel
theorem dX3_init_147 : decode cX3_init 147 = .ok (.if_icmp .ge 20, 3) := by decide +kernel
theorem dX3_init_150 : decode cX3_init 150 = .ok (.aload_n 0, 1) := by decide +kernel
theorem dX3_init_151 : decode cX3_init 151 = .ok (.getfield 37, 3) := by decide +kernel
theorem dX3_init_154 : decode cX3_init 154 = .ok (.iload_n 1, 1) := by decide +kernel
theorem dX3_init_155 : decode cX3_init 155 = .ok (.getstatic 33, 3) := by decide +kernel
theorem dX3_init_158 : decode cX3_init 158 = .ok (.iload_n 1, 1) := by decide +kernel
theorem dX3_init_159 : decode cX3_init 159 = .ok (.iaload, 1) := by decide +kernel
theorem dX3_init_160 : decode cX3_init 160 = .ok (.iastore, 1) := by decide +kernel
theorem dX3_init_161 : decode cX3_init 161 = .ok (.iinc 1 1, 3) := by decide +kernel
theorem dX3_init_164 : decode cX3_init 164 = .ok (.goto (-23), 3) := by decide +kernel
theorem dX3_init_167 : decode cX3_init 167 = .ok (.return_, 1) := by decide +kernel
set_option maxRecDepth 20000 in
theorem ggX3_copyFrom_X5_copyFrom : GoodIn wsX3_copyFrom wsX5_copyFrom := goodIn_r _ [14, 15, 16, 48, 49] rfl (by decide +kernel)
set_option maxRecDepth 20000 in
theorem gX3_copyFrom_X5_copyFrom : GoodIn wsX3_copyFrom (wsV RX3 56 RX5 yX5_copyFrom wsX5_copyFrom) := goodIn_app (goodIn_of _ (by decide +kernel)) ggX3_copyFrom_X5_copyFrom
set_option maxRecDepth 20000 in
theorem ggX3_copyFrom_X1_copyFrom : GoodIn wsX3_copyFrom wsX1_copyFrom := goodIn_r _ [21, 22, 23, 24, 50, 51, 52] rfl (by decide +kernel)
set_option maxRecDepth 20000 in
theorem gX3_copyFrom_X1_copyFrom : GoodIn wsX3_copyFrom (wsV RX3 60 RX1 yX1_copyFrom wsX1_copyFrom) := goodIn_app (goodIn_of _ (by decide +kernel)) ggX3_copyFrom_X1_copyFrom
set_option maxRecDepth 20000 in
theorem ggX3_copyFrom_X0_copyFrom : GoodIn wsX3_copyFrom wsX0_copyFrom := goodIn_r _ [29, 30, 31, 32, 33, 34, 35, 36, 37, 38, 53, 54, 55, 56, 57, 58, 59, 60, 61] rfl (by decide +kernel)
set_option maxRecDepth 20000 in
theorem gX3_copyFrom_X0_copyFrom : GoodIn wsX3_copyFrom (wsV RX3 63 RX0 yX0_copyFrom wsX0_copyFrom) := goodIn_app (goodIn_of _ (by decide +kernel)) ggX3_copyFrom_X0_copyFrom
theorem dX3_copyFrom_0 : decode cX3_copyFrom 0 = .ok (.aload_n 0, 1) := by decide +kernel
theorem dX3_copyFrom_1 : decode cX3_copyFrom 1 = .ok (.aload_n 1, 1) := by decide +kernel
theorem dX3_copyFrom_2 : decode cX3_copyFrom 2 = .ok (.getfield 43, 3) := by decide +kernel
theorem dX3_copyFrom_5 : decode cX3_copyFrom 5 = .ok (.putfield 43, 3) := by decide +kernel
theorem dX3_copyFrom_8 : decode cX3_copyFrom 8 = .ok (.aload_n 0, 1) := by decide +kernel
theorem dX3_copyFrom_9 : decode cX3_copyFrom 9 = .ok (.aload_n 1, 1) := by decide +kernel
theorem dX3_copyFrom_10 : decode cX3_copyFrom 10 = .ok (.getfield 47, 3) := by decide +kernel
theorem dX3_copyFrom_13 : decode cX3_copyFrom 13 = .ok (.putfield 47, 3) := by decide +kernel
theorem dX3_copyFrom_16 : decode cX3_copyFrom 16 = .ok (.aload_n 0, 1) := by decide +kernel
theorem dX3_copyFrom_17 : decode cX3_copyFrom 17 = .ok (.aload_n 1, 1) := by decide +kernel
theorem dX3_copyFrom_18 : decode cX3_copyFrom 18 = .ok (.getfield 50, 3) := by decide +kernel
theorem dX3_copyFrom_21 : decode cX3_copyFrom 21 = .ok (.putfield 50, 3) := by decide +kernel
theorem dX3_copyFrom_24 : decode cX3_copyFrom 24 = .ok (.aload_n 0, 1) := by decide +kernel
theorem dX3_copyFrom_25 : decode cX3_copyFrom 25 = .ok (.aload_n 1, 1) := by decide +kernel
theorem dX3_copyFrom_26 : decode cX3_copyFrom 26 = .ok (.getfield 53, 3) := by decide +kernel
theorem dX3_copyFrom_29 : decode cX3_copyFrom 29 = .ok (.putfield 53, 3) := by decide +kernel
theorem dX3_copyFrom_32 : decode cX3_copyFrom 32 = .ok (.iconst 0, 1) := by decide +kernel
theorem dX3_copyFrom_33 : decode cX3_copyFrom 33 = .ok (.istore_n 2, 1) := by decide +kernel
theorem dX3_copyFrom_34 : decode cX3_copyFrom 34 = .ok (.iload_n 2, 1) := by decide +kernel
theorem dX3_copyFrom_35 : decode cX3_copyFrom 35 = .ok (.aload_n 0, 1) := by decide +kernel
theorem dX3_copyFrom_36 : decode cX3_copyFrom 36 = .ok (.getfield 11, 3) := by decide +kernel
theorem dX3_copyFrom_39 : decode cX3_copyFrom 39 = .ok (.arraylength, 1) := by decide +kernel
theorem dX3_copyFrom_40 : decode cX3_copyFrom 40 = .ok (.if_icmp .ge 24, 3) := by decide +kernel
theorem dX3_copyFrom_43 : decode cX3_copyFrom 43 = .ok (.aload_n 0, 1) := by decide +kernel
theorem dX3_copyFrom_44 : decode cX3_copyFrom 44 = .ok (.getfield 11, 3) := by decide +kernel
theorem dX3_copyFrom_47 : decode cX3_copyFrom 47 = .ok (.iload_n 2, 1) := by decide +kernel
theorem dX3_copyFrom_48 : decode cX3_copyFrom 48 = .ok (.aaload, 1) := by decide +kernel
theorem dX3_copyFrom_49 : decode cX3_copyFrom 49 = .ok (.aload_n 1, 1) := by decide +kernel
theorem dX3_copyFrom_50 : decode cX3_copyFrom 50 = .ok (.getfield 11, 3) := by decide +kernel
theorem dX3_copyFrom_53 : decode cX3_copyFrom 53 = .ok (.iload_n 2, 1) := by decide +kernel
theorem dX3_copyFrom_54 : decode cX3_copyFrom 54 = .ok (.aaload, 1) := by decide +kernel
theorem dX3_copyFrom_55 : decode cX3_copyFrom 55 = .ok (.invokevirtual 56, 3) := by decide +kernel
theorem dX3_copyFrom_58 : decode cX3_copyFrom 58 = .ok (.iinc 2 1, 3) := by decide +kernel
theorem dX3_copyFrom_61 : decode cX3_copyFrom 61 = .ok (.goto (-27), 3) := by decide +kernel
theorem dX3_copyFrom_64 : decode cX3_copyFrom 64 = .ok (.iconst 0, 1) := by decide +kernel
theorem dX3_copyFrom_65 : decode cX3_copyFrom 65 = .ok (.istore_n 2, 1) := by decide +kernel
theorem dX3_copyFrom_66 : decode cX3_copyFrom 66 = .ok (.iload_n 2, 1) := by decide +kernel
theorem dX3_copyFrom_67 : decode cX3_copyFrom 67 = .ok (.aload_n 0, 1) := by decide +kernel
theorem dX3_copyFrom_68 : decode cX3_copyFrom 68 = .ok (.getfield 19, 3) := by decide +kernel
theorem dX3_copyFrom_71 : decode cX3_copyFrom 71 = .ok (.arraylength, 1) := by decide +kernel
theorem dX3_copyFrom_72 : decode cX3_copyFrom 72 = .ok (.if_icmp .ge 24, 3) := by decide +kernel
theorem dX3_copyFrom_75 : decode cX3_copyFrom 75 = .ok (.aload_n 0, 1) := by decide +kernel
theorem dX3_copyFrom_76 : decode cX3_copyFrom 76 = .ok (.getfield 19, 3) := by decide +kernel
theorem dX3_copyFrom_79 : decode cX3_copyFrom 79 = .ok (.iload_n 2, 1) := by decide +kernel
theorem dX3_copyFrom_80 : decode cX3_copyFrom 80 = .ok (.aaload, 1) := by decide +kernel
theorem dX3_copyFrom_81 : decode cX3_copyFrom 81 = .ok (.aload_n 1, 1) := by decide +kernel
theorem dX3_copyFrom_82 : decode cX3_copyFrom 82 = .ok (.getfield 19, 3) := by decide +kernel
theorem dX3_copyFrom_85 : decode cX3_copyFrom 85 = .ok (.iload_n 2, 1) := by decide +kernel
theorem dX3_copyFrom_86 : decode cX3_copyFrom 86 = .ok (.aaload, 1) := by decide +kernel
theorem dX3_copyFrom_87 : decode cX3_copyFrom 87 = .ok (.invokevirtual 60, 3) := by decide +kernel
theorem dX3_copyFrom_90 : decode cX3_copyFrom 90 = .ok (.iinc 2 1, 3) := by decide +kernel
theorem dX3_copyFrom_93 : decode cX3_copyFrom 93 = .ok (.goto (-27), 3) := by decide +kernel
theorem dX3_copyFrom_96 : decode cX3_copyFrom 96 = .ok (.iconst 0, 1) := by decide +kernel
theorem dX3_copyFrom_97 : decode cX3_copyFrom 97 = .ok (.istore_n 2, 1) := by decide +kernel
theorem dX3_copyFrom_98 : decode cX3_copyFrom 98 = .ok (.iload_n 2, 1) := by decide +kernel
theorem dX3_copyFrom_99 : decode cX3_copyFrom 99 = .ok (.aload_n 0, 1) := by decide +kernel
theorem dX3_copyFrom_100 : decode cX3_copyFrom 100 = .ok (.getfield 25, 3) := by decide +kernel
theorem dX3_copyFrom_103 : decode cX3_copyFrom 103 = .ok (.arraylength, 1) := by decide +kernel
theorem dX3_copyFrom_104 : decode cX3_copyFrom 104 = .ok (.if_icmp .ge 24, 3) := by decide +kernel
theorem dX3_copyFrom_107 : decode cX3_copyFrom 107 = .ok (.aload_n 0, 1) := by decide +kernel
theorem dX3_copyFrom_108 : decode cX3_copyFrom 108 = .ok (.getfield 25, 3) := by decide +kernel
theorem dX3_copyFrom_111 : decode cX3_copyFrom 111 = .ok (.iload_n 2, 1) := by decide +kernel
theorem dX3_copyFrom_112 : decode cX3_copyFrom 112 = .ok (.aaload, 1) := by decide +kernel
theorem dX3_copyFrom_113 : decode cX3_copyFrom 113 = .ok (.aload_n 1, 1) := by decide +kernel
theorem dX3_copyFrom_114 : decode cX3_copyFrom 114 = .ok (.getfield 25, 3) := by decide +kernel
theorem dX3_copyFrom_117 : decode cX3_copyFrom 117 = .ok (.iload_n 2, 1) := by decide +kernel
theorem dX3_copyFrom_118 : decode cX3_copyFrom 118 = .ok (.aaload, 1) := by decide +kernel
theorem dX3_copyFrom_119 : decode cX3_copyFrom 119 = .ok (.invokevirtual 63, 3) := by decide +kernel
theorem dX3_copyFrom_122 : decode cX3_copyFrom 122 = .ok (.iinc 2 1, 3) := by decide +kernel
theorem dX3_copyFrom_125 : decode cX3_copyFrom 125 = .ok (.goto (-27), 3) := by decide +kernel
theorem dX3_copyFrom_128 : decode cX3_copyFrom 128 = .ok (.iconst 0, 1) := by decide +kernel
theorem dX3_copyFrom_129 : decode cX3_copyFrom 129 = .ok (.istore_n 2, 1) := by decide +kernel
theorem dX3_copyFrom_130 : decode cX3_copyFrom 130 = .ok (.iload_n 2, 1) := by decide +kernel
theorem dX3_copyFrom_131 : decode cX3_copyFrom 131 = .ok (.aload_n 0, 1) := by decide +kernel
theorem dX3_copyFrom_132 : decode cX3_copyFrom 132 = .ok (.getfield 29, 3) := by decide +kernel
theorem dX3_copyFrom_135 : decode cX3_copyFrom 135 = .ok (.arraylength, 1) := by decide +kernel
theorem dX3_copyFrom_136 : decode cX3_copyFrom 136 = .ok (.if_icmp .ge 21, 3) := by decide +kernel
theorem dX3_copyFrom_139 : decode cX3_copyFrom 139 = .ok (.aload_n 0, 1) := by decide +kernel
theorem dX3_copyFrom_140 : decode cX3_copyFrom 140 = .ok (.getfield 29, 3) := by decide +kernel
theorem dX3_copyFrom_143 : decode cX3_copyFrom 143 = .ok (.iload_n 2, 1) := by decide +kernel
theorem dX3_copyFrom_144 : decode cX3_copyFrom 144 = .ok (.aload_n 1, 1) := by decide +kernel
theorem dX3_copyFrom_145 : decode cX3_copyFrom 145 = .ok (.getfield 29, 3) := by decide +kernel
theorem dX3_copyFrom_148 : decode cX3_copyFrom 148 = .ok (.iload_n 2, 1) := by decide +kernel
theorem dX3_copyFrom_149 : decode cX3_copyFrom 149 = .ok (.baload, 1) := by decide +kernel
theorem dX3_copyFrom_150 : decode cX3_copyFrom 150 = .ok (.bastore, 1) := by decide +kernel
theorem dX3_copyFrom_151 : decode cX3_copyFrom 151 = .ok (.iinc 2 1, 3) := by decide +kernel
theorem dX3_copyFrom_154 : decode cX3_copyFrom 154 = .ok (.goto (-24), 3) := by decide +kernel
theorem dX3_copyFrom_157 : decode cX3_copyFrom 157 = .ok (.iconst 0, 1) := by decide +kernel
theorem dX3_copyFrom_158 : decode cX3_copyFrom 158 = .ok (.istore_n 2, 1) := by decide +kernel
theorem dX3_copyFrom_159 : decode cX3_copyFrom 159 = .ok (.iload_n 2, 1) := by decide +kernel
theorem dX3_copyFrom_160 : decode cX3_copyFrom 160 = .ok (.aload_n 0, 1) := by decide +kernel
theorem dX3_copyFrom_161 : decode cX3_copyFrom 161 = .ok (.getfield 37, 3) := by decide +kernel
theorem dX3_copyFrom_164 : decode cX3_copyFrom 164 = .ok (.arraylength, 1) := by decide +kernel
theorem dX3_copyFrom_165 : decode cX3_copyFrom 165 = .ok (.if_icmp .ge 21, 3) := by decide +kernel
theorem dX3_copyFrom_168 : decode cX3_copyFrom 168 = .ok (.aload_n 0, 1) := by decide +kernel
theorem dX3_copyFrom_169 : decode cX3_copyFrom 169 = .ok (.getfield 37, 3) := by decide +kernel
theorem dX3_copyFrom_172 : decode cX3_copyFrom 172 = .ok (.iload_n 2, 1) := by decide +kernel
theorem dX3_copyFrom_173 : decode cX3_copyFrom 173 = .ok (.aload_n 1, 1) := by decide +kernel
theorem dX3_copyFrom_174 : decode cX3_copyFrom 174 = .ok (.getfield 37, 3) := by decide +kernel
theorem dX3_copyFrom_177 : decode cX3_copyFrom 177 = .ok (.iload_n 2, 1) := by decide +kernel
theorem dX3_copyFrom_178 : decode cX3_copyFrom 178 = .ok (.iaload, 1) := by decide +kernel
theorem dX3_copyFrom_179 : decode cX3_copyFrom 179 = .ok (.iastore, 1) := by decide +kernel
theorem dX3_copyFrom_180 : decode cX3_copyFrom 180 = .ok (.iinc 2 1, 3) := by decide +kernel
theorem dX3_copyFrom_183 : decode cX3_copyFrom 183 = .ok (.goto (-24), 3) := by decide +kernel
theorem dX3_copyFrom_186 : decode cX3_copyFrom 186 = .ok (.return_, 1) := by decide +kernel
theorem dX3_hasRoute_0 : decode cX3_hasRoute 0 = .ok (.iload_n 1, 1) := by decide +kernel
theorem dX3_hasRoute_1 : decode cX3_hasRoute 1 = .ok (.ifCond .lt 15, 3) := by decide +kernel
theorem dX3_hasRoute_4 : decode cX3_hasRoute 4 = .ok (.iload_n 1, 1) := by decide +kernel
theorem dX3_hasRoute_5 : decode cX3_hasRoute 5 = .ok (.aload_n 0, 1) := by decide +kernel
theorem dX3_hasRoute_6 : decode cX3_hasRoute 6 = .ok (.getfield 47, 3) := by decide +kernel
theorem dX3_hasRoute_9 : decode cX3_hasRoute 9 = .ok (.if_icmp .ge 7, 3) := by decide +kernel
theorem dX3_hasRoute_12 : decode cX3_hasRoute 12 = .ok (.iconst 1, 1) := by decide +kernel
theorem dX3_hasRoute_13 : decode cX3_hasRoute 13 = .ok (.goto 4, 3) := by decide +kernel
theorem dX3_hasRoute_16 : decode cX3_hasRoute 16 = .ok (.iconst 0, 1) := by decide +kernel
theorem dX3_hasRoute_17 : decode cX3_hasRoute 17 = .ok (.ireturn, 1) := by decide +kernel
set_option maxRecDepth 20000 in
theorem ggX3_hasRouteAndDay_X3_hasRoute : GoodIn wsX3_hasRouteAndDay wsX3_hasRoute := goodIn_r _ [5, 6, 10, 11, 12, 13, 14, 15, 16, 17, 18] rfl (by decide +kernel)
set_option maxRecDepth 20000 in
theorem gX3_hasRouteAndDay_X3_hasRoute : GoodIn wsX3_hasRouteAndDay (wsV RX3 66 RX3 yX3_hasRoute wsX3_hasRoute) := goodIn_app (goodIn_of _ (by decide +kernel)) ggX3_hasRouteAndDay_X3_hasRoute
set_option maxRecDepth 20000 in
theorem ggX3_hasRouteAndDay_X6_isDay : GoodIn wsX3_hasRouteAndDay wsX6_isDay := goodIn_r _ [9] rfl (by decide +kernel)
set_option maxRecDepth 20000 in
theorem gX3_hasRouteAndDay_X6_isDay_n70 : GoodIn wsX3_hasRouteAndDay (wsX6_isDay) := ggX3_hasRouteAndDay_X6_isDay
theorem dX3_hasRouteAndDay_0 : decode cX3_hasRouteAndDay 0 = .ok (.aload_n 0, 1) := by decide +kernel
theorem dX3_hasRouteAndDay_1 : decode cX3_hasRouteAndDay 1 = .ok (.iload_n 1, 1) := by decide +kernel
theorem dX3_hasRouteAndDay_2 : decode cX3_hasRouteAndDay 2 = .ok (.invokevirtual 66, 3) := by decide +kernel
theorem dX3_hasRouteAndDay_5 : decode cX3_hasRouteAndDay 5 = .ok (.ifCond .eq 14, 3) := by decide +kernel
theorem dX3_hasRouteAndDay_8 : decode cX3_hasRouteAndDay 8 = .ok (.iload_n 2, 1) := by decide +kernel
theorem dX3_hasRouteAndDay_9 : decode cX3_hasRouteAndDay 9 = .ok (.invokestatic 70, 3) := by decide +kernel
theorem dX3_hasRouteAndDay_12 : decode cX3_hasRouteAndDay 12 = .ok (.ifCond .eq 7, 3) := by decide +kernel
theorem dX3_hasRouteAndDay_15 : decode cX3_hasRouteAndDay 15 = .ok (.iconst 1, 1) := by decide +kernel
theorem dX3_hasRouteAndDay_16 : decode cX3_hasRouteAndDay 16 = .ok (.goto 4, 3) := by decide +kernel
theorem dX3_hasRouteAndDay_19 : decode cX3_hasRouteAndDay 19 = .ok (.iconst 0, 1) := by decide +kernel
theorem dX3_hasRouteAndDay_20 : decode cX3_hasRouteAndDay 20 = .ok (.ireturn, 1) := by decide +kernel
theorem dX3_hasClimber_0 : decode cX3_hasClimber 0 = .ok (.iload_n 1, 1) := by decide +kernel
theorem dX3_hasClimber_1 : decode cX3_hasClimber 1 = .ok (.ifCond .lt 15, 3) := by decide +kernel
theorem dX3_hasClimber_4 : decode cX3_hasClimber 4 = .ok (.iload_n 1, 1) := by decide +kernel
theorem dX3_hasClimber_5 : decode cX3_hasClimber 5 = .ok (.aload_n 0, 1) := by decide +kernel
theorem dX3_hasClimber_6 : decode cX3_hasClimber 6 = .ok (.getfield 50, 3) := by decide +kernel
theorem dX3_hasClimber_9 : decode cX3_hasClimber 9 = .ok (.if_icmp .ge 7, 3) := by decide +kernel
theorem dX3_hasClimber_12 : decode cX3_hasClimber 12 = .ok (.iconst 1, 1) := by decide +kernel
theorem dX3_hasClimber_13 : decode cX3_hasClimber 13 = .ok (.goto 4, 3) := by decide +kernel
theorem dX3_hasClimber_16 : decode cX3_hasClimber 16 = .ok (.iconst 0, 1) := by decide +kernel
theorem dX3_hasClimber_17 : decode cX3_hasClimber 17 = .ok (.ireturn, 1) := by decide +kernel
theorem dX3_hasApplication_0 : decode cX3_hasApplication 0 = .ok (.iload_n 1, 1) := by decide +kernel
theorem dX3_hasApplication_1 : decode cX3_hasApplication 1 = .ok (.ifCond .lt 15, 3) := by decide +kernel
theorem dX3_hasApplication_4 : decode cX3_hasApplication 4 = .ok (.iload_n 1, 1) := by decide +kernel
theorem dX3_hasApplication_5 : decode cX3_hasApplication 5 = .ok (.aload_n 0, 1) := by decide +kernel
theorem dX3_hasApplication_6 : decode cX3_hasApplication 6 = .ok (.getfield 53, 3) := by decide +kernel
theorem dX3_hasApplication_9 : decode cX3_hasApplication 9 = .ok (.if_icmp .ge 7, 3) := by decide +kernel
theorem dX3_hasApplication_12 : decode cX3_hasApplication 12 = .ok (.iconst 1, 1) := by decide +kernel
theorem dX3_hasApplication_13 : decode cX3_hasApplication 13 = .ok (.goto 4, 3) := by decide +kernel
theorem dX3_hasApplication_16 : decode cX3_hasApplication 16 = .ok (.iconst 0, 1) := by decide +kernel
theorem dX3_hasApplication_17 : decode cX3_hasApplication 17 = .ok (.ireturn, 1) := by decide +kernel
set_option maxRecDepth 20000 in
theorem ggX3_isOpen_X6_isDay : GoodIn wsX3_isOpen wsX6_isDay := goodIn_r _ [5] rfl (by decide +kernel)
set_option maxRecDepth 20000 in
theorem gX3_isOpen_X6_isDay_n70 : GoodIn wsX3_isOpen (wsX6_isDay) := ggX3_isOpen_X6_isDay
theorem dX3_isOpen_0 : decode cX3_isOpen 0 = .ok (.iload_n 1, 1) := by decide +kernel
theorem dX3_isOpen_1 : decode cX3_isOpen 1 = .ok (.aload_n 0, 1) := by decide +kernel
theorem dX3_isOpen_2 : decode cX3_isOpen 2 = .ok (.getfield 43, 3) := by decide +kernel
theorem dX3_isOpen_5 : decode cX3_isOpen 5 = .ok (.if_icmp .lt 23, 3) := by decide +kernel
theorem dX3_isOpen_8 : decode cX3_isOpen 8 = .ok (.iload_n 1, 1) := by decide +kernel
theorem dX3_isOpen_9 : decode cX3_isOpen 9 = .ok (.invokestatic 70, 3) := by decide +kernel
theorem dX3_isOpen_12 : decode cX3_isOpen 12 = .ok (.ifCond .eq 16, 3) := by decide +kernel
theorem dX3_isOpen_15 : decode cX3_isOpen 15 = .ok (.aload_n 0, 1) := by decide +kernel
theorem dX3_isOpen_16 : decode cX3_isOpen 16 = .ok (.getfield 29, 3) := by decide +kernel
theorem dX3_isOpen_19 : decode cX3_isOpen 19 = .ok (.iload_n 1, 1) := by decide +kernel
theorem dX3_isOpen_20 : decode cX3_isOpen 20 = .ok (.baload, 1) := by decide +kernel
theorem dX3_isOpen_21 : decode cX3_isOpen 21 = .ok (.ifCond .ne 7, 3) := by decide +kernel
theorem dX3_isOpen_24 : decode cX3_isOpen 24 = .ok (.iconst 1, 1) := by decide +kernel
theorem dX3_isOpen_25 : decode cX3_isOpen 25 = .ok (.goto 4, 3) := by decide +kernel
theorem dX3_isOpen_28 : decode cX3_isOpen 28 = .ok (.iconst 0, 1) := by decide +kernel
theorem dX3_isOpen_29 : decode cX3_isOpen 29 = .ok (.ireturn, 1) := by decide +kernel
theorem dX3_addRoute_0 : decode cX3_addRoute 0 = .ok (.aload_n 0, 1) := by decide +kernel
theorem dX3_addRoute_1 : decode cX3_addRoute 1 = .ok (.getfield 11, 3) := by decide +kernel
theorem dX3_addRoute_4 : decode cX3_addRoute 4 = .ok (.aload_n 0, 1) := by decide +kernel
theorem dX3_addRoute_5 : decode cX3_addRoute 5 = .ok (.getfield 47, 3) := by decide +kernel
theorem dX3_addRoute_8 : decode cX3_addRoute 8 = .ok (.aaload, 1) := by decide +kernel
theorem dX3_addRoute_9 : decode cX3_addRoute 9 = .ok (.astore_n 3, 1) := by decide +kernel
theorem dX3_addRoute_10 : decode cX3_addRoute 10 = .ok (.aload_n 3, 1) := by decide +kernel
theorem dX3_addRoute_11 : decode cX3_addRoute 11 = .ok (.iload_n 1, 1) := by decide +kernel
theorem dX3_addRoute_12 : decode cX3_addRoute 12 = .ok (.putfield 73, 3) := by decide +kernel
theorem dX3_addRoute_15 : decode cX3_addRoute 15 = .ok (.aload_n 3, 1) := by decide +kernel
theorem dX3_addRoute_16 : decode cX3_addRoute 16 = .ok (.iload_n 2, 1) := by decide +kernel
theorem dX3_addRoute_17 : decode cX3_addRoute 17 = .ok (.putfield 76, 3) := by decide +kernel
theorem dX3_addRoute_20 : decode cX3_addRoute 20 = .ok (.aload_n 0, 1) := by decide +kernel
theorem dX3_addRoute_21 : decode cX3_addRoute 21 = .ok (.dup, 1) := by decide +kernel
theorem dX3_addRoute_22 : decode cX3_addRoute 22 = .ok (.getfield 47, 3) := by decide +kernel
theorem dX3_addRoute_25 : decode cX3_addRoute 25 = .ok (.iconst 1, 1) := by decide +kernel
theorem dX3_addRoute_26 : decode cX3_addRoute 26 = .ok (.iadd, 1) := by decide +kernel
theorem dX3_addRoute_27 : decode cX3_addRoute 27 = .ok (.putfield 47, 3) := by decide +kernel
theorem dX3_addRoute_30 : decode cX3_addRoute 30 = .ok (.aload_n 0, 1) := by decide +kernel
theorem dX3_addRoute_31 : decode cX3_addRoute 31 = .ok (.getfield 47, 3) := by decide +kernel
theorem dX3_addRoute_34 : decode cX3_addRoute 34 = .ok (.iconst 1, 1) := by decide +kernel
theorem dX3_addRoute_35 : decode cX3_addRoute 35 = .ok (.isub, 1) := by decide +kernel
theorem dX3_addRoute_36 : decode cX3_addRoute 36 = .ok (.ireturn, 1) := by decide +kernel
theorem dX3_addClimber_0 : decode cX3_addClimber 0 = .ok (.aload_n 0, 1) := by decide +kernel
theorem dX3_addClimber_1 : decode cX3_addClimber 1 = .ok (.dup, 1) := by decide +kernel
theorem dX3_addClimber_2 : decode cX3_addClimber 2 = .ok (.getfield 50, 3) := by decide +kernel
theorem dX3_addClimber_5 : decode cX3_addClimber 5 = .ok (.iconst 1, 1) := by decide +kernel
theorem dX3_addClimber_6 : decode cX3_addClimber 6 = .ok (.iadd, 1) := by decide +kernel
theorem dX3_addClimber_7 : decode cX3_addClimber 7 = .ok (.putfield 50, 3) := by decide +kernel
theorem dX3_addClimber_10 : decode cX3_addClimber 10 = .ok (.aload_n 0, 1) := by decide +kernel
theorem dX3_addClimber_11 : decode cX3_addClimber 11 = .ok (.getfield 50, 3) := by decide +kernel
theorem dX3_addClimber_14 : decode cX3_addClimber 14 = .ok (.iconst 1, 1) := by decide +kernel
theorem dX3_addClimber_15 : decode cX3_addClimber 15 = .ok (.isub, 1) := by decide +kernel
theorem dX3_addClimber_16 : decode cX3_addClimber 16 = .ok (.ireturn, 1) := by decide +kernel
theorem dX3_addApplication_0 : decode cX3_addApplication 0 = .ok (.aload_n 0, 1) := by decide +kernel
theorem dX3_addApplication_1 : decode cX3_addApplication 1 = .ok (.getfield 25, 3) := by decide +kernel
theorem dX3_addApplication_4 : decode cX3_addApplication 4 = .ok (.aload_n 0, 1) := by decide +kernel
theorem dX3_addApplication_5 : decode cX3_addApplication 5 = .ok (.getfield 53, 3) := by decide +kernel
theorem dX3_addApplication_8 : decode cX3_addApplication 8 = .ok (.aaload, 1) := by decide +kernel
theorem dX3_addApplication_9 : decode cX3_addApplication 9 = .ok (.astore 5, 2) := by decide +kernel
theorem dX3_addApplication_11 : decode cX3_addApplication 11 = .ok (.aload 5, 2) := by decide +kernel
theorem dX3_addApplication_13 : decode cX3_addApplication 13 = .ok (.iload_n 1, 1) := by decide +kernel
theorem dX3_addApplication_14 : decode cX3_addApplication 14 = .ok (.putfield 79, 3) := by decide +kernel
theorem dX3_addApplication_17 : decode cX3_addApplication 17 = .ok (.aload 5, 2) := by decide +kernel
theorem dX3_addApplication_19 : decode cX3_addApplication 19 = .ok (.iload_n 2, 1) := by decide +kernel
theorem dX3_addApplication_20 : decode cX3_addApplication 20 = .ok (.putfield 82, 3) := by decide +kernel
theorem dX3_addApplication_23 : decode cX3_addApplication 23 = .ok (.aload 5, 2) := by decide +kernel
theorem dX3_addApplication_25 : decode cX3_addApplication 25 = .ok (.iload_n 3, 1) := by decide +kernel
theorem dX3_addApplication_26 : decode cX3_addApplication 26 = .ok (.putfield 85, 3) := by decide +kernel
theorem dX3_addApplication_29 : decode cX3_addApplication 29 = .ok (.aload 5, 2) := by decide +kernel
theorem dX3_addApplication_31 : decode cX3_addApplication 31 = .ok (.iload_n 3, 1) := by decide +kernel
theorem dX3_addApplication_32 : decode cX3_addApplication 32 = .ok (.putfield 88, 3) := by decide +kernel
theorem dX3_addApplication_35 : decode cX3_addApplication 35 = .ok (.aload 5, 2) := by decide +kernel
theorem dX3_addApplication_37 : decode cX3_addApplication 37 = .ok (.iload 4, 2) := by decide +kernel
theorem dX3_addApplication_39 : decode cX3_addApplication 39 = .ok (.putfield 91, 3) := by decide +kernel
theorem dX3_addApplication_42 : decode cX3_addApplication 42 = .ok (.aload_n 0, 1) := by decide +kernel
theorem dX3_addApplication_43 : decode cX3_addApplication 43 = .ok (.dup, 1) := by decide +kernel
theorem dX3_addApplication_44 : decode cX3_addApplication 44 = .ok (.getfield 53, 3) := by decide +kernel
theorem dX3_addApplication_47 : decode cX3_addApplication 47 = .ok (.iconst 1, 1) := by decide +kernel
theorem dX3_addApplication_48 : decode cX3_addApplication 48 = .ok (.iadd, 1) := by decide +kernel
theorem dX3_addApplication_49 : decode cX3_addApplication 49 = .ok (.putfield 53, 3) := by decide +kernel
theorem dX3_addApplication_52 : decode cX3_addApplication 52 = .ok (.aload_n 0, 1) := by decide +kernel
theorem dX3_addApplication_53 : decode cX3_addApplication 53 = .ok (.getfield 53, 3) := by decide +kernel
theorem dX3_addApplication_56 : decode cX3_addApplication 56 = .ok (.iconst 1, 1) := by decide +kernel
theorem dX3_addApplication_57 : decode cX3_addApplication 57 = .ok (.isub, 1) := by decide +kernel
theorem dX3_addApplication_58 : decode cX3_addApplication 58 = .ok (.ireturn, 1) := by decide +kernel
set_option maxRecDepth 20000 in
theorem ggX3_stillHas_X0_isBy : GoodIn wsX3_stillHas wsX0_isBy := goodIn_r _ [7, 8, 29, 30, 31, 32, 33, 34, 35, 36, 37] rfl (by decide +kernel)
set_option maxRecDepth 20000 in
theorem gX3_stillHas_X0_isBy : GoodIn wsX3_stillHas (wsV RX3 94 RX0 yX0_isBy wsX0_isBy) := goodIn_app (goodIn_of _ (by decide +kernel)) ggX3_stillHas_X0_isBy
set_option maxRecDepth 20000 in
theorem ggX3_stillHas_X0_isOf : GoodIn wsX3_stillHas wsX0_isOf := goodIn_r _ [12, 13, 14, 29, 30, 31, 32, 33, 34, 35, 36, 37] rfl (by decide +kernel)
set_option maxRecDepth 20000 in
theorem gX3_stillHas_X0_isOf : GoodIn wsX3_stillHas (wsV RX3 97 RX0 yX0_isOf wsX0_isOf) := goodIn_app (goodIn_of _ (by decide +kernel)) ggX3_stillHas_X0_isOf
set_option maxRecDepth 20000 in
theorem ggX3_stillHas_X0_isAlive : GoodIn wsX3_stillHas wsX0_isAlive := goodIn_r _ [18, 19, 29, 30, 31, 32, 33, 34, 35, 36, 37] rfl (by decide +kernel)
set_option maxRecDepth 20000 in
theorem gX3_stillHas_X0_isAlive : GoodIn wsX3_stillHas (wsV RX3 101 RX0 yX0_isAlive wsX0_isAlive) := goodIn_app (goodIn_of _ (by decide +kernel)) ggX3_stillHas_X0_isAlive
theorem dX3_stillHas_0 : decode cX3_stillHas 0 = .ok (.iconst 0, 1) := by decide +kernel
theorem dX3_stillHas_1 : decode cX3_stillHas 1 = .ok (.istore 4, 2) := by decide +kernel
theorem dX3_stillHas_3 : decode cX3_stillHas 3 = .ok (.iload 4, 2) := by decide +kernel
theorem dX3_stillHas_5 : decode cX3_stillHas 5 = .ok (.aload_n 0, 1) := by decide +kernel
theorem dX3_stillHas_6 : decode cX3_stillHas 6 = .ok (.getfield 53, 3) := by decide +kernel
theorem dX3_stillHas_9 : decode cX3_stillHas 9 = .ok (.if_icmp .ge 47, 3) := by decide +kernel
theorem dX3_stillHas_12 : decode cX3_stillHas 12 = .ok (.aload_n 0, 1) := by decide +kernel
theorem dX3_stillHas_13 : decode cX3_stillHas 13 = .ok (.getfield 25, 3) := by decide +kernel
theorem dX3_stillHas_16 : decode cX3_stillHas 16 = .ok (.iload 4, 2) := by decide +kernel
theorem dX3_stillHas_18 : decode cX3_stillHas 18 = .ok (.aaload, 1) := by decide +kernel
theorem dX3_stillHas_19 : decode cX3_stillHas 19 = .ok (.astore 5, 2) := by decide +kernel
theorem dX3_stillHas_21 : decode cX3_stillHas 21 = .ok (.aload 5, 2) := by decide +kernel
theorem dX3_stillHas_23 : decode cX3_stillHas 23 = .ok (.iload_n 1, 1) := by decide +kernel
theorem dX3_stillHas_24 : decode cX3_stillHas 24 = .ok (.invokevirtual 94, 3) := by decide +kernel
theorem dX3_stillHas_27 : decode cX3_stillHas 27 = .ok (.ifCond .eq 23, 3) := by decide +kernel
theorem dX3_stillHas_30 : decode cX3_stillHas 30 = .ok (.aload 5, 2) := by decide +kernel
theorem dX3_stillHas_32 : decode cX3_stillHas 32 = .ok (.iload_n 2, 1) := by decide +kernel
theorem dX3_stillHas_33 : decode cX3_stillHas 33 = .ok (.iload_n 3, 1) := by decide +kernel
theorem dX3_stillHas_34 : decode cX3_stillHas 34 = .ok (.invokevirtual 97, 3) := by decide +kernel
theorem dX3_stillHas_37 : decode cX3_stillHas 37 = .ok (.ifCond .eq 13, 3) := by decide +kernel
theorem dX3_stillHas_40 : decode cX3_stillHas 40 = .ok (.aload 5, 2) := by decide +kernel
theorem dX3_stillHas_42 : decode cX3_stillHas 42 = .ok (.invokevirtual 101, 3) := by decide +kernel
theorem dX3_stillHas_45 : decode cX3_stillHas 45 = .ok (.ifCond .eq 5, 3) := by decide +kernel
theorem dX3_stillHas_48 : decode cX3_stillHas 48 = .ok (.iconst 1, 1) := by decide +kernel
theorem dX3_stillHas_49 : decode cX3_stillHas 49 = .ok (.ireturn, 1) := by decide +kernel
theorem dX3_stillHas_50 : decode cX3_stillHas 50 = .ok (.iinc 4 1, 3) := by decide +kernel
theorem dX3_stillHas_53 : decode cX3_stillHas 53 = .ok (.goto (-50), 3) := by decide +kernel
theorem dX3_stillHas_56 : decode cX3_stillHas 56 = .ok (.iconst 0, 1) := by decide +kernel
theorem dX3_stillHas_57 : decode cX3_stillHas 57 = .ok (.ireturn, 1) := by decide +kernel
set_option maxRecDepth 20000 in
theorem ggX3_countOf_X0_isOf : GoodIn wsX3_countOf wsX0_isOf := goodIn_r _ [8, 9, 10, 20, 21, 22, 23, 24, 25, 26, 27, 28] rfl (by decide +kernel)
set_option maxRecDepth 20000 in
theorem gX3_countOf_X0_isOf : GoodIn wsX3_countOf (wsV RX3 97 RX0 yX0_isOf wsX0_isOf) := goodIn_app (goodIn_of _ (by decide +kernel)) ggX3_countOf_X0_isOf
theorem dX3_countOf_0 : decode cX3_countOf 0 = .ok (.iconst 0, 1) := by decide +kernel
theorem dX3_countOf_1 : decode cX3_countOf 1 = .ok (.istore 4, 2) := by decide +kernel
theorem dX3_countOf_3 : decode cX3_countOf 3 = .ok (.iconst 0, 1) := by decide +kernel
theorem dX3_countOf_4 : decode cX3_countOf 4 = .ok (.istore 5, 2) := by decide +kernel
theorem dX3_countOf_6 : decode cX3_countOf 6 = .ok (.iload 5, 2) := by decide +kernel
theorem dX3_countOf_8 : decode cX3_countOf 8 = .ok (.aload_n 0, 1) := by decide +kernel
theorem dX3_countOf_9 : decode cX3_countOf 9 = .ok (.getfield 53, 3) := by decide +kernel
theorem dX3_countOf_12 : decode cX3_countOf 12 = .ok (.if_icmp .ge 41, 3) := by decide +kernel
theorem dX3_countOf_15 : decode cX3_countOf 15 = .ok (.aload_n 0, 1) := by decide +kernel
theorem dX3_countOf_16 : decode cX3_countOf 16 = .ok (.getfield 25, 3) := by decide +kernel
theorem dX3_countOf_19 : decode cX3_countOf 19 = .ok (.iload 5, 2) := by decide +kernel
theorem dX3_countOf_21 : decode cX3_countOf 21 = .ok (.aaload, 1) := by decide +kernel
theorem dX3_countOf_22 : decode cX3_countOf 22 = .ok (.getfield 105, 3) := by decide +kernel
theorem dX3_countOf_25 : decode cX3_countOf 25 = .ok (.iload_n 3, 1) := by decide +kernel
theorem dX3_countOf_26 : decode cX3_countOf 26 = .ok (.if_icmp .ne 21, 3) := by decide +kernel
theorem dX3_countOf_29 : decode cX3_countOf 29 = .ok (.aload_n 0, 1) := by decide +kernel
theorem dX3_countOf_30 : decode cX3_countOf 30 = .ok (.getfield 25, 3) := by decide +kernel
theorem dX3_countOf_33 : decode cX3_countOf 33 = .ok (.iload 5, 2) := by decide +kernel
theorem dX3_countOf_35 : decode cX3_countOf 35 = .ok (.aaload, 1) := by decide +kernel
theorem dX3_countOf_36 : decode cX3_countOf 36 = .ok (.iload_n 1, 1) := by decide +kernel
theorem dX3_countOf_37 : decode cX3_countOf 37 = .ok (.iload_n 2, 1) := by decide +kernel
theorem dX3_countOf_38 : decode cX3_countOf 38 = .ok (.invokevirtual 97, 3) := by decide +kernel
theorem dX3_countOf_41 : decode cX3_countOf 41 = .ok (.ifCond .eq 6, 3) := by decide +kernel
theorem dX3_countOf_44 : decode cX3_countOf 44 = .ok (.iinc 4 1, 3) := by decide +kernel
theorem dX3_countOf_47 : decode cX3_countOf 47 = .ok (.iinc 5 1, 3) := by decide +kernel
theorem dX3_countOf_50 : decode cX3_countOf 50 = .ok (.goto (-44), 3) := by decide +kernel
theorem dX3_countOf_53 : decode cX3_countOf 53 = .ok (.iload 4, 2) := by decide +kernel
theorem dX3_countOf_55 : decode cX3_countOf 55 = .ok (.ireturn, 1) := by decide +kernel
set_option maxRecDepth 20000 in
theorem ggX3_countIn_X0_isBy : GoodIn wsX3_countIn wsX0_isBy := goodIn_r _ [8, 9, 19, 20, 21, 22, 23, 24, 25, 26, 27] rfl (by decide +kernel)
set_option maxRecDepth 20000 in
theorem gX3_countIn_X0_isBy : GoodIn wsX3_countIn (wsV RX3 94 RX0 yX0_isBy wsX0_isBy) := goodIn_app (goodIn_of _ (by decide +kernel)) ggX3_countIn_X0_isBy
theorem dX3_countIn_0 : decode cX3_countIn 0 = .ok (.iconst 0, 1) := by decide +kernel
theorem dX3_countIn_1 : decode cX3_countIn 1 = .ok (.istore_n 3, 1) := by decide +kernel
theorem dX3_countIn_2 : decode cX3_countIn 2 = .ok (.iconst 0, 1) := by decide +kernel
theorem dX3_countIn_3 : decode cX3_countIn 3 = .ok (.istore 4, 2) := by decide +kernel
theorem dX3_countIn_5 : decode cX3_countIn 5 = .ok (.iload 4, 2) := by decide +kernel
theorem dX3_countIn_7 : decode cX3_countIn 7 = .ok (.aload_n 0, 1) := by decide +kernel
theorem dX3_countIn_8 : decode cX3_countIn 8 = .ok (.getfield 53, 3) := by decide +kernel
theorem dX3_countIn_11 : decode cX3_countIn 11 = .ok (.if_icmp .ge 40, 3) := by decide +kernel
theorem dX3_countIn_14 : decode cX3_countIn 14 = .ok (.aload_n 0, 1) := by decide +kernel
theorem dX3_countIn_15 : decode cX3_countIn 15 = .ok (.getfield 25, 3) := by decide +kernel
theorem dX3_countIn_18 : decode cX3_countIn 18 = .ok (.iload 4, 2) := by decide +kernel
theorem dX3_countIn_20 : decode cX3_countIn 20 = .ok (.aaload, 1) := by decide +kernel
theorem dX3_countIn_21 : decode cX3_countIn 21 = .ok (.getfield 105, 3) := by decide +kernel
theorem dX3_countIn_24 : decode cX3_countIn 24 = .ok (.iload_n 2, 1) := by decide +kernel
theorem dX3_countIn_25 : decode cX3_countIn 25 = .ok (.if_icmp .ne 20, 3) := by decide +kernel
theorem dX3_countIn_28 : decode cX3_countIn 28 = .ok (.aload_n 0, 1) := by decide +kernel
theorem dX3_countIn_29 : decode cX3_countIn 29 = .ok (.getfield 25, 3) := by decide +kernel
theorem dX3_countIn_32 : decode cX3_countIn 32 = .ok (.iload 4, 2) := by decide +kernel
theorem dX3_countIn_34 : decode cX3_countIn 34 = .ok (.aaload, 1) := by decide +kernel
theorem dX3_countIn_35 : decode cX3_countIn 35 = .ok (.iload_n 1, 1) := by decide +kernel
theorem dX3_countIn_36 : decode cX3_countIn 36 = .ok (.invokevirtual 94, 3) := by decide +kernel
theorem dX3_countIn_39 : decode cX3_countIn 39 = .ok (.ifCond .eq 6, 3) := by decide +kernel
theorem dX3_countIn_42 : decode cX3_countIn 42 = .ok (.iinc 3 1, 3) := by decide +kernel
theorem dX3_countIn_45 : decode cX3_countIn 45 = .ok (.iinc 4 1, 3) := by decide +kernel
theorem dX3_countIn_48 : decode cX3_countIn 48 = .ok (.goto (-43), 3) := by decide +kernel
theorem dX3_countIn_51 : decode cX3_countIn 51 = .ok (.iload_n 3, 1) := by decide +kernel
theorem dX3_countIn_52 : decode cX3_countIn 52 = .ok (.ireturn, 1) := by decide +kernel
set_option maxRecDepth 20000 in
theorem ggX3_countBy_X0_isBy : GoodIn wsX3_countBy wsX0_isBy := goodIn_r _ [7, 8, 18, 19, 20, 21, 22, 23, 24, 25, 26] rfl (by decide +kernel)
set_option maxRecDepth 20000 in
theorem gX3_countBy_X0_isBy : GoodIn wsX3_countBy (wsV RX3 94 RX0 yX0_isBy wsX0_isBy) := goodIn_app (goodIn_of _ (by decide +kernel)) ggX3_countBy_X0_isBy
theorem dX3_countBy_0 : decode cX3_countBy 0 = .ok (.iconst 0, 1) := by decide +kernel
theorem dX3_countBy_1 : decode cX3_countBy 1 = .ok (.istore_n 2, 1) := by decide +kernel
theorem dX3_countBy_2 : decode cX3_countBy 2 = .ok (.iconst 0, 1) := by decide +kernel
theorem dX3_countBy_3 : decode cX3_countBy 3 = .ok (.istore_n 3, 1) := by decide +kernel
theorem dX3_countBy_4 : decode cX3_countBy 4 = .ok (.iload_n 3, 1) := by decide +kernel
theorem dX3_countBy_5 : decode cX3_countBy 5 = .ok (.aload_n 0, 1) := by decide +kernel
theorem dX3_countBy_6 : decode cX3_countBy 6 = .ok (.getfield 53, 3) := by decide +kernel
theorem dX3_countBy_9 : decode cX3_countBy 9 = .ok (.if_icmp .ge 25, 3) := by decide +kernel
theorem dX3_countBy_12 : decode cX3_countBy 12 = .ok (.aload_n 0, 1) := by decide +kernel
theorem dX3_countBy_13 : decode cX3_countBy 13 = .ok (.getfield 25, 3) := by decide +kernel
theorem dX3_countBy_16 : decode cX3_countBy 16 = .ok (.iload_n 3, 1) := by decide +kernel
theorem dX3_countBy_17 : decode cX3_countBy 17 = .ok (.aaload, 1) := by decide +kernel
theorem dX3_countBy_18 : decode cX3_countBy 18 = .ok (.iload_n 1, 1) := by decide +kernel
theorem dX3_countBy_19 : decode cX3_countBy 19 = .ok (.invokevirtual 94, 3) := by decide +kernel
theorem dX3_countBy_22 : decode cX3_countBy 22 = .ok (.ifCond .eq 6, 3) := by decide +kernel
theorem dX3_countBy_25 : decode cX3_countBy 25 = .ok (.iinc 2 1, 3) := by decide +kernel
theorem dX3_countBy_28 : decode cX3_countBy 28 = .ok (.iinc 3 1, 3) := by decide +kernel
theorem dX3_countBy_31 : decode cX3_countBy 31 = .ok (.goto (-27), 3) := by decide +kernel
theorem dX3_countBy_34 : decode cX3_countBy 34 = .ok (.iload_n 2, 1) := by decide +kernel
theorem dX3_countBy_35 : decode cX3_countBy 35 = .ok (.ireturn, 1) := by decide +kernel
set_option maxRecDepth 20000 in
theorem ggX3_paidBy_X0_isBy : GoodIn wsX3_paidBy wsX0_isBy := goodIn_r _ [8, 9, 19, 20, 21, 22, 23, 24, 25, 26, 27] rfl (by decide +kernel)
set_option maxRecDepth 20000 in
theorem gX3_paidBy_X0_isBy : GoodIn wsX3_paidBy (wsV RX3 94 RX0 yX0_isBy wsX0_isBy) := goodIn_app (goodIn_of _ (by decide +kernel)) ggX3_paidBy_X0_isBy
theorem dX3_paidBy_0 : decode cX3_paidBy 0 = .ok (.iconst 0, 1) := by decide +kernel
theorem dX3_paidBy_1 : decode cX3_paidBy 1 = .ok (.istore_n 2, 1) := by decide +kernel
theorem dX3_paidBy_2 : decode cX3_paidBy 2 = .ok (.iconst 0, 1) := by decide +kernel
theorem dX3_paidBy_3 : decode cX3_paidBy 3 = .ok (.istore_n 3, 1) := by decide +kernel
theorem dX3_paidBy_4 : decode cX3_paidBy 4 = .ok (.iload_n 3, 1) := by decide +kernel
theorem dX3_paidBy_5 : decode cX3_paidBy 5 = .ok (.aload_n 0, 1) := by decide +kernel
theorem dX3_paidBy_6 : decode cX3_paidBy 6 = .ok (.getfield 53, 3) := by decide +kernel
theorem dX3_paidBy_9 : decode cX3_paidBy 9 = .ok (.if_icmp .ge 34, 3) := by decide +kernel
theorem dX3_paidBy_12 : decode cX3_paidBy 12 = .ok (.aload_n 0, 1) := by decide +kernel
theorem dX3_paidBy_13 : decode cX3_paidBy 13 = .ok (.getfield 25, 3) := by decide +kernel
theorem dX3_paidBy_16 : decode cX3_paidBy 16 = .ok (.iload_n 3, 1) := by decide +kernel
theorem dX3_paidBy_17 : decode cX3_paidBy 17 = .ok (.aaload, 1) := by decide +kernel
theorem dX3_paidBy_18 : decode cX3_paidBy 18 = .ok (.iload_n 1, 1) := by decide +kernel
theorem dX3_paidBy_19 : decode cX3_paidBy 19 = .ok (.invokevirtual 94, 3) := by decide +kernel
theorem dX3_paidBy_22 : decode cX3_paidBy 22 = .ok (.ifCond .eq 15, 3) := by decide +kernel
theorem dX3_paidBy_25 : decode cX3_paidBy 25 = .ok (.iload_n 2, 1) := by decide +kernel
theorem dX3_paidBy_26 : decode cX3_paidBy 26 = .ok (.aload_n 0, 1) := by decide +kernel
theorem dX3_paidBy_27 : decode cX3_paidBy 27 = .ok (.getfield 25, 3) := by decide +kernel
theorem dX3_paidBy_30 : decode cX3_paidBy 30 = .ok (.iload_n 3, 1) := by decide +kernel
theorem dX3_paidBy_31 : decode cX3_paidBy 31 = .ok (.aaload, 1) := by decide +kernel
theorem dX3_paidBy_32 : decode cX3_paidBy 32 = .ok (.getfield 108, 3) := by decide +kernel
theorem dX3_paidBy_35 : decode cX3_paidBy 35 = .ok (.iadd, 1) := by decide +kernel
theorem dX3_paidBy_36 : decode cX3_paidBy 36 = .ok (.istore_n 2, 1) := by decide +kernel
theorem dX3_paidBy_37 : decode cX3_paidBy 37 = .ok (.iinc 3 1, 3) := by decide +kernel
theorem dX3_paidBy_40 : decode cX3_paidBy 40 = .ok (.goto (-36), 3) := by decide +kernel
theorem dX3_paidBy_43 : decode cX3_paidBy 43 = .ok (.iload_n 2, 1) := by decide +kernel
theorem dX3_paidBy_44 : decode cX3_paidBy 44 = .ok (.ireturn, 1) := by decide +kernel
set_option maxRecDepth 20000 in
theorem ggX3_refundedTo_X0_isBy : GoodIn wsX3_refundedTo wsX0_isBy := goodIn_r _ [8, 9, 19, 20, 21, 22, 23, 24, 25, 26, 27] rfl (by decide +kernel)
set_option maxRecDepth 20000 in
theorem gX3_refundedTo_X0_isBy : GoodIn wsX3_refundedTo (wsV RX3 94 RX0 yX0_isBy wsX0_isBy) := goodIn_app (goodIn_of _ (by decide +kernel)) ggX3_refundedTo_X0_isBy
theorem dX3_refundedTo_0 : decode cX3_refundedTo 0 = .ok (.iconst 0, 1) := by decide +kernel
theorem dX3_refundedTo_1 : decode cX3_refundedTo 1 = .ok (.istore_n 2, 1) := by decide +kernel
theorem dX3_refundedTo_2 : decode cX3_refundedTo 2 = .ok (.iconst 0, 1) := by decide +kernel
theorem dX3_refundedTo_3 : decode cX3_refundedTo 3 = .ok (.istore_n 3, 1) := by decide +kernel
theorem dX3_refundedTo_4 : decode cX3_refundedTo 4 = .ok (.iload_n 3, 1) := by decide +kernel
theorem dX3_refundedTo_5 : decode cX3_refundedTo 5 = .ok (.aload_n 0, 1) := by decide +kernel
theorem dX3_refundedTo_6 : decode cX3_refundedTo 6 = .ok (.getfield 53, 3) := by decide +kernel
theorem dX3_refundedTo_9 : decode cX3_refundedTo 9 = .ok (.if_icmp .ge 34, 3) := by decide +kernel
theorem dX3_refundedTo_12 : decode cX3_refundedTo 12 = .ok (.aload_n 0, 1) := by decide +kernel
theorem dX3_refundedTo_13 : decode cX3_refundedTo 13 = .ok (.getfield 25, 3) := by decide +kernel
theorem dX3_refundedTo_16 : decode cX3_refundedTo 16 = .ok (.iload_n 3, 1) := by decide +kernel
theorem dX3_refundedTo_17 : decode cX3_refundedTo 17 = .ok (.aaload, 1) := by decide +kernel
theorem dX3_refundedTo_18 : decode cX3_refundedTo 18 = .ok (.iload_n 1, 1) := by decide +kernel
theorem dX3_refundedTo_19 : decode cX3_refundedTo 19 = .ok (.invokevirtual 94, 3) := by decide +kernel
theorem dX3_refundedTo_22 : decode cX3_refundedTo 22 = .ok (.ifCond .eq 15, 3) := by decide +kernel
theorem dX3_refundedTo_25 : decode cX3_refundedTo 25 = .ok (.iload_n 2, 1) := by decide +kernel
theorem dX3_refundedTo_26 : decode cX3_refundedTo 26 = .ok (.aload_n 0, 1) := by decide +kernel
theorem dX3_refundedTo_27 : decode cX3_refundedTo 27 = .ok (.getfield 25, 3) := by decide +kernel
theorem dX3_refundedTo_30 : decode cX3_refundedTo 30 = .ok (.iload_n 3, 1) := by decide +kernel
theorem dX3_refundedTo_31 : decode cX3_refundedTo 31 = .ok (.aaload, 1) := by decide +kernel
theorem dX3_refundedTo_32 : decode cX3_refundedTo 32 = .ok (.getfield 111, 3) := by decide +kernel
theorem dX3_refundedTo_35 : decode cX3_refundedTo 35 = .ok (.iadd, 1) := by decide +kernel
theorem dX3_refundedTo_36 : decode cX3_refundedTo 36 = .ok (.istore_n 2, 1) := by decide +kernel
theorem dX3_refundedTo_37 : decode cX3_refundedTo 37 = .ok (.iinc 3 1, 3) := by decide +kernel
theorem dX3_refundedTo_40 : decode cX3_refundedTo 40 = .ok (.goto (-36), 3) := by decide +kernel
theorem dX3_refundedTo_43 : decode cX3_refundedTo 43 = .ok (.iload_n 2, 1) := by decide +kernel
theorem dX3_refundedTo_44 : decode cX3_refundedTo 44 = .ok (.ireturn, 1) := by decide +kernel
theorem dX3_closedDays_0 : decode cX3_closedDays 0 = .ok (.iconst 0, 1) := by decide +kernel
theorem dX3_closedDays_1 : decode cX3_closedDays 1 = .ok (.istore_n 1, 1) := by decide +kernel
theorem dX3_closedDays_2 : decode cX3_closedDays 2 = .ok (.iconst 0, 1) := by decide +kernel
theorem dX3_closedDays_3 : decode cX3_closedDays 3 = .ok (.istore_n 2, 1) := by decide +kernel
theorem dX3_closedDays_4 : decode cX3_closedDays 4 = .ok (.iload_n 2, 1) := by decide +kernel
theorem dX3_closedDays_5 : decode cX3_closedDays 5 = .ok (.aload_n 0, 1) := by decide +kernel
theorem dX3_closedDays_6 : decode cX3_closedDays 6 = .ok (.getfield 29, 3) := by decide +kernel
theorem dX3_closedDays_9 : decode cX3_closedDays 9 = .ok (.arraylength, 1) := by decide +kernel
theorem dX3_closedDays_10 : decode cX3_closedDays 10 = .ok (.if_icmp .ge 21, 3) := by decide +kernel
theorem dX3_closedDays_13 : decode cX3_closedDays 13 = .ok (.aload_n 0, 1) := by decide +kernel
theorem dX3_closedDays_14 : decode cX3_closedDays 14 = .ok (.getfield 29, 3) := by decide +kernel
theorem dX3_closedDays_17 : decode cX3_closedDays 17 = .ok (.iload_n 2, 1) := by decide +kernel
theorem dX3_closedDays_18 : decode cX3_closedDays 18 = .ok (.baload, 1) := by decide +kernel
theorem dX3_closedDays_19 : decode cX3_closedDays 19 = .ok (.ifCond .eq 6, 3) := by decide +kernel
theorem dX3_closedDays_22 : decode cX3_closedDays 22 = .ok (.iinc 1 1, 3) := by decide +kernel
theorem dX3_closedDays_25 : decode cX3_closedDays 25 = .ok (.iinc 2 1, 3) := by decide +kernel
theorem dX3_closedDays_28 : decode cX3_closedDays 28 = .ok (.goto (-24), 3) := by decide +kernel
theorem dX3_closedDays_31 : decode cX3_closedDays 31 = .ok (.iload_n 1, 1) := by decide +kernel
theorem dX3_closedDays_32 : decode cX3_closedDays 32 = .ok (.ireturn, 1) := by decide +kernel
set_option maxRecDepth 20000 in
theorem ggX3_placesTaken_X0_takesPlaces : GoodIn wsX3_placesTaken wsX0_takesPlaces := goodIn_r _ [8, 9, 25, 26, 27, 28, 29, 30, 31, 32, 33] rfl (by decide +kernel)
set_option maxRecDepth 20000 in
theorem gX3_placesTaken_X0_takesPlaces : GoodIn wsX3_placesTaken (wsV RX3 114 RX0 yX0_takesPlaces wsX0_takesPlaces) := goodIn_app (goodIn_of _ (by decide +kernel)) ggX3_placesTaken_X0_takesPlaces
set_option maxRecDepth 20000 in
theorem ggX3_placesTaken_X0_isOf : GoodIn wsX3_placesTaken wsX0_isOf := goodIn_r _ [13, 14, 15, 25, 26, 27, 28, 29, 30, 31, 32, 33] rfl (by decide +kernel)
set_option maxRecDepth 20000 in
theorem gX3_placesTaken_X0_isOf : GoodIn wsX3_placesTaken (wsV RX3 97 RX0 yX0_isOf wsX0_isOf) := goodIn_app (goodIn_of _ (by decide +kernel)) ggX3_placesTaken_X0_isOf
theorem dX3_placesTaken_0 : decode cX3_placesTaken 0 = .ok (.iconst 0, 1) := by decide +kernel
theorem dX3_placesTaken_1 : decode cX3_placesTaken 1 = .ok (.istore_n 3, 1) := by decide +kernel
theorem dX3_placesTaken_2 : decode cX3_placesTaken 2 = .ok (.iconst 0, 1) := by decide +kernel
theorem dX3_placesTaken_3 : decode cX3_placesTaken 3 = .ok (.istore 4, 2) := by decide +kernel
theorem dX3_placesTaken_5 : decode cX3_placesTaken 5 = .ok (.iload 4, 2) := by decide +kernel
theorem dX3_placesTaken_7 : decode cX3_placesTaken 7 = .ok (.aload_n 0, 1) := by decide +kernel
theorem dX3_placesTaken_8 : decode cX3_placesTaken 8 = .ok (.getfield 53, 3) := by decide +kernel
theorem dX3_placesTaken_11 : decode cX3_placesTaken 11 = .ok (.if_icmp .ge 50, 3) := by decide +kernel
theorem dX3_placesTaken_14 : decode cX3_placesTaken 14 = .ok (.aload_n 0, 1) := by decide +kernel
theorem dX3_placesTaken_15 : decode cX3_placesTaken 15 = .ok (.getfield 25, 3) := by decide +kernel
theorem dX3_placesTaken_18 : decode cX3_placesTaken 18 = .ok (.iload 4, 2) := by decide +kernel
theorem dX3_placesTaken_20 : decode cX3_placesTaken 20 = .ok (.aaload, 1) := by decide +kernel
theorem dX3_placesTaken_21 : decode cX3_placesTaken 21 = .ok (.invokevirtual 114, 3) := by decide +kernel
theorem dX3_placesTaken_24 : decode cX3_placesTaken 24 = .ok (.ifCond .eq 31, 3) := by decide +kernel
theorem dX3_placesTaken_27 : decode cX3_placesTaken 27 = .ok (.aload_n 0, 1) := by decide +kernel
theorem dX3_placesTaken_28 : decode cX3_placesTaken 28 = .ok (.getfield 25, 3) := by decide +kernel
theorem dX3_placesTaken_31 : decode cX3_placesTaken 31 = .ok (.iload 4, 2) := by decide +kernel
theorem dX3_placesTaken_33 : decode cX3_placesTaken 33 = .ok (.aaload, 1) := by decide +kernel
theorem dX3_placesTaken_34 : decode cX3_placesTaken 34 = .ok (.iload_n 1, 1) := by decide +kernel
theorem dX3_placesTaken_35 : decode cX3_placesTaken 35 = .ok (.iload_n 2, 1) := by decide +kernel
theorem dX3_placesTaken_36 : decode cX3_placesTaken 36 = .ok (.invokevirtual 97, 3) := by decide +kernel
theorem dX3_placesTaken_39 : decode cX3_placesTaken 39 = .ok (.ifCond .eq 16, 3) := by decide +kernel
theorem dX3_placesTaken_42 : decode cX3_placesTaken 42 = .ok (.iload_n 3, 1) := by decide +kernel
theorem dX3_placesTaken_43 : decode cX3_placesTaken 43 = .ok (.aload_n 0, 1) := by decide +kernel
theorem dX3_placesTaken_44 : decode cX3_placesTaken 44 = .ok (.getfield 25, 3) := by decide +kernel
theorem dX3_placesTaken_47 : decode cX3_placesTaken 47 = .ok (.iload 4, 2) := by decide +kernel
theorem dX3_placesTaken_49 : decode cX3_placesTaken 49 = .ok (.aaload, 1) := by decide +kernel
theorem dX3_placesTaken_50 : decode cX3_placesTaken 50 = .ok (.getfield 91, 3) := by decide +kernel
theorem dX3_placesTaken_53 : decode cX3_placesTaken 53 = .ok (.iadd, 1) := by decide +kernel
theorem dX3_placesTaken_54 : decode cX3_placesTaken 54 = .ok (.istore_n 3, 1) := by decide +kernel
theorem dX3_placesTaken_55 : decode cX3_placesTaken 55 = .ok (.iinc 4 1, 3) := by decide +kernel
theorem dX3_placesTaken_58 : decode cX3_placesTaken 58 = .ok (.goto (-53), 3) := by decide +kernel
theorem dX3_placesTaken_61 : decode cX3_placesTaken 61 = .ok (.iload_n 3, 1) := by decide +kernel
theorem dX3_placesTaken_62 : decode cX3_placesTaken 62 = .ok (.ireturn, 1) := by decide +kernel
set_option maxRecDepth 20000 in
theorem ggX3_placesFree_X3_placesTaken : GoodIn wsX3_placesFree wsX3_placesTaken := goodIn_r _ [7, 8, 9, 10, 11, 12, 13, 14, 15, 16, 17, 18, 19, 20, 21, 22, 23, 24, 25, 26, 27, 28, 29, 30, 31, 34, 35, 36, 37, 38, 39, 40, 41, 42] rfl (by decide +kernel)
set_option maxRecDepth 20000 in
theorem gX3_placesFree_X3_placesTaken : GoodIn wsX3_placesFree (wsV RX3 117 RX3 yX3_placesTaken wsX3_placesTaken) := goodIn_app (goodIn_of _ (by decide +kernel)) ggX3_placesFree_X3_placesTaken
theorem dX3_placesFree_0 : decode cX3_placesFree 0 = .ok (.aload_n 0, 1) := by decide +kernel
theorem dX3_placesFree_1 : decode cX3_placesFree 1 = .ok (.getfield 11, 3) := by decide +kernel
theorem dX3_placesFree_4 : decode cX3_placesFree 4 = .ok (.iload_n 1, 1) := by decide +kernel
theorem dX3_placesFree_5 : decode cX3_placesFree 5 = .ok (.aaload, 1) := by decide +kernel
theorem dX3_placesFree_6 : decode cX3_placesFree 6 = .ok (.getfield 73, 3) := by decide +kernel
theorem dX3_placesFree_9 : decode cX3_placesFree 9 = .ok (.aload_n 0, 1) := by decide +kernel
theorem dX3_placesFree_10 : decode cX3_placesFree 10 = .ok (.iload_n 1, 1) := by decide +kernel
theorem dX3_placesFree_11 : decode cX3_placesFree 11 = .ok (.iload_n 2, 1) := by decide +kernel
theorem dX3_placesFree_12 : decode cX3_placesFree 12 = .ok (.invokevirtual 117, 3) := by decide +kernel
theorem dX3_placesFree_15 : decode cX3_placesFree 15 = .ok (.isub, 1) := by decide +kernel
theorem dX3_placesFree_16 : decode cX3_placesFree 16 = .ok (.ireturn, 1) := by decide +kernel
set_option maxRecDepth 20000 in
theorem ggX3_placesForLottery_X3_placesFree : GoodIn wsX3_placesForLottery wsX3_placesFree := goodIn_r _ [7, 1, 8, 9, 10, 11, 6, 12, 13, 14, 15, 16, 17, 18, 19, 20, 21, 22, 23, 24, 25, 26, 27, 28, 29, 30, 31, 32, 33, 34, 35, 36, 37, 38, 39, 40, 41, 42, 43, 44, 45, 46, 47] rfl (by decide +kernel)
set_option maxRecDepth 20000 in
theorem gX3_placesForLottery_X3_placesFree : GoodIn wsX3_placesForLottery (wsV RX3 121 RX3 yX3_placesFree wsX3_placesFree) := goodIn_app (goodIn_of _ (by decide +kernel)) ggX3_placesForLottery_X3_placesFree
theorem dX3_placesForLottery_0 : decode cX3_placesForLottery 0 = .ok (.aload_n 0, 1) := by decide +kernel
theorem dX3_placesForLottery_1 : decode cX3_placesForLottery 1 = .ok (.iload_n 1, 1) := by decide +kernel
theorem dX3_placesForLottery_2 : decode cX3_placesForLottery 2 = .ok (.iload_n 2, 1) := by decide +kernel
theorem dX3_placesForLottery_3 : decode cX3_placesForLottery 3 = .ok (.invokevirtual 121, 3) := by decide +kernel
theorem dX3_placesForLottery_6 : decode cX3_placesForLottery 6 = .ok (.aload_n 0, 1) := by decide +kernel
theorem dX3_placesForLottery_7 : decode cX3_placesForLottery 7 = .ok (.getfield 11, 3) := by decide +kernel
theorem dX3_placesForLottery_10 : decode cX3_placesForLottery 10 = .ok (.iload_n 1, 1) := by decide +kernel
theorem dX3_placesForLottery_11 : decode cX3_placesForLottery 11 = .ok (.aaload, 1) := by decide +kernel
theorem dX3_placesForLottery_12 : decode cX3_placesForLottery 12 = .ok (.getfield 76, 3) := by decide +kernel
theorem dX3_placesForLottery_15 : decode cX3_placesForLottery 15 = .ok (.isub, 1) := by decide +kernel
theorem dX3_placesForLottery_16 : decode cX3_placesForLottery 16 = .ok (.ireturn, 1) := by decide +kernel
set_option maxRecDepth 20000 in
theorem ggX3_isBarred_X1_isBarredOn : GoodIn wsX3_isBarred wsX1_isBarredOn := goodIn_r _ [8, 9, 28, 29, 30] rfl (by decide +kernel)
set_option maxRecDepth 20000 in
theorem gX3_isBarred_X1_isBarredOn : GoodIn wsX3_isBarred (wsV RX3 124 RX1 yX1_isBarredOn wsX1_isBarredOn) := goodIn_app (goodIn_of _ (by decide +kernel)) ggX3_isBarred_X1_isBarredOn
theorem dX3_isBarred_0 : decode cX3_isBarred 0 = .ok (.aload_n 0, 1) := by decide +kernel
theorem dX3_isBarred_1 : decode cX3_isBarred 1 = .ok (.getfield 19, 3) := by decide +kernel
theorem dX3_isBarred_4 : decode cX3_isBarred 4 = .ok (.aload_n 1, 1) := by decide +kernel
theorem dX3_isBarred_5 : decode cX3_isBarred 5 = .ok (.getfield 79, 3) := by decide +kernel
theorem dX3_isBarred_8 : decode cX3_isBarred 8 = .ok (.aaload, 1) := by decide +kernel
theorem dX3_isBarred_9 : decode cX3_isBarred 9 = .ok (.aload_n 1, 1) := by decide +kernel
theorem dX3_isBarred_10 : decode cX3_isBarred 10 = .ok (.getfield 85, 3) := by decide +kernel
theorem dX3_isBarred_13 : decode cX3_isBarred 13 = .ok (.invokevirtual 124, 3) := by decide +kernel
theorem dX3_isBarred_16 : decode cX3_isBarred 16 = .ok (.ireturn, 1) := by decide +kernel
theorem dX3_ticketsOf_0 : decode cX3_ticketsOf 0 = .ok (.iconst 1, 1) := by decide +kernel
theorem dX3_ticketsOf_1 : decode cX3_ticketsOf 1 = .ok (.aload_n 0, 1) := by decide +kernel
theorem dX3_ticketsOf_2 : decode cX3_ticketsOf 2 = .ok (.getfield 37, 3) := by decide +kernel
theorem dX3_ticketsOf_5 : decode cX3_ticketsOf 5 = .ok (.iconst 1, 1) := by decide +kernel
theorem dX3_ticketsOf_6 : decode cX3_ticketsOf 6 = .ok (.iaload, 1) := by decide +kernel
theorem dX3_ticketsOf_7 : decode cX3_ticketsOf 7 = .ok (.aload_n 0, 1) := by decide +kernel
theorem dX3_ticketsOf_8 : decode cX3_ticketsOf 8 = .ok (.getfield 19, 3) := by decide +kernel
theorem dX3_ticketsOf_11 : decode cX3_ticketsOf 11 = .ok (.aload_n 1, 1) := by decide +kernel
theorem dX3_ticketsOf_12 : decode cX3_ticketsOf 12 = .ok (.getfield 79, 3) := by decide +kernel
theorem dX3_ticketsOf_15 : decode cX3_ticketsOf 15 = .ok (.aaload, 1) := by decide +kernel
theorem dX3_ticketsOf_16 : decode cX3_ticketsOf 16 = .ok (.getfield 127, 3) := by decide +kernel
theorem dX3_ticketsOf_19 : decode cX3_ticketsOf 19 = .ok (.imul, 1) := by decide +kernel
theorem dX3_ticketsOf_20 : decode cX3_ticketsOf 20 = .ok (.iadd, 1) := by decide +kernel
theorem dX3_ticketsOf_21 : decode cX3_ticketsOf 21 = .ok (.ireturn, 1) := by decide +kernel
theorem dX3_givePermit_0 : decode cX3_givePermit 0 = .ok (.aload_n 1, 1) := by decide +kernel
theorem dX3_givePermit_1 : decode cX3_givePermit 1 = .ok (.iconst 1, 1) := by decide +kernel
theorem dX3_givePermit_2 : decode cX3_givePermit 2 = .ok (.putfield 105, 3) := by decide +kernel
theorem dX3_givePermit_5 : decode cX3_givePermit 5 = .ok (.aload_n 1, 1) := by decide +kernel
theorem dX3_givePermit_6 : decode cX3_givePermit 6 = .ok (.aload_n 0, 1) := by decide +kernel
theorem dX3_givePermit_7 : decode cX3_givePermit 7 = .ok (.getfield 37, 3) := by decide +kernel
theorem dX3_givePermit_10 : decode cX3_givePermit 10 = .ok (.iconst 0, 1) := by decide +kernel
theorem dX3_givePermit_11 : decode cX3_givePermit 11 = .ok (.iaload, 1) := by decide +kernel
theorem dX3_givePermit_12 : decode cX3_givePermit 12 = .ok (.aload_n 1, 1) := by decide +kernel
theorem dX3_givePermit_13 : decode cX3_givePermit 13 = .ok (.getfield 91, 3) := by decide +kernel
theorem dX3_givePermit_16 : decode cX3_givePermit 16 = .ok (.imul, 1) := by decide +kernel
theorem dX3_givePermit_17 : decode cX3_givePermit 17 = .ok (.putfield 108, 3) := by decide +kernel
theorem dX3_givePermit_20 : decode cX3_givePermit 20 = .ok (.return_, 1) := by decide +kernel
set_option maxRecDepth 20000 in
theorem ggX3_loseApplied_X0_isOf : GoodIn wsX3_loseApplied wsX0_isOf := goodIn_r _ [8, 9, 10, 20, 21, 22, 23, 24, 25, 26, 27, 28] rfl (by decide +kernel)
set_option maxRecDepth 20000 in
theorem gX3_loseApplied_X0_isOf : GoodIn wsX3_loseApplied (wsV RX3 97 RX0 yX0_isOf wsX0_isOf) := goodIn_app (goodIn_of _ (by decide +kernel)) ggX3_loseApplied_X0_isOf
theorem dX3_loseApplied_0 : decode cX3_loseApplied 0 = .ok (.iconst 0, 1) := by decide +kernel
theorem dX3_loseApplied_1 : decode cX3_loseApplied 1 = .ok (.istore_n 3, 1) := by decide +kernel
theorem dX3_loseApplied_2 : decode cX3_loseApplied 2 = .ok (.iload_n 3, 1) := by decide +kernel
theorem dX3_loseApplied_3 : decode cX3_loseApplied 3 = .ok (.aload_n 0, 1) := by decide +kernel
theorem dX3_loseApplied_4 : decode cX3_loseApplied 4 = .ok (.getfield 53, 3) := by decide +kernel
theorem dX3_loseApplied_7 : decode cX3_loseApplied 7 = .ok (.if_icmp .ge 45, 3) := by decide +kernel
theorem dX3_loseApplied_10 : decode cX3_loseApplied 10 = .ok (.aload_n 0, 1) := by decide +kernel
theorem dX3_loseApplied_11 : decode cX3_loseApplied 11 = .ok (.getfield 25, 3) := by decide +kernel
theorem dX3_loseApplied_14 : decode cX3_loseApplied 14 = .ok (.iload_n 3, 1) := by decide +kernel
theorem dX3_loseApplied_15 : decode cX3_loseApplied 15 = .ok (.aaload, 1) := by decide +kernel
theorem dX3_loseApplied_16 : decode cX3_loseApplied 16 = .ok (.getfield 105, 3) := by decide +kernel
theorem dX3_loseApplied_19 : decode cX3_loseApplied 19 = .ok (.ifCond .ne 27, 3) := by decide +kernel
theorem dX3_loseApplied_22 : decode cX3_loseApplied 22 = .ok (.aload_n 0, 1) := by decide +kernel
theorem dX3_loseApplied_23 : decode cX3_loseApplied 23 = .ok (.getfield 25, 3) := by decide +kernel
theorem dX3_loseApplied_26 : decode cX3_loseApplied 26 = .ok (.iload_n 3, 1) := by decide +kernel
theorem dX3_loseApplied_27 : decode cX3_loseApplied 27 = .ok (.aaload, 1) := by decide +kernel
theorem dX3_loseApplied_28 : decode cX3_loseApplied 28 = .ok (.iload_n 1, 1) := by decide +kernel
theorem dX3_loseApplied_29 : decode cX3_loseApplied 29 = .ok (.iload_n 2, 1) := by decide +kernel
theorem dX3_loseApplied_30 : decode cX3_loseApplied 30 = .ok (.invokevirtual 97, 3) := by decide +kernel
theorem dX3_loseApplied_33 : decode cX3_loseApplied 33 = .ok (.ifCond .eq 13, 3) := by decide +kernel
theorem dX3_loseApplied_36 : decode cX3_loseApplied 36 = .ok (.aload_n 0, 1) := by decide +kernel
theorem dX3_loseApplied_37 : decode cX3_loseApplied 37 = .ok (.getfield 25, 3) := by decide +kernel
theorem dX3_loseApplied_40 : decode cX3_loseApplied 40 = .ok (.iload_n 3, 1) := by decide +kernel
theorem dX3_loseApplied_41 : decode cX3_loseApplied 41 = .ok (.aaload, 1) := by decide +kernel
theorem dX3_loseApplied_42 : decode cX3_loseApplied 42 = .ok (.iconst 2, 1) := by decide +kernel
theorem dX3_loseApplied_43 : decode cX3_loseApplied 43 = .ok (.putfield 105, 3) := by decide +kernel
theorem dX3_loseApplied_46 : decode cX3_loseApplied 46 = .ok (.iinc 3 1, 3) := by decide +kernel
theorem dX3_loseApplied_49 : decode cX3_loseApplied 49 = .ok (.goto (-47), 3) := by decide +kernel
theorem dX3_loseApplied_52 : decode cX3_loseApplied 52 = .ok (.return_, 1) := by decide +kernel
theorem dX3_refundNow_0 : decode cX3_refundNow 0 = .ok (.aload_n 1, 1) := by decide +kernel
theorem dX3_refundNow_1 : decode cX3_refundNow 1 = .ok (.getfield 85, 3) := by decide +kernel
theorem dX3_refundNow_4 : decode cX3_refundNow 4 = .ok (.aload_n 0, 1) := by decide +kernel
theorem dX3_refundNow_5 : decode cX3_refundNow 5 = .ok (.getfield 43, 3) := by decide +kernel
theorem dX3_refundNow_8 : decode cX3_refundNow 8 = .ok (.isub, 1) := by decide +kernel
theorem dX3_refundNow_9 : decode cX3_refundNow 9 = .ok (.istore_n 2, 1) := by decide +kernel
theorem dX3_refundNow_10 : decode cX3_refundNow 10 = .ok (.iload_n 2, 1) := by decide +kernel
theorem dX3_refundNow_11 : decode cX3_refundNow 11 = .ok (.bipush 7, 2) := by decide +kernel
theorem dX3_refundNow_13 : decode cX3_refundNow 13 = .ok (.if_icmp .lt 8, 3) := by decide +kernel
theorem dX3_refundNow_16 : decode cX3_refundNow 16 = .ok (.aload_n 1, 1) := by decide +kernel
theorem dX3_refundNow_17 : decode cX3_refundNow 17 = .ok (.getfield 108, 3) := by decide +kernel
theorem dX3_refundNow_20 : decode cX3_refundNow 20 = .ok (.ireturn, 1) := by decide +kernel
theorem dX3_refundNow_21 : decode cX3_refundNow 21 = .ok (.iload_n 2, 1) := by decide +kernel
theorem dX3_refundNow_22 : decode cX3_refundNow 22 = .ok (.iconst 3, 1) := by decide +kernel
theorem dX3_refundNow_23 : decode cX3_refundNow 23 = .ok (.if_icmp .lt 12, 3) := by decide +kernel
theorem dX3_refundNow_26 : decode cX3_refundNow 26 = .ok (.aload_n 1, 1) := by decide +kernel
theorem dX3_refundNow_27 : decode cX3_refundNow 27 = .ok (.getfield 108, 3) := by decide +kernel
theorem dX3_refundNow_30 : decode cX3_refundNow 30 = .ok (.iconst 2, 1) := by decide +kernel
theorem dX3_refundNow_31 : decode cX3_refundNow 31 = .ok (.idiv, 1) := by decide +kernel
theorem dX3_refundNow_32 : decode cX3_refundNow 32 = .ok (.goto 4, 3) := by decide +kernel
theorem dX3_refundNow_35 : decode cX3_refundNow 35 = .ok (.iconst 0, 1) := by decide +kernel
theorem dX3_refundNow_36 : decode cX3_refundNow 36 = .ok (.ireturn, 1) := by decide +kernel
set_option maxRecDepth 20000 in
theorem ggX3_firstWaiting_X0_isOf : GoodIn wsX3_firstWaiting wsX0_isOf := goodIn_r _ [12, 13, 14, 36, 37, 38, 39, 40, 41, 42, 43, 44] rfl (by decide +kernel)
set_option maxRecDepth 20000 in
theorem gX3_firstWaiting_X0_isOf : GoodIn wsX3_firstWaiting (wsV RX3 97 RX0 yX0_isOf wsX0_isOf) := goodIn_app (goodIn_of _ (by decide +kernel)) ggX3_firstWaiting_X0_isOf
set_option maxRecDepth 20000 in
theorem ggX3_firstWaiting_X3_isBarred : GoodIn wsX3_firstWaiting wsX3_isBarred := goodIn_r _ [19, 5, 6, 20, 21, 22, 23, 24, 25, 26, 27, 28, 29, 30, 31, 32, 33, 34, 35, 36, 37, 38, 39, 40, 41, 42, 43, 44, 45, 46, 47] rfl (by decide +kernel)
set_option maxRecDepth 20000 in
theorem gX3_firstWaiting_X3_isBarred : GoodIn wsX3_firstWaiting (wsV RX3 130 RX3 yX3_isBarred wsX3_isBarred) := goodIn_app (goodIn_of _ (by decide +kernel)) ggX3_firstWaiting_X3_isBarred
theorem dX3_firstWaiting_0 : decode cX3_firstWaiting 0 = .ok (.bipush (-6), 2) := by decide +kernel
theorem dX3_firstWaiting_2 : decode cX3_firstWaiting 2 = .ok (.istore 4, 2) := by decide +kernel
theorem dX3_firstWaiting_4 : decode cX3_firstWaiting 4 = .ok (.iconst (-1), 1) := by decide +kernel
theorem dX3_firstWaiting_5 : decode cX3_firstWaiting 5 = .ok (.istore 5, 2) := by decide +kernel
theorem dX3_firstWaiting_7 : decode cX3_firstWaiting 7 = .ok (.iconst 0, 1) := by decide +kernel
theorem dX3_firstWaiting_8 : decode cX3_firstWaiting 8 = .ok (.istore 6, 2) := by decide +kernel
theorem dX3_firstWaiting_10 : decode cX3_firstWaiting 10 = .ok (.iload 6, 2) := by decide +kernel
theorem dX3_firstWaiting_12 : decode cX3_firstWaiting 12 = .ok (.aload_n 0, 1) := by decide +kernel
theorem dX3_firstWaiting_13 : decode cX3_firstWaiting 13 = .ok (.getfield 53, 3) := by decide +kernel
theorem dX3_firstWaiting_16 : decode cX3_firstWaiting 16 = .ok (.if_icmp .ge 92, 3) := by decide +kernel
theorem dX3_firstWaiting_19 : decode cX3_firstWaiting 19 = .ok (.aload_n 0, 1) := by decide +kernel
theorem dX3_firstWaiting_20 : decode cX3_firstWaiting 20 = .ok (.getfield 25, 3) := by decide +kernel
theorem dX3_firstWaiting_23 : decode cX3_firstWaiting 23 = .ok (.iload 6, 2) := by decide +kernel
theorem dX3_firstWaiting_25 : decode cX3_firstWaiting 25 = .ok (.aaload, 1) := by decide +kernel
theorem dX3_firstWaiting_26 : decode cX3_firstWaiting 26 = .ok (.astore 7, 2) := by decide +kernel
theorem dX3_firstWaiting_28 : decode cX3_firstWaiting 28 = .ok (.aload 7, 2) := by decide +kernel
theorem dX3_firstWaiting_30 : decode cX3_firstWaiting 30 = .ok (.getfield 105, 3) := by decide +kernel
theorem dX3_firstWaiting_33 : decode cX3_firstWaiting 33 = .ok (.iconst 2, 1) := by decide +kernel
theorem dX3_firstWaiting_34 : decode cX3_firstWaiting 34 = .ok (.if_icmp .ne 68, 3) := by decide +kernel
theorem dX3_firstWaiting_37 : decode cX3_firstWaiting 37 = .ok (.aload 7, 2) := by decide +kernel
theorem dX3_firstWaiting_39 : decode cX3_firstWaiting 39 = .ok (.iload_n 1, 1) := by decide +kernel
theorem dX3_firstWaiting_40 : decode cX3_firstWaiting 40 = .ok (.iload_n 2, 1) := by decide +kernel
theorem dX3_firstWaiting_41 : decode cX3_firstWaiting 41 = .ok (.invokevirtual 97, 3) := by decide +kernel
theorem dX3_firstWaiting_44 : decode cX3_firstWaiting 44 = .ok (.ifCond .eq 58, 3) := by decide +kernel
theorem dX3_firstWaiting_47 : decode cX3_firstWaiting 47 = .ok (.aload 7, 2) := by decide +kernel
theorem dX3_firstWaiting_49 : decode cX3_firstWaiting 49 = .ok (.getfield 91, 3) := by decide +kernel
theorem dX3_firstWaiting_52 : decode cX3_firstWaiting 52 = .ok (.iload_n 3, 1) := by decide +kernel
theorem dX3_firstWaiting_53 : decode cX3_firstWaiting 53 = .ok (.if_icmp .gt 49, 3) := by decide +kernel
theorem dX3_firstWaiting_56 : decode cX3_firstWaiting 56 = .ok (.aload_n 0, 1) := by decide +kernel
theorem dX3_firstWaiting_57 : decode cX3_firstWaiting 57 = .ok (.aload 7, 2) := by decide +kernel
theorem dX3_firstWaiting_59 : decode cX3_firstWaiting 59 = .ok (.invokevirtual 130, 3) := by decide +kernel
theorem dX3_firstWaiting_62 : decode cX3_firstWaiting 62 = .ok (.ifCond .ne 40, 3) := by decide +kernel
theorem dX3_firstWaiting_65 : decode cX3_firstWaiting 65 = .ok (.aload_n 0, 1) := by decide +kernel
theorem dX3_firstWaiting_66 : decode cX3_firstWaiting 66 = .ok (.getfield 19, 3) := by decide +kernel
theorem dX3_firstWaiting_69 : decode cX3_firstWaiting 69 = .ok (.aload 7, 2) := by decide +kernel
theorem dX3_firstWaiting_71 : decode cX3_firstWaiting 71 = .ok (.getfield 79, 3) := by decide +kernel
theorem dX3_firstWaiting_74 : decode cX3_firstWaiting 74 = .ok (.aaload, 1) := by decide +kernel
theorem dX3_firstWaiting_75 : decode cX3_firstWaiting 75 = .ok (.getfield 127, 3) := by decide +kernel
theorem dX3_firstWaiting_78 : decode cX3_firstWaiting 78 = .ok (.iload 5, 2) := by decide +kernel
theorem dX3_firstWaiting_80 : decode cX3_firstWaiting 80 = .ok (.if_icmp .le 22, 3) := by decide +kernel
theorem dX3_firstWaiting_83 : decode cX3_firstWaiting 83 = .ok (.iload 6, 2) := by decide +kernel
theorem dX3_firstWaiting_85 : decode cX3_firstWaiting 85 = .ok (.istore 4, 2) := by decide +kernel
theorem dX3_firstWaiting_87 : decode cX3_firstWaiting 87 = .ok (.aload_n 0, 1) := by decide +kernel
theorem dX3_firstWaiting_88 : decode cX3_firstWaiting 88 = .ok (.getfield 19, 3) := by decide +kernel
theorem dX3_firstWaiting_91 : decode cX3_firstWaiting 91 = .ok (.aload 7, 2) := by decide +kernel
theorem dX3_firstWaiting_93 : decode cX3_firstWaiting 93 = .ok (.getfield 79, 3) := by decide +kernel
theorem dX3_firstWaiting_96 : decode cX3_firstWaiting 96 = .ok (.aaload, 1) := by decide +kernel
theorem dX3_firstWaiting_97 : decode cX3_firstWaiting 97 = .ok (.getfield 127, 3) := by decide +kernel
theorem dX3_firstWaiting_100 : decode cX3_firstWaiting 100 = .ok (.istore 5, 2) := by decide +kernel
theorem dX3_firstWaiting_102 : decode cX3_firstWaiting 102 = .ok (.iinc 6 1, 3) := by decide +kernel
theorem dX3_firstWaiting_105 : decode cX3_firstWaiting 105 = .ok (.goto (-95), 3) := by decide +kernel
theorem dX3_firstWaiting_108 : decode cX3_firstWaiting 108 = .ok (.iload 4, 2) := by decide +kernel
theorem dX3_firstWaiting_110 : decode cX3_firstWaiting 110 = .ok (.ireturn, 1) := by decide +kernel
set_option maxRecDepth 20000 in
theorem ggX3_serveWaiting_X3_isOpen : GoodIn wsX3_serveWaiting wsX3_isOpen := goodIn_r _ [10, 11, 12, 13, 14, 15, 66, 67, 68, 69, 70, 71, 72, 73, 74] rfl (by decide +kernel)
set_option maxRecDepth 20000 in
theorem gX3_serveWaiting_X3_isOpen : GoodIn wsX3_serveWaiting (wsV RX3 134 RX3 yX3_isOpen wsX3_isOpen) := goodIn_app (goodIn_of _ (by decide +kernel)) ggX3_serveWaiting_X3_isOpen
set_option maxRecDepth 20000 in
theorem ggX3_serveWaiting_X3_placesForLottery : GoodIn wsX3_serveWaiting wsX3_placesForLottery := goodIn_r _ [19, 20, 21, 22, 23, 24, 9, 25, 26, 27, 28, 29, 30, 1, 2, 31, 32, 33, 34, 35, 36, 37, 38, 39, 40, 41, 42, 43, 66, 67, 68, 69, 70, 71, 72, 73, 74, 87, 88, 75, 76, 77, 78, 79, 80, 81, 82, 83] rfl (by decide +kernel)
set_option maxRecDepth 20000 in
theorem gX3_serveWaiting_X3_placesForLottery : GoodIn wsX3_serveWaiting (wsV RX3 137 RX3 yX3_placesForLottery wsX3_placesForLottery) := goodIn_app (goodIn_of _ (by decide +kernel)) ggX3_serveWaiting_X3_placesForLottery
set_option maxRecDepth 20000 in
theorem ggX3_serveWaiting_X3_firstWaiting : GoodIn wsX3_serveWaiting wsX3_firstWaiting := goodIn_r _ [47, 1, 2, 48, 31, 3, 4, 5, 38, 39, 40, 35, 41, 42, 43, 49, 50, 51, 9, 52, 53, 54, 55, 56, 57, 58, 59, 66, 67, 68, 69, 70, 71, 72, 73, 74, 75, 76, 77, 78, 79, 80, 81, 82, 83, 84, 85, 86] rfl (by decide +kernel)
set_option maxRecDepth 20000 in
theorem gX3_serveWaiting_X3_firstWaiting : GoodIn wsX3_serveWaiting (wsV RX3 140 RX3 yX3_firstWaiting wsX3_firstWaiting) := goodIn_app (goodIn_of _ (by decide +kernel)) ggX3_serveWaiting_X3_firstWaiting
set_option maxRecDepth 20000 in
theorem ggX3_serveWaiting_X3_givePermit : GoodIn wsX3_serveWaiting wsX3_givePermit := goodIn_r _ [63, 48, 64, 31, 65, 75, 76, 77, 78, 79, 80, 81, 82, 83, 66, 67, 68, 69, 70, 71, 72, 73, 74] rfl (by decide +kernel)
set_option maxRecDepth 20000 in
theorem gX3_serveWaiting_X3_givePermit : GoodIn wsX3_serveWaiting (wsV RX3 144 RX3 yX3_givePermit wsX3_givePermit) := goodIn_app (goodIn_of _ (by decide +kernel)) ggX3_serveWaiting_X3_givePermit
theorem dX3_serveWaiting_0 : decode cX3_serveWaiting 0 = .ok (.aload_n 0, 1) := by decide +kernel
theorem dX3_serveWaiting_1 : decode cX3_serveWaiting 1 = .ok (.iload_n 2, 1) := by decide +kernel
theorem dX3_serveWaiting_2 : decode cX3_serveWaiting 2 = .ok (.invokevirtual 134, 3) := by decide +kernel
theorem dX3_serveWaiting_5 : decode cX3_serveWaiting 5 = .ok (.ifCond .ne 4, 3) := by decide +kernel
theorem dX3_serveWaiting_8 : decode cX3_serveWaiting 8 = .ok (.return_, 1) := by decide +kernel
theorem dX3_serveWaiting_9 : decode cX3_serveWaiting 9 = .ok (.iconst 0, 1) := by decide +kernel
theorem dX3_serveWaiting_10 : decode cX3_serveWaiting 10 = .ok (.istore_n 3, 1) := by decide +kernel
theorem dX3_serveWaiting_11 : decode cX3_serveWaiting 11 = .ok (.iload_n 3, 1) := by decide +kernel
theorem dX3_serveWaiting_12 : decode cX3_serveWaiting 12 = .ok (.aload_n 0, 1) := by decide +kernel
theorem dX3_serveWaiting_13 : decode cX3_serveWaiting 13 = .ok (.getfield 53, 3) := by decide +kernel
theorem dX3_serveWaiting_16 : decode cX3_serveWaiting 16 = .ok (.if_icmp .ge 59, 3) := by decide +kernel
theorem dX3_serveWaiting_19 : decode cX3_serveWaiting 19 = .ok (.aload_n 0, 1) := by decide +kernel
theorem dX3_serveWaiting_20 : decode cX3_serveWaiting 20 = .ok (.iload_n 1, 1) := by decide +kernel
theorem dX3_serveWaiting_21 : decode cX3_serveWaiting 21 = .ok (.iload_n 2, 1) := by decide +kernel
theorem dX3_serveWaiting_22 : decode cX3_serveWaiting 22 = .ok (.aload_n 0, 1) := by decide +kernel
theorem dX3_serveWaiting_23 : decode cX3_serveWaiting 23 = .ok (.iload_n 1, 1) := by decide +kernel
theorem dX3_serveWaiting_24 : decode cX3_serveWaiting 24 = .ok (.iload_n 2, 1) := by decide +kernel
theorem dX3_serveWaiting_25 : decode cX3_serveWaiting 25 = .ok (.invokevirtual 137, 3) := by decide +kernel
theorem dX3_serveWaiting_28 : decode cX3_serveWaiting 28 = .ok (.invokevirtual 140, 3) := by decide +kernel
theorem dX3_serveWaiting_31 : decode cX3_serveWaiting 31 = .ok (.istore 4, 2) := by decide +kernel
theorem dX3_serveWaiting_33 : decode cX3_serveWaiting 33 = .ok (.iload 4, 2) := by decide +kernel
theorem dX3_serveWaiting_35 : decode cX3_serveWaiting 35 = .ok (.ifCond .ge 4, 3) := by decide +kernel
theorem dX3_serveWaiting_38 : decode cX3_serveWaiting 38 = .ok (.return_, 1) := by decide +kernel
theorem dX3_serveWaiting_39 : decode cX3_serveWaiting 39 = .ok (.aload_n 0, 1) := by decide +kernel
theorem dX3_serveWaiting_40 : decode cX3_serveWaiting 40 = .ok (.aload_n 0, 1) := by decide +kernel
theorem dX3_serveWaiting_41 : decode cX3_serveWaiting 41 = .ok (.getfield 25, 3) := by decide +kernel
theorem dX3_serveWaiting_44 : decode cX3_serveWaiting 44 = .ok (.iload 4, 2) := by decide +kernel
theorem dX3_serveWaiting_46 : decode cX3_serveWaiting 46 = .ok (.aaload, 1) := by decide +kernel
theorem dX3_serveWaiting_47 : decode cX3_serveWaiting 47 = .ok (.invokevirtual 144, 3) := by decide +kernel
theorem dX3_serveWaiting_50 : decode cX3_serveWaiting 50 = .ok (.aload_n 0, 1) := by decide +kernel
theorem dX3_serveWaiting_51 : decode cX3_serveWaiting 51 = .ok (.getfield 19, 3) := by decide +kernel
theorem dX3_serveWaiting_54 : decode cX3_serveWaiting 54 = .ok (.aload_n 0, 1) := by decide +kernel
theorem dX3_serveWaiting_55 : decode cX3_serveWaiting 55 = .ok (.getfield 25, 3) := by decide +kernel
theorem dX3_serveWaiting_58 : decode cX3_serveWaiting 58 = .ok (.iload 4, 2) := by decide +kernel
theorem dX3_serveWaiting_60 : decode cX3_serveWaiting 60 = .ok (.aaload, 1) := by decide +kernel
theorem dX3_serveWaiting_61 : decode cX3_serveWaiting 61 = .ok (.getfield 79, 3) := by decide +kernel
theorem dX3_serveWaiting_64 : decode cX3_serveWaiting 64 = .ok (.aaload, 1) := by decide +kernel
theorem dX3_serveWaiting_65 : decode cX3_serveWaiting 65 = .ok (.iconst 0, 1) := by decide +kernel
theorem dX3_serveWaiting_66 : decode cX3_serveWaiting 66 = .ok (.putfield 127, 3) := by decide +kernel
theorem dX3_serveWaiting_69 : decode cX3_serveWaiting 69 = .ok (.iinc 3 1, 3) := by decide +kernel
theorem dX3_serveWaiting_72 : decode cX3_serveWaiting 72 = .ok (.goto (-61), 3) := by decide +kernel
theorem dX3_serveWaiting_75 : decode cX3_serveWaiting 75 = .ok (.return_, 1) := by decide +kernel
set_option maxRecDepth 20000 in
theorem ggX3_movePermits_X3_laterDayFor : GoodIn wsX3_movePermits wsX3_laterDayFor := goodIn_r _ [15, 4, 16, 17, 18, 19, 20, 21, 22, 23, 24, 25, 14, 26, 27, 28, 29, 30, 31, 32, 33, 34, 35, 36, 37, 38, 39, 40, 41, 1, 2, 42, 43, 44, 45, 46, 47, 48, 49, 50, 51, 52, 53, 63, 64, 65, 66, 67, 68, 69, 70, 71, 54, 55, 56, 57, 58, 59, 60, 61, 62, 75, 76] rfl (by decide +kernel)
set_option maxRecDepth 20000 in
theorem gX3_movePermits_X3_laterDayFor : GoodIn wsX3_movePermits (wsV RX3 147 RX3 yX3_laterDayFor wsX3_laterDayFor) := goodIn_app (goodIn_of _ (by decide +kernel)) ggX3_movePermits_X3_laterDayFor
theorem dX3_movePermits_0 : decode cX3_movePermits 0 = .ok (.iconst 0, 1) := by decide +kernel
theorem dX3_movePermits_1 : decode cX3_movePermits 1 = .ok (.istore_n 2, 1) := by decide +kernel
theorem dX3_movePermits_2 : decode cX3_movePermits 2 = .ok (.iconst 0, 1) := by decide +kernel
theorem dX3_movePermits_3 : decode cX3_movePermits 3 = .ok (.istore_n 3, 1) := by decide +kernel
theorem dX3_movePermits_4 : decode cX3_movePermits 4 = .ok (.iload_n 3, 1) := by decide +kernel
theorem dX3_movePermits_5 : decode cX3_movePermits 5 = .ok (.aload_n 0, 1) := by decide +kernel
theorem dX3_movePermits_6 : decode cX3_movePermits 6 = .ok (.getfield 53, 3) := by decide +kernel
theorem dX3_movePermits_9 : decode cX3_movePermits 9 = .ok (.if_icmp .ge 102, 3) := by decide +kernel
theorem dX3_movePermits_12 : decode cX3_movePermits 12 = .ok (.aload_n 0, 1) := by decide +kernel
theorem dX3_movePermits_13 : decode cX3_movePermits 13 = .ok (.getfield 25, 3) := by decide +kernel
theorem dX3_movePermits_16 : decode cX3_movePermits 16 = .ok (.iload_n 3, 1) := by decide +kernel
theorem dX3_movePermits_17 : decode cX3_movePermits 17 = .ok (.aaload, 1) := by decide +kernel
theorem dX3_movePermits_18 : decode cX3_movePermits 18 = .ok (.astore 4, 2) := by decide +kernel
theorem dX3_movePermits_20 : decode cX3_movePermits 20 = .ok (.aload 4, 2) := by decide +kernel
theorem dX3_movePermits_22 : decode cX3_movePermits 22 = .ok (.getfield 105, 3) := by decide +kernel
theorem dX3_movePermits_25 : decode cX3_movePermits 25 = .ok (.iconst 1, 1) := by decide +kernel
theorem dX3_movePermits_26 : decode cX3_movePermits 26 = .ok (.if_icmp .ne 79, 3) := by decide +kernel
theorem dX3_movePermits_29 : decode cX3_movePermits 29 = .ok (.aload 4, 2) := by decide +kernel
theorem dX3_movePermits_31 : decode cX3_movePermits 31 = .ok (.getfield 85, 3) := by decide +kernel
theorem dX3_movePermits_34 : decode cX3_movePermits 34 = .ok (.iload_n 1, 1) := by decide +kernel
theorem dX3_movePermits_35 : decode cX3_movePermits 35 = .ok (.if_icmp .ne 70, 3) := by decide +kernel
theorem dX3_movePermits_38 : decode cX3_movePermits 38 = .ok (.aload_n 0, 1) := by decide +kernel
theorem dX3_movePermits_39 : decode cX3_movePermits 39 = .ok (.aload 4, 2) := by decide +kernel
theorem dX3_movePermits_41 : decode cX3_movePermits 41 = .ok (.invokevirtual 147, 3) := by decide +kernel
theorem dX3_movePermits_44 : decode cX3_movePermits 44 = .ok (.istore 5, 2) := by decide +kernel
theorem dX3_movePermits_46 : decode cX3_movePermits 46 = .ok (.iload 5, 2) := by decide +kernel
theorem dX3_movePermits_48 : decode cX3_movePermits 48 = .ok (.ifCond .ge 41, 3) := by decide +kernel
theorem dX3_movePermits_51 : decode cX3_movePermits 51 = .ok (.aload 4, 2) := by decide +kernel
theorem dX3_movePermits_53 : decode cX3_movePermits 53 = .ok (.iconst 4, 1) := by decide +kernel
theorem dX3_movePermits_54 : decode cX3_movePermits 54 = .ok (.putfield 105, 3) := by decide +kernel
theorem dX3_movePermits_57 : decode cX3_movePermits 57 = .ok (.aload 4, 2) := by decide +kernel
theorem dX3_movePermits_59 : decode cX3_movePermits 59 = .ok (.aload 4, 2) := by decide +kernel
theorem dX3_movePermits_61 : decode cX3_movePermits 61 = .ok (.getfield 108, 3) := by decide +kernel
theorem dX3_movePermits_64 : decode cX3_movePermits 64 = .ok (.putfield 111, 3) := by decide +kernel
theorem dX3_movePermits_67 : decode cX3_movePermits 67 = .ok (.aload_n 0, 1) := by decide +kernel
theorem dX3_movePermits_68 : decode cX3_movePermits 68 = .ok (.getfield 19, 3) := by decide +kernel
theorem dX3_movePermits_71 : decode cX3_movePermits 71 = .ok (.aload 4, 2) := by decide +kernel
theorem dX3_movePermits_73 : decode cX3_movePermits 73 = .ok (.getfield 79, 3) := by decide +kernel
theorem dX3_movePermits_76 : decode cX3_movePermits 76 = .ok (.aaload, 1) := by decide +kernel
theorem dX3_movePermits_77 : decode cX3_movePermits 77 = .ok (.dup, 1) := by decide +kernel
theorem dX3_movePermits_78 : decode cX3_movePermits 78 = .ok (.getfield 127, 3) := by decide +kernel
theorem dX3_movePermits_81 : decode cX3_movePermits 81 = .ok (.iconst 2, 1) := by decide +kernel
theorem dX3_movePermits_82 : decode cX3_movePermits 82 = .ok (.iadd, 1) := by decide +kernel
theorem dX3_movePermits_83 : decode cX3_movePermits 83 = .ok (.putfield 127, 3) := by decide +kernel
theorem dX3_movePermits_86 : decode cX3_movePermits 86 = .ok (.goto 19, 3) := by decide +kernel
theorem dX3_movePermits_89 : decode cX3_movePermits 89 = .ok (.aload 4, 2) := by decide +kernel
theorem dX3_movePermits_91 : decode cX3_movePermits 91 = .ok (.iload 5, 2) := by decide +kernel
theorem dX3_movePermits_93 : decode cX3_movePermits 93 = .ok (.putfield 85, 3) := by decide +kernel
theorem dX3_movePermits_96 : decode cX3_movePermits 96 = .ok (.aload 4, 2) := by decide +kernel
theorem dX3_movePermits_98 : decode cX3_movePermits 98 = .ok (.iconst 0, 1) := by decide +kernel
theorem dX3_movePermits_99 : decode cX3_movePermits 99 = .ok (.putfield 151, 3) := by decide +kernel
theorem dX3_movePermits_102 : decode cX3_movePermits 102 = .ok (.iinc 2 1, 3) := by decide +kernel
theorem dX3_movePermits_105 : decode cX3_movePermits 105 = .ok (.iinc 3 1, 3) := by decide +kernel
theorem dX3_movePermits_108 : decode cX3_movePermits 108 = .ok (.goto (-104), 3) := by decide +kernel
theorem dX3_movePermits_111 : decode cX3_movePermits 111 = .ok (.iload_n 2, 1) := by decide +kernel
theorem dX3_movePermits_112 : decode cX3_movePermits 112 = .ok (.ireturn, 1) := by decide +kernel
set_option maxRecDepth 20000 in
theorem ggX3_laterDayFor_X3_isOpen : GoodIn wsX3_laterDayFor wsX3_isOpen := goodIn_r _ [13, 14, 15, 16, 17, 18, 52, 53, 54, 55, 56, 57, 58, 59, 60] rfl (by decide +kernel)
set_option maxRecDepth 20000 in
theorem gX3_laterDayFor_X3_isOpen : GoodIn wsX3_laterDayFor (wsV RX3 134 RX3 yX3_isOpen wsX3_isOpen) := goodIn_app (goodIn_of _ (by decide +kernel)) ggX3_laterDayFor_X3_isOpen
set_option maxRecDepth 20000 in
theorem ggX3_laterDayFor_X3_placesFree : GoodIn wsX3_laterDayFor wsX3_placesFree := goodIn_r _ [22, 23, 24, 25, 26, 27, 12, 28, 29, 30, 7, 31, 32, 33, 34, 35, 36, 37, 38, 39, 40, 41, 42, 52, 53, 54, 55, 56, 57, 58, 59, 60, 61, 62, 43, 44, 45, 46, 47, 48, 49, 50, 51] rfl (by decide +kernel)
set_option maxRecDepth 20000 in
theorem gX3_laterDayFor_X3_placesFree : GoodIn wsX3_laterDayFor (wsV RX3 121 RX3 yX3_placesFree wsX3_placesFree) := goodIn_app (goodIn_of _ (by decide +kernel)) ggX3_laterDayFor_X3_placesFree
theorem dX3_laterDayFor_0 : decode cX3_laterDayFor 0 = .ok (.aload_n 1, 1) := by decide +kernel
theorem dX3_laterDayFor_1 : decode cX3_laterDayFor 1 = .ok (.getfield 85, 3) := by decide +kernel
theorem dX3_laterDayFor_4 : decode cX3_laterDayFor 4 = .ok (.aload_n 0, 1) := by decide +kernel
theorem dX3_laterDayFor_5 : decode cX3_laterDayFor 5 = .ok (.getfield 37, 3) := by decide +kernel
theorem dX3_laterDayFor_8 : decode cX3_laterDayFor 8 = .ok (.iconst 4, 1) := by decide +kernel
theorem dX3_laterDayFor_9 : decode cX3_laterDayFor 9 = .ok (.iaload, 1) := by decide +kernel
theorem dX3_laterDayFor_10 : decode cX3_laterDayFor 10 = .ok (.iadd, 1) := by decide +kernel
theorem dX3_laterDayFor_11 : decode cX3_laterDayFor 11 = .ok (.bipush 59, 2) := by decide +kernel
theorem dX3_laterDayFor_13 : decode cX3_laterDayFor 13 = .ok (.invokestatic 155, 3) := by decide +kernel
theorem dX3_laterDayFor_16 : decode cX3_laterDayFor 16 = .ok (.istore_n 2, 1) := by decide +kernel
theorem dX3_laterDayFor_17 : decode cX3_laterDayFor 17 = .ok (.aload_n 1, 1) := by decide +kernel
theorem dX3_laterDayFor_18 : decode cX3_laterDayFor 18 = .ok (.getfield 85, 3) := by decide +kernel
theorem dX3_laterDayFor_21 : decode cX3_laterDayFor 21 = .ok (.iconst 1, 1) := by decide +kernel
theorem dX3_laterDayFor_22 : decode cX3_laterDayFor 22 = .ok (.iadd, 1) := by decide +kernel
theorem dX3_laterDayFor_23 : decode cX3_laterDayFor 23 = .ok (.istore_n 3, 1) := by decide +kernel
theorem dX3_laterDayFor_24 : decode cX3_laterDayFor 24 = .ok (.iload_n 3, 1) := by decide +kernel
theorem dX3_laterDayFor_25 : decode cX3_laterDayFor 25 = .ok (.iload_n 2, 1) := by decide +kernel
theorem dX3_laterDayFor_26 : decode cX3_laterDayFor 26 = .ok (.if_icmp .gt 35, 3) := by decide +kernel
theorem dX3_laterDayFor_29 : decode cX3_laterDayFor 29 = .ok (.aload_n 0, 1) := by decide +kernel
theorem dX3_laterDayFor_30 : decode cX3_laterDayFor 30 = .ok (.iload_n 3, 1) := by decide +kernel
theorem dX3_laterDayFor_31 : decode cX3_laterDayFor 31 = .ok (.invokevirtual 134, 3) := by decide +kernel
theorem dX3_laterDayFor_34 : decode cX3_laterDayFor 34 = .ok (.ifCond .eq 21, 3) := by decide +kernel
theorem dX3_laterDayFor_37 : decode cX3_laterDayFor 37 = .ok (.aload_n 1, 1) := by decide +kernel
theorem dX3_laterDayFor_38 : decode cX3_laterDayFor 38 = .ok (.getfield 91, 3) := by decide +kernel
theorem dX3_laterDayFor_41 : decode cX3_laterDayFor 41 = .ok (.aload_n 0, 1) := by decide +kernel
theorem dX3_laterDayFor_42 : decode cX3_laterDayFor 42 = .ok (.aload_n 1, 1) := by decide +kernel
theorem dX3_laterDayFor_43 : decode cX3_laterDayFor 43 = .ok (.getfield 82, 3) := by decide +kernel
theorem dX3_laterDayFor_46 : decode cX3_laterDayFor 46 = .ok (.iload_n 3, 1) := by decide +kernel
theorem dX3_laterDayFor_47 : decode cX3_laterDayFor 47 = .ok (.invokevirtual 121, 3) := by decide +kernel
theorem dX3_laterDayFor_50 : decode cX3_laterDayFor 50 = .ok (.if_icmp .gt 5, 3) := by decide +kernel
theorem dX3_laterDayFor_53 : decode cX3_laterDayFor 53 = .ok (.iload_n 3, 1) := by decide +kernel
theorem dX3_laterDayFor_54 : decode cX3_laterDayFor 54 = .ok (.ireturn, 1) := by decide +kernel
theorem dX3_laterDayFor_55 : decode cX3_laterDayFor 55 = .ok (.iinc 3 1, 3) := by decide +kernel
theorem dX3_laterDayFor_58 : decode cX3_laterDayFor 58 = .ok (.goto (-34), 3) := by decide +kernel
theorem dX3_laterDayFor_61 : decode cX3_laterDayFor 61 = .ok (.bipush (-6), 2) := by decide +kernel
theorem dX3_laterDayFor_63 : decode cX3_laterDayFor 63 = .ok (.ireturn, 1) := by decide +kernel
set_option maxRecDepth 20000 in
theorem ggX3_judgePermits_X1_strike : GoodIn wsX3_judgePermits wsX1_strike := goodIn_r _ [14, 15, 16, 17, 18, 19, 20, 39, 40, 41] rfl (by decide +kernel)
set_option maxRecDepth 20000 in
theorem gX3_judgePermits_X1_strike : GoodIn wsX3_judgePermits (wsV RX3 160 RX1 yX1_strike wsX1_strike) := goodIn_app (goodIn_of _ (by decide +kernel)) ggX3_judgePermits_X1_strike
theorem dX3_judgePermits_0 : decode cX3_judgePermits 0 = .ok (.iconst 0, 1) := by decide +kernel
theorem dX3_judgePermits_1 : decode cX3_judgePermits 1 = .ok (.istore_n 1, 1) := by decide +kernel
theorem dX3_judgePermits_2 : decode cX3_judgePermits 2 = .ok (.iconst 0, 1) := by decide +kernel
theorem dX3_judgePermits_3 : decode cX3_judgePermits 3 = .ok (.istore_n 2, 1) := by decide +kernel
theorem dX3_judgePermits_4 : decode cX3_judgePermits 4 = .ok (.iload_n 2, 1) := by decide +kernel
theorem dX3_judgePermits_5 : decode cX3_judgePermits 5 = .ok (.aload_n 0, 1) := by decide +kernel
theorem dX3_judgePermits_6 : decode cX3_judgePermits 6 = .ok (.getfield 53, 3) := by decide +kernel
theorem dX3_judgePermits_9 : decode cX3_judgePermits 9 = .ok (.if_icmp .ge 88, 3) := by decide +kernel
theorem dX3_judgePermits_12 : decode cX3_judgePermits 12 = .ok (.aload_n 0, 1) := by decide +kernel
theorem dX3_judgePermits_13 : decode cX3_judgePermits 13 = .ok (.getfield 25, 3) := by decide +kernel
theorem dX3_judgePermits_16 : decode cX3_judgePermits 16 = .ok (.iload_n 2, 1) := by decide +kernel
theorem dX3_judgePermits_17 : decode cX3_judgePermits 17 = .ok (.aaload, 1) := by decide +kernel
theorem dX3_judgePermits_18 : decode cX3_judgePermits 18 = .ok (.astore_n 3, 1) := by decide +kernel
theorem dX3_judgePermits_19 : decode cX3_judgePermits 19 = .ok (.aload_n 3, 1) := by decide +kernel
theorem dX3_judgePermits_20 : decode cX3_judgePermits 20 = .ok (.getfield 105, 3) := by decide +kernel
theorem dX3_judgePermits_23 : decode cX3_judgePermits 23 = .ok (.iconst 1, 1) := by decide +kernel
theorem dX3_judgePermits_24 : decode cX3_judgePermits 24 = .ok (.if_icmp .ne 67, 3) := by decide +kernel
theorem dX3_judgePermits_27 : decode cX3_judgePermits 27 = .ok (.aload_n 3, 1) := by decide +kernel
theorem dX3_judgePermits_28 : decode cX3_judgePermits 28 = .ok (.getfield 85, 3) := by decide +kernel
theorem dX3_judgePermits_31 : decode cX3_judgePermits 31 = .ok (.aload_n 0, 1) := by decide +kernel
theorem dX3_judgePermits_32 : decode cX3_judgePermits 32 = .ok (.getfield 43, 3) := by decide +kernel
theorem dX3_judgePermits_35 : decode cX3_judgePermits 35 = .ok (.if_icmp .ne 56, 3) := by decide +kernel
theorem dX3_judgePermits_38 : decode cX3_judgePermits 38 = .ok (.aload_n 3, 1) := by decide +kernel
theorem dX3_judgePermits_39 : decode cX3_judgePermits 39 = .ok (.getfield 151, 3) := by decide +kernel
theorem dX3_judgePermits_42 : decode cX3_judgePermits 42 = .ok (.ifCond .eq 11, 3) := by decide +kernel
theorem dX3_judgePermits_45 : decode cX3_judgePermits 45 = .ok (.aload_n 3, 1) := by decide +kernel
theorem dX3_judgePermits_46 : decode cX3_judgePermits 46 = .ok (.iconst 5, 1) := by decide +kernel
theorem dX3_judgePermits_47 : decode cX3_judgePermits 47 = .ok (.putfield 105, 3) := by decide +kernel
theorem dX3_judgePermits_50 : decode cX3_judgePermits 50 = .ok (.goto 41, 3) := by decide +kernel
theorem dX3_judgePermits_53 : decode cX3_judgePermits 53 = .ok (.aload_n 3, 1) := by decide +kernel
theorem dX3_judgePermits_54 : decode cX3_judgePermits 54 = .ok (.bipush 6, 2) := by decide +kernel
theorem dX3_judgePermits_56 : decode cX3_judgePermits 56 = .ok (.putfield 105, 3) := by decide +kernel
theorem dX3_judgePermits_59 : decode cX3_judgePermits 59 = .ok (.aload_n 0, 1) := by decide +kernel
theorem dX3_judgePermits_60 : decode cX3_judgePermits 60 = .ok (.getfield 19, 3) := by decide +kernel
theorem dX3_judgePermits_63 : decode cX3_judgePermits 63 = .ok (.aload_n 3, 1) := by decide +kernel
theorem dX3_judgePermits_64 : decode cX3_judgePermits 64 = .ok (.getfield 79, 3) := by decide +kernel
theorem dX3_judgePermits_67 : decode cX3_judgePermits 67 = .ok (.aaload, 1) := by decide +kernel
theorem dX3_judgePermits_68 : decode cX3_judgePermits 68 = .ok (.aload_n 0, 1) := by decide +kernel
theorem dX3_judgePermits_69 : decode cX3_judgePermits 69 = .ok (.getfield 37, 3) := by decide +kernel
theorem dX3_judgePermits_72 : decode cX3_judgePermits 72 = .ok (.iconst 2, 1) := by decide +kernel
theorem dX3_judgePermits_73 : decode cX3_judgePermits 73 = .ok (.iaload, 1) := by decide +kernel
theorem dX3_judgePermits_74 : decode cX3_judgePermits 74 = .ok (.aload_n 0, 1) := by decide +kernel
theorem dX3_judgePermits_75 : decode cX3_judgePermits 75 = .ok (.getfield 43, 3) := by decide +kernel
theorem dX3_judgePermits_78 : decode cX3_judgePermits 78 = .ok (.aload_n 0, 1) := by decide +kernel
theorem dX3_judgePermits_79 : decode cX3_judgePermits 79 = .ok (.getfield 37, 3) := by decide +kernel
theorem dX3_judgePermits_82 : decode cX3_judgePermits 82 = .ok (.iconst 3, 1) := by decide +kernel
theorem dX3_judgePermits_83 : decode cX3_judgePermits 83 = .ok (.iaload, 1) := by decide +kernel
theorem dX3_judgePermits_84 : decode cX3_judgePermits 84 = .ok (.iadd, 1) := by decide +kernel
theorem dX3_judgePermits_85 : decode cX3_judgePermits 85 = .ok (.invokevirtual 160, 3) := by decide +kernel
theorem dX3_judgePermits_88 : decode cX3_judgePermits 88 = .ok (.iinc 1 1, 3) := by decide +kernel
theorem dX3_judgePermits_91 : decode cX3_judgePermits 91 = .ok (.iinc 2 1, 3) := by decide +kernel
theorem dX3_judgePermits_94 : decode cX3_judgePermits 94 = .ok (.goto (-90), 3) := by decide +kernel
theorem dX3_judgePermits_97 : decode cX3_judgePermits 97 = .ok (.iload_n 1, 1) := by decide +kernel
theorem dX3_judgePermits_98 : decode cX3_judgePermits 98 = .ok (.ireturn, 1) := by decide +kernel
theorem dX4_init_0 : decode cX4_init 0 = .ok (.aload_n 0, 1) := by decide +kernel
theorem dX4_init_1 : decode cX4_init 1 = .ok (.invokespecial 3, 3) := by decide +kernel
theorem dX4_init_4 : decode cX4_init 4 = .ok (.aload_n 0, 1) := by decide +kernel
theorem dX4_init_5 : decode cX4_init 5 = .ok (.bipush 60, 2) := by decide +kernel
theorem dX4_init_7 : decode cX4_init 7 = .ok (.newarray .char, 2) := by decide +kernel
theorem dX4_init_9 : decode cX4_init 9 = .ok (.putfield 9, 3) := by decide +kernel
theorem dX4_init_12 : decode cX4_init 12 = .ok (.return_, 1) := by decide +kernel
theorem dX4_sizeOf_0 : decode cX4_sizeOf 0 = .ok (.lload_n 0, 1) := by decide +kernel
theorem dX4_sizeOf_1 : decode cX4_sizeOf 1 = .ok (.lstore_n 2, 1) := by decide +kernel
theorem dX4_sizeOf_2 : decode cX4_sizeOf 2 = .ok (.iconst 0, 1) := by decide +kernel
theorem dX4_sizeOf_3 : decode cX4_sizeOf 3 = .ok (.istore 4, 2) := by decide +kernel
theorem dX4_sizeOf_5 : decode cX4_sizeOf 5 = .ok (.iload 4, 2) := by decide +kernel
theorem dX4_sizeOf_7 : decode cX4_sizeOf 7 = .ok (.bipush 8, 2) := by decide +kernel
theorem dX4_sizeOf_9 : decode cX4_sizeOf 9 = .ok (.if_icmp .ge 50, 3) := by decide +kernel
theorem dX4_sizeOf_12 : decode cX4_sizeOf 12 = .ok (.lload_n 2, 1) := by decide +kernel
theorem dX4_sizeOf_13 : decode cX4_sizeOf 13 = .ok (.lconst 0, 1) := by decide +kernel
theorem dX4_sizeOf_14 : decode cX4_sizeOf 14 = .ok (.lcmp, 1) := by decide +kernel
theorem dX4_sizeOf_15 : decode cX4_sizeOf 15 = .ok (.ifCond .ne 6, 3) := by decide +kernel
theorem dX4_sizeOf_18 : decode cX4_sizeOf 18 = .ok (.iload 4, 2) := by decide +kernel
theorem dX4_sizeOf_20 : decode cX4_sizeOf 20 = .ok (.ireturn, 1) := by decide +kernel
theorem dX4_sizeOf_21 : decode cX4_sizeOf 21 = .ok (.lload_n 2, 1) := by decide +kernel
theorem dX4_sizeOf_22 : decode cX4_sizeOf 22 = .ok (.ldc2_w 15, 3) := by decide +kernel
theorem dX4_sizeOf_25 : decode cX4_sizeOf 25 = .ok (.land, 1) := by decide +kernel
theorem dX4_sizeOf_26 : decode cX4_sizeOf 26 = .ok (.lstore 5, 2) := by decide +kernel
theorem dX4_sizeOf_28 : decode cX4_sizeOf 28 = .ok (.lload 5, 2) := by decide +kernel
theorem dX4_sizeOf_30 : decode cX4_sizeOf 30 = .ok (.ldc2_w 17, 3) := by decide +kernel
theorem dX4_sizeOf_33 : decode cX4_sizeOf 33 = .ok (.lcmp, 1) := by decide +kernel
theorem dX4_sizeOf_34 : decode cX4_sizeOf 34 = .ok (.ifCond .lt 12, 3) := by decide +kernel
theorem dX4_sizeOf_37 : decode cX4_sizeOf 37 = .ok (.lload 5, 2) := by decide +kernel
theorem dX4_sizeOf_39 : decode cX4_sizeOf 39 = .ok (.ldc2_w 19, 3) := by decide +kernel
theorem dX4_sizeOf_42 : decode cX4_sizeOf 42 = .ok (.lcmp, 1) := by decide +kernel
theorem dX4_sizeOf_43 : decode cX4_sizeOf 43 = .ok (.ifCond .le 5, 3) := by decide +kernel
theorem dX4_sizeOf_46 : decode cX4_sizeOf 46 = .ok (.iconst 0, 1) := by decide +kernel
theorem dX4_sizeOf_47 : decode cX4_sizeOf 47 = .ok (.ireturn, 1) := by decide +kernel
theorem dX4_sizeOf_48 : decode cX4_sizeOf 48 = .ok (.lload_n 2, 1) := by decide +kernel
theorem dX4_sizeOf_49 : decode cX4_sizeOf 49 = .ok (.bipush 8, 2) := by decide +kernel
theorem dX4_sizeOf_51 : decode cX4_sizeOf 51 = .ok (.lushr, 1) := by decide +kernel
theorem dX4_sizeOf_52 : decode cX4_sizeOf 52 = .ok (.lstore_n 2, 1) := by decide +kernel
theorem dX4_sizeOf_53 : decode cX4_sizeOf 53 = .ok (.iinc 4 1, 3) := by decide +kernel
theorem dX4_sizeOf_56 : decode cX4_sizeOf 56 = .ok (.goto (-51), 3) := by decide +kernel
theorem dX4_sizeOf_59 : decode cX4_sizeOf 59 = .ok (.bipush 8, 2) := by decide +kernel
theorem dX4_sizeOf_61 : decode cX4_sizeOf 61 = .ok (.ireturn, 1) := by decide +kernel
theorem dX4_append_0 : decode cX4_append 0 = .ok (.iload_n 3, 1) := by decide +kernel
theorem dX4_append_1 : decode cX4_append 1 = .ok (.iconst 1, 1) := by decide +kernel
theorem dX4_append_2 : decode cX4_append 2 = .ok (.isub, 1) := by decide +kernel
theorem dX4_append_3 : decode cX4_append 3 = .ok (.istore 4, 2) := by decide +kernel
theorem dX4_append_5 : decode cX4_append 5 = .ok (.iload 4, 2) := by decide +kernel
theorem dX4_append_7 : decode cX4_append 7 = .ok (.ifCond .lt 41, 3) := by decide +kernel
theorem dX4_append_10 : decode cX4_append 10 = .ok (.aload_n 0, 1) := by decide +kernel
theorem dX4_append_11 : decode cX4_append 11 = .ok (.getfield 9, 3) := by decide +kernel
theorem dX4_append_14 : decode cX4_append 14 = .ok (.aload_n 0, 1) := by decide +kernel
theorem dX4_append_15 : decode cX4_append 15 = .ok (.getfield 21, 3) := by decide +kernel
theorem dX4_append_18 : decode cX4_append 18 = .ok (.lload_n 1, 1) := by decide +kernel
theorem dX4_append_19 : decode cX4_append 19 = .ok (.bipush 8, 2) := by decide +kernel
theorem dX4_append_21 : decode cX4_append 21 = .ok (.iload 4, 2) := by decide +kernel
theorem dX4_append_23 : decode cX4_append 23 = .ok (.imul, 1) := by decide +kernel
theorem dX4_append_24 : decode cX4_append 24 = .ok (.lushr, 1) := by decide +kernel
theorem dX4_append_25 : decode cX4_append 25 = .ok (.ldc2_w 15, 3) := by decide +kernel
theorem dX4_append_28 : decode cX4_append 28 = .ok (.land, 1) := by decide +kernel
theorem dX4_append_29 : decode cX4_append 29 = .ok (.l2i, 1) := by decide +kernel
theorem dX4_append_30 : decode cX4_append 30 = .ok (.i2c, 1) := by decide +kernel
theorem dX4_append_31 : decode cX4_append 31 = .ok (.castore, 1) := by decide +kernel
theorem dX4_append_32 : decode cX4_append 32 = .ok (.aload_n 0, 1) := by decide +kernel
theorem dX4_append_33 : decode cX4_append 33 = .ok (.dup, 1) := by decide +kernel
theorem dX4_append_34 : decode cX4_append 34 = .ok (.getfield 21, 3) := by decide +kernel
theorem dX4_append_37 : decode cX4_append 37 = .ok (.iconst 1, 1) := by decide +kernel
theorem dX4_append_38 : decode cX4_append 38 = .ok (.iadd, 1) := by decide +kernel
theorem dX4_append_39 : decode cX4_append 39 = .ok (.putfield 21, 3) := by decide +kernel
theorem dX4_append_42 : decode cX4_append 42 = .ok (.iinc 4 (-1), 3) := by decide +kernel
theorem dX4_append_45 : decode cX4_append 45 = .ok (.goto (-40), 3) := by decide +kernel
theorem dX4_append_48 : decode cX4_append 48 = .ok (.return_, 1) := by decide +kernel
set_option maxRecDepth 20000 in
theorem ggX4_findFault_X4_readApplication : GoodIn wsX4_findFault wsX4_readApplication := goodIn_r _ [7, 8, 9, 10, 11, 12, 13, 14, 6, 15, 1, 2, 16, 17, 18, 19, 20, 21, 22, 23, 24, 25, 26, 27, 28, 29, 30, 31] rfl (by decide +kernel)
set_option maxRecDepth 20000 in
theorem gX4_findFault_X4_readApplication : GoodIn wsX4_findFault (wsV RX4 28 RX4 yX4_readApplication wsX4_readApplication) := goodIn_app (goodIn_of _ (by decide +kernel)) ggX4_findFault_X4_readApplication
set_option maxRecDepth 20000 in
theorem ggX4_findFault_X4_readSign : GoodIn wsX4_findFault wsX4_readSign := goodIn_r _ [15, 1, 2, 16, 25, 26, 27, 28, 29, 30, 31] rfl (by decide +kernel)
set_option maxRecDepth 20000 in
theorem gX4_findFault_X4_readSign : GoodIn wsX4_findFault (wsV RX4 32 RX4 yX4_readSign wsX4_readSign) := goodIn_app (goodIn_of _ (by decide +kernel)) ggX4_findFault_X4_readSign
theorem dX4_findFault_0 : decode cX4_findFault 0 = .ok (.aload_n 0, 1) := by decide +kernel
theorem dX4_findFault_1 : decode cX4_findFault 1 = .ok (.iconst 0, 1) := by decide +kernel
theorem dX4_findFault_2 : decode cX4_findFault 2 = .ok (.putfield 25, 3) := by decide +kernel
theorem dX4_findFault_5 : decode cX4_findFault 5 = .ok (.iconst 0, 1) := by decide +kernel
theorem dX4_findFault_6 : decode cX4_findFault 6 = .ok (.istore_n 1, 1) := by decide +kernel
theorem dX4_findFault_7 : decode cX4_findFault 7 = .ok (.iload_n 1, 1) := by decide +kernel
theorem dX4_findFault_8 : decode cX4_findFault 8 = .ok (.aload_n 0, 1) := by decide +kernel
theorem dX4_findFault_9 : decode cX4_findFault 9 = .ok (.getfield 21, 3) := by decide +kernel
theorem dX4_findFault_12 : decode cX4_findFault 12 = .ok (.if_icmp .gt 49, 3) := by decide +kernel
theorem dX4_findFault_15 : decode cX4_findFault 15 = .ok (.aload_n 0, 1) := by decide +kernel
theorem dX4_findFault_16 : decode cX4_findFault 16 = .ok (.invokevirtual 28, 3) := by decide +kernel
theorem dX4_findFault_19 : decode cX4_findFault 19 = .ok (.ifCond .ne 8, 3) := by decide +kernel
theorem dX4_findFault_22 : decode cX4_findFault 22 = .ok (.aload_n 0, 1) := by decide +kernel
theorem dX4_findFault_23 : decode cX4_findFault 23 = .ok (.getfield 25, 3) := by decide +kernel
theorem dX4_findFault_26 : decode cX4_findFault 26 = .ok (.ireturn, 1) := by decide +kernel
theorem dX4_findFault_27 : decode cX4_findFault 27 = .ok (.aload_n 0, 1) := by decide +kernel
theorem dX4_findFault_28 : decode cX4_findFault 28 = .ok (.getfield 25, 3) := by decide +kernel
theorem dX4_findFault_31 : decode cX4_findFault 31 = .ok (.aload_n 0, 1) := by decide +kernel
theorem dX4_findFault_32 : decode cX4_findFault 32 = .ok (.getfield 21, 3) := by decide +kernel
theorem dX4_findFault_35 : decode cX4_findFault 35 = .ok (.if_icmp .ne 6, 3) := by decide +kernel
theorem dX4_findFault_38 : decode cX4_findFault 38 = .ok (.bipush (-6), 2) := by decide +kernel
theorem dX4_findFault_40 : decode cX4_findFault 40 = .ok (.ireturn, 1) := by decide +kernel
theorem dX4_findFault_41 : decode cX4_findFault 41 = .ok (.aload_n 0, 1) := by decide +kernel
theorem dX4_findFault_42 : decode cX4_findFault 42 = .ok (.bipush 59, 2) := by decide +kernel
theorem dX4_findFault_44 : decode cX4_findFault 44 = .ok (.invokevirtual 32, 3) := by decide +kernel
theorem dX4_findFault_47 : decode cX4_findFault 47 = .ok (.ifCond .ne 8, 3) := by decide +kernel
theorem dX4_findFault_50 : decode cX4_findFault 50 = .ok (.aload_n 0, 1) := by decide +kernel
theorem dX4_findFault_51 : decode cX4_findFault 51 = .ok (.getfield 25, 3) := by decide +kernel
theorem dX4_findFault_54 : decode cX4_findFault 54 = .ok (.ireturn, 1) := by decide +kernel
theorem dX4_findFault_55 : decode cX4_findFault 55 = .ok (.iinc 1 1, 3) := by decide +kernel
theorem dX4_findFault_58 : decode cX4_findFault 58 = .ok (.goto (-51), 3) := by decide +kernel
theorem dX4_findFault_61 : decode cX4_findFault 61 = .ok (.aload_n 0, 1) := by decide +kernel
theorem dX4_findFault_62 : decode cX4_findFault 62 = .ok (.getfield 25, 3) := by decide +kernel
theorem dX4_findFault_65 : decode cX4_findFault 65 = .ok (.ireturn, 1) := by decide +kernel
set_option maxRecDepth 20000 in
theorem ggX4_readApplication_X4_readSign : GoodIn wsX4_readApplication wsX4_readSign := goodIn_r _ [9, 10, 11, 12, 21, 22, 23, 24, 25, 26, 27] rfl (by decide +kernel)
set_option maxRecDepth 20000 in
theorem gX4_readApplication_X4_readSign : GoodIn wsX4_readApplication (wsV RX4 32 RX4 yX4_readSign wsX4_readSign) := goodIn_app (goodIn_of _ (by decide +kernel)) ggX4_readApplication_X4_readSign
set_option maxRecDepth 20000 in
theorem ggX4_readApplication_X4_readNumber : GoodIn wsX4_readApplication wsX4_readNumber := goodIn_r _ [16, 10, 11, 17, 18, 19, 8, 20, 12, 21, 22, 23, 24, 25, 26, 27] rfl (by decide +kernel)
set_option maxRecDepth 20000 in
theorem gX4_readApplication_X4_readNumber : GoodIn wsX4_readApplication (wsV RX4 36 RX4 yX4_readNumber wsX4_readNumber) := goodIn_app (goodIn_of _ (by decide +kernel)) ggX4_readApplication_X4_readNumber
theorem dX4_readApplication_0 : decode cX4_readApplication 0 = .ok (.aload_n 0, 1) := by decide +kernel
theorem dX4_readApplication_1 : decode cX4_readApplication 1 = .ok (.bipush 99, 2) := by decide +kernel
theorem dX4_readApplication_3 : decode cX4_readApplication 3 = .ok (.invokevirtual 32, 3) := by decide +kernel
theorem dX4_readApplication_6 : decode cX4_readApplication 6 = .ok (.ifCond .ne 5, 3) := by decide +kernel
theorem dX4_readApplication_9 : decode cX4_readApplication 9 = .ok (.iconst 0, 1) := by decide +kernel
theorem dX4_readApplication_10 : decode cX4_readApplication 10 = .ok (.ireturn, 1) := by decide +kernel
theorem dX4_readApplication_11 : decode cX4_readApplication 11 = .ok (.aload_n 0, 1) := by decide +kernel
theorem dX4_readApplication_12 : decode cX4_readApplication 12 = .ok (.aload_n 0, 1) := by decide +kernel
theorem dX4_readApplication_13 : decode cX4_readApplication 13 = .ok (.iconst 0, 1) := by decide +kernel
theorem dX4_readApplication_14 : decode cX4_readApplication 14 = .ok (.bipush 11, 2) := by decide +kernel
theorem dX4_readApplication_16 : decode cX4_readApplication 16 = .ok (.invokevirtual 36, 3) := by decide +kernel
theorem dX4_readApplication_19 : decode cX4_readApplication 19 = .ok (.putfield 40, 3) := by decide +kernel
theorem dX4_readApplication_22 : decode cX4_readApplication 22 = .ok (.aload_n 0, 1) := by decide +kernel
theorem dX4_readApplication_23 : decode cX4_readApplication 23 = .ok (.getfield 40, 3) := by decide +kernel
theorem dX4_readApplication_26 : decode cX4_readApplication 26 = .ok (.iconst (-1), 1) := by decide +kernel
theorem dX4_readApplication_27 : decode cX4_readApplication 27 = .ok (.if_icmp .eq 12, 3) := by decide +kernel
theorem dX4_readApplication_30 : decode cX4_readApplication 30 = .ok (.aload_n 0, 1) := by decide +kernel
theorem dX4_readApplication_31 : decode cX4_readApplication 31 = .ok (.bipush 114, 2) := by decide +kernel
theorem dX4_readApplication_33 : decode cX4_readApplication 33 = .ok (.invokevirtual 32, 3) := by decide +kernel
theorem dX4_readApplication_36 : decode cX4_readApplication 36 = .ok (.ifCond .ne 5, 3) := by decide +kernel
theorem dX4_readApplication_39 : decode cX4_readApplication 39 = .ok (.iconst 0, 1) := by decide +kernel
theorem dX4_readApplication_40 : decode cX4_readApplication 40 = .ok (.ireturn, 1) := by decide +kernel
theorem dX4_readApplication_41 : decode cX4_readApplication 41 = .ok (.aload_n 0, 1) := by decide +kernel
theorem dX4_readApplication_42 : decode cX4_readApplication 42 = .ok (.aload_n 0, 1) := by decide +kernel
theorem dX4_readApplication_43 : decode cX4_readApplication 43 = .ok (.iconst 0, 1) := by decide +kernel
theorem dX4_readApplication_44 : decode cX4_readApplication 44 = .ok (.iconst 5, 1) := by decide +kernel
theorem dX4_readApplication_45 : decode cX4_readApplication 45 = .ok (.invokevirtual 36, 3) := by decide +kernel
theorem dX4_readApplication_48 : decode cX4_readApplication 48 = .ok (.putfield 43, 3) := by decide +kernel
theorem dX4_readApplication_51 : decode cX4_readApplication 51 = .ok (.aload_n 0, 1) := by decide +kernel
theorem dX4_readApplication_52 : decode cX4_readApplication 52 = .ok (.getfield 43, 3) := by decide +kernel
theorem dX4_readApplication_55 : decode cX4_readApplication 55 = .ok (.iconst (-1), 1) := by decide +kernel
theorem dX4_readApplication_56 : decode cX4_readApplication 56 = .ok (.if_icmp .eq 12, 3) := by decide +kernel
theorem dX4_readApplication_59 : decode cX4_readApplication 59 = .ok (.aload_n 0, 1) := by decide +kernel
theorem dX4_readApplication_60 : decode cX4_readApplication 60 = .ok (.bipush 100, 2) := by decide +kernel
theorem dX4_readApplication_62 : decode cX4_readApplication 62 = .ok (.invokevirtual 32, 3) := by decide +kernel
theorem dX4_readApplication_65 : decode cX4_readApplication 65 = .ok (.ifCond .ne 5, 3) := by decide +kernel
theorem dX4_readApplication_68 : decode cX4_readApplication 68 = .ok (.iconst 0, 1) := by decide +kernel
theorem dX4_readApplication_69 : decode cX4_readApplication 69 = .ok (.ireturn, 1) := by decide +kernel
theorem dX4_readApplication_70 : decode cX4_readApplication 70 = .ok (.aload_n 0, 1) := by decide +kernel
theorem dX4_readApplication_71 : decode cX4_readApplication 71 = .ok (.aload_n 0, 1) := by decide +kernel
theorem dX4_readApplication_72 : decode cX4_readApplication 72 = .ok (.iconst 0, 1) := by decide +kernel
theorem dX4_readApplication_73 : decode cX4_readApplication 73 = .ok (.bipush 59, 2) := by decide +kernel
theorem dX4_readApplication_75 : decode cX4_readApplication 75 = .ok (.invokevirtual 36, 3) := by decide +kernel
theorem dX4_readApplication_78 : decode cX4_readApplication 78 = .ok (.putfield 46, 3) := by decide +kernel
theorem dX4_readApplication_81 : decode cX4_readApplication 81 = .ok (.aload_n 0, 1) := by decide +kernel
theorem dX4_readApplication_82 : decode cX4_readApplication 82 = .ok (.getfield 46, 3) := by decide +kernel
theorem dX4_readApplication_85 : decode cX4_readApplication 85 = .ok (.iconst (-1), 1) := by decide +kernel
theorem dX4_readApplication_86 : decode cX4_readApplication 86 = .ok (.if_icmp .ne 5, 3) := by decide +kernel
theorem dX4_readApplication_89 : decode cX4_readApplication 89 = .ok (.iconst 0, 1) := by decide +kernel
theorem dX4_readApplication_90 : decode cX4_readApplication 90 = .ok (.ireturn, 1) := by decide +kernel
theorem dX4_readApplication_91 : decode cX4_readApplication 91 = .ok (.aload_n 0, 1) := by decide +kernel
theorem dX4_readApplication_92 : decode cX4_readApplication 92 = .ok (.aload_n 0, 1) := by decide +kernel
theorem dX4_readApplication_93 : decode cX4_readApplication 93 = .ok (.bipush 120, 2) := by decide +kernel
theorem dX4_readApplication_95 : decode cX4_readApplication 95 = .ok (.invokevirtual 32, 3) := by decide +kernel
theorem dX4_readApplication_98 : decode cX4_readApplication 98 = .ok (.ifCond .eq 12, 3) := by decide +kernel
theorem dX4_readApplication_101 : decode cX4_readApplication 101 = .ok (.aload_n 0, 1) := by decide +kernel
theorem dX4_readApplication_102 : decode cX4_readApplication 102 = .ok (.iconst 1, 1) := by decide +kernel
theorem dX4_readApplication_103 : decode cX4_readApplication 103 = .ok (.iconst 4, 1) := by decide +kernel
theorem dX4_readApplication_104 : decode cX4_readApplication 104 = .ok (.invokevirtual 36, 3) := by decide +kernel
theorem dX4_readApplication_107 : decode cX4_readApplication 107 = .ok (.goto 4, 3) := by decide +kernel
theorem dX4_readApplication_110 : decode cX4_readApplication 110 = .ok (.iconst 1, 1) := by decide +kernel
theorem dX4_readApplication_111 : decode cX4_readApplication 111 = .ok (.putfield 49, 3) := by decide +kernel
theorem dX4_readApplication_114 : decode cX4_readApplication 114 = .ok (.aload_n 0, 1) := by decide +kernel
theorem dX4_readApplication_115 : decode cX4_readApplication 115 = .ok (.getfield 49, 3) := by decide +kernel
theorem dX4_readApplication_118 : decode cX4_readApplication 118 = .ok (.iconst (-1), 1) := by decide +kernel
theorem dX4_readApplication_119 : decode cX4_readApplication 119 = .ok (.if_icmp .eq 7, 3) := by decide +kernel
theorem dX4_readApplication_122 : decode cX4_readApplication 122 = .ok (.iconst 1, 1) := by decide +kernel
theorem dX4_readApplication_123 : decode cX4_readApplication 123 = .ok (.goto 4, 3) := by decide +kernel
theorem dX4_readApplication_126 : decode cX4_readApplication 126 = .ok (.iconst 0, 1) := by decide +kernel
theorem dX4_readApplication_127 : decode cX4_readApplication 127 = .ok (.ireturn, 1) := by decide +kernel
theorem dX4_readSign_0 : decode cX4_readSign 0 = .ok (.aload_n 0, 1) := by decide +kernel
theorem dX4_readSign_1 : decode cX4_readSign 1 = .ok (.getfield 25, 3) := by decide +kernel
theorem dX4_readSign_4 : decode cX4_readSign 4 = .ok (.aload_n 0, 1) := by decide +kernel
theorem dX4_readSign_5 : decode cX4_readSign 5 = .ok (.getfield 21, 3) := by decide +kernel
theorem dX4_readSign_8 : decode cX4_readSign 8 = .ok (.if_icmp .ge 16, 3) := by decide +kernel
theorem dX4_readSign_11 : decode cX4_readSign 11 = .ok (.aload_n 0, 1) := by decide +kernel
theorem dX4_readSign_12 : decode cX4_readSign 12 = .ok (.getfield 9, 3) := by decide +kernel
theorem dX4_readSign_15 : decode cX4_readSign 15 = .ok (.aload_n 0, 1) := by decide +kernel
theorem dX4_readSign_16 : decode cX4_readSign 16 = .ok (.getfield 25, 3) := by decide +kernel
theorem dX4_readSign_19 : decode cX4_readSign 19 = .ok (.caload, 1) := by decide +kernel
theorem dX4_readSign_20 : decode cX4_readSign 20 = .ok (.iload_n 1, 1) := by decide +kernel
theorem dX4_readSign_21 : decode cX4_readSign 21 = .ok (.if_icmp .eq 5, 3) := by decide +kernel
theorem dX4_readSign_24 : decode cX4_readSign 24 = .ok (.iconst 0, 1) := by decide +kernel
theorem dX4_readSign_25 : decode cX4_readSign 25 = .ok (.ireturn, 1) := by decide +kernel
theorem dX4_readSign_26 : decode cX4_readSign 26 = .ok (.aload_n 0, 1) := by decide +kernel
theorem dX4_readSign_27 : decode cX4_readSign 27 = .ok (.dup, 1) := by decide +kernel
theorem dX4_readSign_28 : decode cX4_readSign 28 = .ok (.getfield 25, 3) := by decide +kernel
theorem dX4_readSign_31 : decode cX4_readSign 31 = .ok (.iconst 1, 1) := by decide +kernel
theorem dX4_readSign_32 : decode cX4_readSign 32 = .ok (.iadd, 1) := by decide +kernel
theorem dX4_readSign_33 : decode cX4_readSign 33 = .ok (.putfield 25, 3) := by decide +kernel
theorem dX4_readSign_36 : decode cX4_readSign 36 = .ok (.iconst 1, 1) := by decide +kernel
theorem dX4_readSign_37 : decode cX4_readSign 37 = .ok (.ireturn, 1) := by decide +kernel
set_option maxRecDepth 20000 in
theorem ggX4_readNumber_X4_digitHere : GoodIn wsX4_readNumber wsX4_digitHere := goodIn_r _ [7, 1, 2, 8, 9, 10, 11, 12, 13, 14, 15] rfl (by decide +kernel)
set_option maxRecDepth 20000 in
theorem gX4_readNumber_X4_digitHere : GoodIn wsX4_readNumber (wsV RX4 52 RX4 yX4_digitHere wsX4_digitHere) := goodIn_app (goodIn_of _ (by decide +kernel)) ggX4_readNumber_X4_digitHere
theorem dX4_readNumber_0 : decode cX4_readNumber 0 = .ok (.aload_n 0, 1) := by decide +kernel
theorem dX4_readNumber_1 : decode cX4_readNumber 1 = .ok (.invokevirtual 52, 3) := by decide +kernel
theorem dX4_readNumber_4 : decode cX4_readNumber 4 = .ok (.istore_n 3, 1) := by decide +kernel
theorem dX4_readNumber_5 : decode cX4_readNumber 5 = .ok (.iload_n 3, 1) := by decide +kernel
theorem dX4_readNumber_6 : decode cX4_readNumber 6 = .ok (.iconst (-1), 1) := by decide +kernel
theorem dX4_readNumber_7 : decode cX4_readNumber 7 = .ok (.if_icmp .eq 13, 3) := by decide +kernel
theorem dX4_readNumber_10 : decode cX4_readNumber 10 = .ok (.iload_n 3, 1) := by decide +kernel
theorem dX4_readNumber_11 : decode cX4_readNumber 11 = .ok (.iload_n 1, 1) := by decide +kernel
theorem dX4_readNumber_12 : decode cX4_readNumber 12 = .ok (.if_icmp .lt 8, 3) := by decide +kernel
theorem dX4_readNumber_15 : decode cX4_readNumber 15 = .ok (.iload_n 3, 1) := by decide +kernel
theorem dX4_readNumber_16 : decode cX4_readNumber 16 = .ok (.iload_n 2, 1) := by decide +kernel
theorem dX4_readNumber_17 : decode cX4_readNumber 17 = .ok (.if_icmp .le 5, 3) := by decide +kernel
theorem dX4_readNumber_20 : decode cX4_readNumber 20 = .ok (.iconst (-1), 1) := by decide +kernel
theorem dX4_readNumber_21 : decode cX4_readNumber 21 = .ok (.ireturn, 1) := by decide +kernel
theorem dX4_readNumber_22 : decode cX4_readNumber 22 = .ok (.aload_n 0, 1) := by decide +kernel
theorem dX4_readNumber_23 : decode cX4_readNumber 23 = .ok (.dup, 1) := by decide +kernel
theorem dX4_readNumber_24 : decode cX4_readNumber 24 = .ok (.getfield 25, 3) := by decide +kernel
theorem dX4_readNumber_27 : decode cX4_readNumber 27 = .ok (.iconst 1, 1) := by decide +kernel
theorem dX4_readNumber_28 : decode cX4_readNumber 28 = .ok (.iadd, 1) := by decide +kernel
theorem dX4_readNumber_29 : decode cX4_readNumber 29 = .ok (.putfield 25, 3) := by decide +kernel
theorem dX4_readNumber_32 : decode cX4_readNumber 32 = .ok (.aload_n 0, 1) := by decide +kernel
theorem dX4_readNumber_33 : decode cX4_readNumber 33 = .ok (.getfield 25, 3) := by decide +kernel
theorem dX4_readNumber_36 : decode cX4_readNumber 36 = .ok (.istore 4, 2) := by decide +kernel
theorem dX4_readNumber_38 : decode cX4_readNumber 38 = .ok (.iload_n 3, 1) := by decide +kernel
theorem dX4_readNumber_39 : decode cX4_readNumber 39 = .ok (.ifCond .le 63, 3) := by decide +kernel
theorem dX4_readNumber_42 : decode cX4_readNumber 42 = .ok (.iload 4, 2) := by decide +kernel
theorem dX4_readNumber_44 : decode cX4_readNumber 44 = .ok (.aload_n 0, 1) := by decide +kernel
theorem dX4_readNumber_45 : decode cX4_readNumber 45 = .ok (.getfield 21, 3) := by decide +kernel
theorem dX4_readNumber_48 : decode cX4_readNumber 48 = .ok (.if_icmp .ge 54, 3) := by decide +kernel
theorem dX4_readNumber_51 : decode cX4_readNumber 51 = .ok (.aload_n 0, 1) := by decide +kernel
theorem dX4_readNumber_52 : decode cX4_readNumber 52 = .ok (.invokevirtual 52, 3) := by decide +kernel
theorem dX4_readNumber_55 : decode cX4_readNumber 55 = .ok (.istore 5, 2) := by decide +kernel
theorem dX4_readNumber_57 : decode cX4_readNumber 57 = .ok (.iload 5, 2) := by decide +kernel
theorem dX4_readNumber_59 : decode cX4_readNumber 59 = .ok (.iconst (-1), 1) := by decide +kernel
theorem dX4_readNumber_60 : decode cX4_readNumber 60 = .ok (.if_icmp .ne 5, 3) := by decide +kernel
theorem dX4_readNumber_63 : decode cX4_readNumber 63 = .ok (.iload_n 3, 1) := by decide +kernel
theorem dX4_readNumber_64 : decode cX4_readNumber 64 = .ok (.ireturn, 1) := by decide +kernel
theorem dX4_readNumber_65 : decode cX4_readNumber 65 = .ok (.bipush 10, 2) := by decide +kernel
theorem dX4_readNumber_67 : decode cX4_readNumber 67 = .ok (.iload_n 3, 1) := by decide +kernel
theorem dX4_readNumber_68 : decode cX4_readNumber 68 = .ok (.imul, 1) := by decide +kernel
theorem dX4_readNumber_69 : decode cX4_readNumber 69 = .ok (.iload 5, 2) := by decide +kernel
theorem dX4_readNumber_71 : decode cX4_readNumber 71 = .ok (.iadd, 1) := by decide +kernel
theorem dX4_readNumber_72 : decode cX4_readNumber 72 = .ok (.iload_n 2, 1) := by decide +kernel
theorem dX4_readNumber_73 : decode cX4_readNumber 73 = .ok (.if_icmp .le 5, 3) := by decide +kernel
theorem dX4_readNumber_76 : decode cX4_readNumber 76 = .ok (.iconst (-1), 1) := by decide +kernel
theorem dX4_readNumber_77 : decode cX4_readNumber 77 = .ok (.ireturn, 1) := by decide +kernel
theorem dX4_readNumber_78 : decode cX4_readNumber 78 = .ok (.bipush 10, 2) := by decide +kernel
theorem dX4_readNumber_80 : decode cX4_readNumber 80 = .ok (.iload_n 3, 1) := by decide +kernel
theorem dX4_readNumber_81 : decode cX4_readNumber 81 = .ok (.imul, 1) := by decide +kernel
theorem dX4_readNumber_82 : decode cX4_readNumber 82 = .ok (.iload 5, 2) := by decide +kernel
theorem dX4_readNumber_84 : decode cX4_readNumber 84 = .ok (.iadd, 1) := by decide +kernel
theorem dX4_readNumber_85 : decode cX4_readNumber 85 = .ok (.istore_n 3, 1) := by decide +kernel
theorem dX4_readNumber_86 : decode cX4_readNumber 86 = .ok (.aload_n 0, 1) := by decide +kernel
theorem dX4_readNumber_87 : decode cX4_readNumber 87 = .ok (.dup, 1) := by decide +kernel
theorem dX4_readNumber_88 : decode cX4_readNumber 88 = .ok (.getfield 25, 3) := by decide +kernel
theorem dX4_readNumber_91 : decode cX4_readNumber 91 = .ok (.iconst 1, 1) := by decide +kernel
theorem dX4_readNumber_92 : decode cX4_readNumber 92 = .ok (.iadd, 1) := by decide +kernel
theorem dX4_readNumber_93 : decode cX4_readNumber 93 = .ok (.putfield 25, 3) := by decide +kernel
theorem dX4_readNumber_96 : decode cX4_readNumber 96 = .ok (.iinc 4 1, 3) := by decide +kernel
theorem dX4_readNumber_99 : decode cX4_readNumber 99 = .ok (.goto (-61), 3) := by decide +kernel
theorem dX4_readNumber_102 : decode cX4_readNumber 102 = .ok (.iload_n 3, 1) := by decide +kernel
theorem dX4_readNumber_103 : decode cX4_readNumber 103 = .ok (.ireturn, 1) := by decide +kernel
theorem dX4_digitHere_0 : decode cX4_digitHere 0 = .ok (.aload_n 0, 1) := by decide +kernel
theorem dX4_digitHere_1 : decode cX4_digitHere 1 = .ok (.getfield 25, 3) := by decide +kernel
theorem dX4_digitHere_4 : decode cX4_digitHere 4 = .ok (.aload_n 0, 1) := by decide +kernel
theorem dX4_digitHere_5 : decode cX4_digitHere 5 = .ok (.getfield 21, 3) := by decide +kernel
theorem dX4_digitHere_8 : decode cX4_digitHere 8 = .ok (.if_icmp .ge 31, 3) := by decide +kernel
theorem dX4_digitHere_11 : decode cX4_digitHere 11 = .ok (.aload_n 0, 1) := by decide +kernel
theorem dX4_digitHere_12 : decode cX4_digitHere 12 = .ok (.getfield 9, 3) := by decide +kernel
theorem dX4_digitHere_15 : decode cX4_digitHere 15 = .ok (.aload_n 0, 1) := by decide +kernel
theorem dX4_digitHere_16 : decode cX4_digitHere 16 = .ok (.getfield 25, 3) := by decide +kernel
theorem dX4_digitHere_19 : decode cX4_digitHere 19 = .ok (.caload, 1) := by decide +kernel
theorem dX4_digitHere_20 : decode cX4_digitHere 20 = .ok (.bipush 48, 2) := by decide +kernel
theorem dX4_digitHere_22 : decode cX4_digitHere 22 = .ok (.if_icmp .lt 17, 3) := by decide +kernel
theorem dX4_digitHere_25 : decode cX4_digitHere 25 = .ok (.aload_n 0, 1) := by decide +kernel
theorem dX4_digitHere_26 : decode cX4_digitHere 26 = .ok (.getfield 9, 3) := by decide +kernel
theorem dX4_digitHere_29 : decode cX4_digitHere 29 = .ok (.aload_n 0, 1) := by decide +kernel
theorem dX4_digitHere_30 : decode cX4_digitHere 30 = .ok (.getfield 25, 3) := by decide +kernel
theorem dX4_digitHere_33 : decode cX4_digitHere 33 = .ok (.caload, 1) := by decide +kernel
theorem dX4_digitHere_34 : decode cX4_digitHere 34 = .ok (.bipush 57, 2) := by decide +kernel
theorem dX4_digitHere_36 : decode cX4_digitHere 36 = .ok (.if_icmp .le 5, 3) := by decide +kernel
theorem dX4_digitHere_39 : decode cX4_digitHere 39 = .ok (.iconst (-1), 1) := by decide +kernel
theorem dX4_digitHere_40 : decode cX4_digitHere 40 = .ok (.ireturn, 1) := by decide +kernel
theorem dX4_digitHere_41 : decode cX4_digitHere 41 = .ok (.aload_n 0, 1) := by decide +kernel
theorem dX4_digitHere_42 : decode cX4_digitHere 42 = .ok (.getfield 9, 3) := by decide +kernel
theorem dX4_digitHere_45 : decode cX4_digitHere 45 = .ok (.aload_n 0, 1) := by decide +kernel
theorem dX4_digitHere_46 : decode cX4_digitHere 46 = .ok (.getfield 25, 3) := by decide +kernel
theorem dX4_digitHere_49 : decode cX4_digitHere 49 = .ok (.caload, 1) := by decide +kernel
theorem dX4_digitHere_50 : decode cX4_digitHere 50 = .ok (.bipush 48, 2) := by decide +kernel
theorem dX4_digitHere_52 : decode cX4_digitHere 52 = .ok (.isub, 1) := by decide +kernel
theorem dX4_digitHere_53 : decode cX4_digitHere 53 = .ok (.ireturn, 1) := by decide +kernel
theorem dX5_init_0 : decode cX5_init 0 = .ok (.aload_n 0, 1) := by decide +kernel
theorem dX5_init_1 : decode cX5_init 1 = .ok (.invokespecial 1, 3) := by decide +kernel
theorem dX5_init_4 : decode cX5_init 4 = .ok (.return_, 1) := by decide +kernel
theorem dX5_copyFrom_0 : decode cX5_copyFrom 0 = .ok (.aload_n 0, 1) := by decide +kernel
theorem dX5_copyFrom_1 : decode cX5_copyFrom 1 = .ok (.aload_n 1, 1) := by decide +kernel
theorem dX5_copyFrom_2 : decode cX5_copyFrom 2 = .ok (.getfield 7, 3) := by decide +kernel
theorem dX5_copyFrom_5 : decode cX5_copyFrom 5 = .ok (.putfield 7, 3) := by decide +kernel
theorem dX5_copyFrom_8 : decode cX5_copyFrom 8 = .ok (.aload_n 0, 1) := by decide +kernel
theorem dX5_copyFrom_9 : decode cX5_copyFrom 9 = .ok (.aload_n 1, 1) := by decide +kernel
theorem dX5_copyFrom_10 : decode cX5_copyFrom 10 = .ok (.getfield 13, 3) := by decide +kernel
theorem dX5_copyFrom_13 : decode cX5_copyFrom 13 = .ok (.putfield 13, 3) := by decide +kernel
theorem dX5_copyFrom_16 : decode cX5_copyFrom 16 = .ok (.return_, 1) := by decide +kernel
set_option maxRecDepth 20000 in
theorem ggX6_init_X3_init : GoodIn wsX6_init wsX3_init := goodIn_r _ [21, 22, 2, 3, 23, 24, 25, 26, 27, 28, 9, 29, 30, 31, 32, 33, 34, 35, 36, 37, 38, 39, 40, 41, 42, 43, 44, 45, 46, 47, 61, 62, 63, 64, 65, 66, 67, 68, 69, 89, 90, 91, 92, 93, 94, 95, 96, 97, 98, 99, 100, 101, 102] rfl (by decide +kernel)
set_option maxRecDepth 20000 in
theorem gX6_init_X3_init : GoodIn wsX6_init (wsX3_init) := ggX6_init_X3_init
set_option maxRecDepth 20000 in
theorem ggX6_init_X2_init : GoodIn wsX6_init wsX2_init := goodIn_r _ [49, 50, 2, 3, 30, 51, 52, 53, 9, 54, 55, 75, 76, 77, 78, 79, 80, 81] rfl (by decide +kernel)
set_option maxRecDepth 20000 in
theorem gX6_init_X2_init_n26 : GoodIn wsX6_init (wsX2_init) := ggX6_init_X2_init
set_option maxRecDepth 20000 in
theorem ggX6_init_X4_init : GoodIn wsX6_init wsX4_init := goodIn_r _ [57, 58, 2, 3, 59, 60, 82, 83, 84, 85, 86, 87, 88] rfl (by decide +kernel)
set_option maxRecDepth 20000 in
theorem gX6_init_X4_init_n33 : GoodIn wsX6_init (wsX4_init) := ggX6_init_X4_init
theorem dX6_init_0 : decode cX6_init 0 = .ok (.aload_n 0, 1) := by decide +kernel
theorem dX6_init_1 : decode cX6_init 1 = .ok (.invokespecial 1, 3) := by decide +kernel
theorem dX6_init_4 : decode cX6_init 4 = .ok (.aload_n 0, 1) := by decide +kernel
theorem dX6_init_5 : decode cX6_init 5 = .ok (.new 7, 3) := by decide +kernel
theorem dX6_init_8 : decode cX6_init 8 = .ok (.dup, 1) := by decide +kernel
theorem dX6_init_9 : decode cX6_init 9 = .ok (.invokespecial 9, 3) := by decide +kernel
theorem dX6_init_12 : decode cX6_init 12 = .ok (.putfield 10, 3) := by decide +kernel
theorem dX6_init_15 : decode cX6_init 15 = .ok (.aload_n 0, 1) := by decide +kernel
theorem dX6_init_16 : decode cX6_init 16 = .ok (.iconst 2, 1) := by decide +kernel
theorem dX6_init_17 : decode cX6_init 17 = .ok (.anewarray 7, 3) := by decide +kernel
theorem dX6_init_20 : decode cX6_init 20 = .ok (.dup, 1) := by decide +kernel
theorem dX6_init_21 : decode cX6_init 21 = .ok (.iconst 0, 1) := by decide +kernel
theorem dX6_init_22 : decode cX6_init 22 = .ok (.new 7, 3) := by decide +kernel
theorem dX6_init_25 : decode cX6_init 25 = .ok (.dup, 1) := by decide +kernel
theorem dX6_init_26 : decode cX6_init 26 = .ok (.invokespecial 9, 3) := by decide +kernel
theorem dX6_init_29 : decode cX6_init 29 = .ok (.aastore, 1) := by decide +kernel
theorem dX6_init_30 : decode cX6_init 30 = .ok (.dup, 1) := by decide +kernel
theorem dX6_init_31 : decode cX6_init 31 = .ok (.iconst 1, 1) := by decide +kernel
theorem dX6_init_32 : decode cX6_init 32 = .ok (.new 7, 3) := by decide +kernel
theorem dX6_init_35 : decode cX6_init 35 = .ok (.dup, 1) := by decide +kernel
theorem dX6_init_36 : decode cX6_init 36 = .ok (.invokespecial 9, 3) := by decide +kernel
theorem dX6_init_39 : decode cX6_init 39 = .ok (.aastore, 1) := by decide +kernel
theorem dX6_init_40 : decode cX6_init 40 = .ok (.putfield 16, 3) := by decide +kernel
theorem dX6_init_43 : decode cX6_init 43 = .ok (.aload_n 0, 1) := by decide +kernel
theorem dX6_init_44 : decode cX6_init 44 = .ok (.iconst 2, 1) := by decide +kernel
theorem dX6_init_45 : decode cX6_init 45 = .ok (.newarray .boolean, 2) := by decide +kernel
theorem dX6_init_47 : decode cX6_init 47 = .ok (.putfield 20, 3) := by decide +kernel
theorem dX6_init_50 : decode cX6_init 50 = .ok (.aload_n 0, 1) := by decide +kernel
theorem dX6_init_51 : decode cX6_init 51 = .ok (.new 24, 3) := by decide +kernel
theorem dX6_init_54 : decode cX6_init 54 = .ok (.dup, 1) := by decide +kernel
theorem dX6_init_55 : decode cX6_init 55 = .ok (.invokespecial 26, 3) := by decide +kernel
theorem dX6_init_58 : decode cX6_init 58 = .ok (.putfield 27, 3) := by decide +kernel
theorem dX6_init_61 : decode cX6_init 61 = .ok (.aload_n 0, 1) := by decide +kernel
theorem dX6_init_62 : decode cX6_init 62 = .ok (.new 31, 3) := by decide +kernel
theorem dX6_init_65 : decode cX6_init 65 = .ok (.dup, 1) := by decide +kernel
theorem dX6_init_66 : decode cX6_init 66 = .ok (.invokespecial 33, 3) := by decide +kernel
theorem dX6_init_69 : decode cX6_init 69 = .ok (.putfield 34, 3) := by decide +kernel
theorem dX6_init_72 : decode cX6_init 72 = .ok (.return_, 1) := by decide +kernel
set_option maxRecDepth 20000 in
theorem ggX6_route_X3_addRoute : GoodIn wsX6_route wsX3_addRoute := goodIn_r _ [7, 8, 9, 10, 11, 17, 18, 19, 20, 21, 22, 23, 24, 25, 26, 27] rfl (by decide +kernel)
set_option maxRecDepth 20000 in
theorem gX6_route_X3_addRoute : GoodIn wsX6_route (wsV RX6 42 RX3 yX3_addRoute wsX3_addRoute) := goodIn_app (goodIn_of _ (by decide +kernel)) ggX6_route_X3_addRoute
theorem dX6_route_0 : decode cX6_route 0 = .ok (.iload_n 1, 1) := by decide +kernel
theorem dX6_route_1 : decode cX6_route 1 = .ok (.iconst 1, 1) := by decide +kernel
theorem dX6_route_2 : decode cX6_route 2 = .ok (.if_icmp .lt 18, 3) := by decide +kernel
theorem dX6_route_5 : decode cX6_route 5 = .ok (.iload_n 1, 1) := by decide +kernel
theorem dX6_route_6 : decode cX6_route 6 = .ok (.bipush 12, 2) := by decide +kernel
theorem dX6_route_8 : decode cX6_route 8 = .ok (.if_icmp .gt 12, 3) := by decide +kernel
theorem dX6_route_11 : decode cX6_route 11 = .ok (.iload_n 2, 1) := by decide +kernel
theorem dX6_route_12 : decode cX6_route 12 = .ok (.ifCond .lt 8, 3) := by decide +kernel
theorem dX6_route_15 : decode cX6_route 15 = .ok (.iload_n 2, 1) := by decide +kernel
theorem dX6_route_16 : decode cX6_route 16 = .ok (.iload_n 1, 1) := by decide +kernel
theorem dX6_route_17 : decode cX6_route 17 = .ok (.if_icmp .le 6, 3) := by decide +kernel
theorem dX6_route_20 : decode cX6_route 20 = .ok (.bipush (-2), 2) := by decide +kernel
theorem dX6_route_22 : decode cX6_route 22 = .ok (.ireturn, 1) := by decide +kernel
theorem dX6_route_23 : decode cX6_route 23 = .ok (.aload_n 0, 1) := by decide +kernel
theorem dX6_route_24 : decode cX6_route 24 = .ok (.getfield 10, 3) := by decide +kernel
theorem dX6_route_27 : decode cX6_route 27 = .ok (.getfield 38, 3) := by decide +kernel
theorem dX6_route_30 : decode cX6_route 30 = .ok (.bipush 6, 2) := by decide +kernel
theorem dX6_route_32 : decode cX6_route 32 = .ok (.if_icmp .lt 6, 3) := by decide +kernel
theorem dX6_route_35 : decode cX6_route 35 = .ok (.bipush (-4), 2) := by decide +kernel
theorem dX6_route_37 : decode cX6_route 37 = .ok (.ireturn, 1) := by decide +kernel
theorem dX6_route_38 : decode cX6_route 38 = .ok (.aload_n 0, 1) := by decide +kernel
theorem dX6_route_39 : decode cX6_route 39 = .ok (.getfield 10, 3) := by decide +kernel
theorem dX6_route_42 : decode cX6_route 42 = .ok (.iload_n 1, 1) := by decide +kernel
theorem dX6_route_43 : decode cX6_route 43 = .ok (.iload_n 2, 1) := by decide +kernel
theorem dX6_route_44 : decode cX6_route 44 = .ok (.invokevirtual 42, 3) := by decide +kernel
theorem dX6_route_47 : decode cX6_route 47 = .ok (.ireturn, 1) := by decide +kernel
set_option maxRecDepth 20000 in
theorem ggX6_buffer_X3_hasRoute : GoodIn wsX6_buffer wsX3_hasRoute := goodIn_r _ [9, 10, 16, 17, 18, 19, 20, 21, 22, 23, 24] rfl (by decide +kernel)
set_option maxRecDepth 20000 in
theorem gX6_buffer_X3_hasRoute : GoodIn wsX6_buffer (wsV RX6 46 RX3 yX3_hasRoute wsX3_hasRoute) := goodIn_app (goodIn_of _ (by decide +kernel)) ggX6_buffer_X3_hasRoute
theorem dX6_buffer_0 : decode cX6_buffer 0 = .ok (.aload_n 0, 1) := by decide +kernel
theorem dX6_buffer_1 : decode cX6_buffer 1 = .ok (.getfield 10, 3) := by decide +kernel
theorem dX6_buffer_4 : decode cX6_buffer 4 = .ok (.iload_n 1, 1) := by decide +kernel
theorem dX6_buffer_5 : decode cX6_buffer 5 = .ok (.invokevirtual 46, 3) := by decide +kernel
theorem dX6_buffer_8 : decode cX6_buffer 8 = .ok (.ifCond .ne 5, 3) := by decide +kernel
theorem dX6_buffer_11 : decode cX6_buffer 11 = .ok (.iconst (-1), 1) := by decide +kernel
theorem dX6_buffer_12 : decode cX6_buffer 12 = .ok (.ireturn, 1) := by decide +kernel
theorem dX6_buffer_13 : decode cX6_buffer 13 = .ok (.aload_n 0, 1) := by decide +kernel
theorem dX6_buffer_14 : decode cX6_buffer 14 = .ok (.getfield 10, 3) := by decide +kernel
theorem dX6_buffer_17 : decode cX6_buffer 17 = .ok (.getfield 50, 3) := by decide +kernel
theorem dX6_buffer_20 : decode cX6_buffer 20 = .ok (.iload_n 1, 1) := by decide +kernel
theorem dX6_buffer_21 : decode cX6_buffer 21 = .ok (.aaload, 1) := by decide +kernel
theorem dX6_buffer_22 : decode cX6_buffer 22 = .ok (.astore_n 3, 1) := by decide +kernel
theorem dX6_buffer_23 : decode cX6_buffer 23 = .ok (.iload_n 2, 1) := by decide +kernel
theorem dX6_buffer_24 : decode cX6_buffer 24 = .ok (.ifCond .lt 11, 3) := by decide +kernel
theorem dX6_buffer_27 : decode cX6_buffer 27 = .ok (.iload_n 2, 1) := by decide +kernel
theorem dX6_buffer_28 : decode cX6_buffer 28 = .ok (.aload_n 3, 1) := by decide +kernel
theorem dX6_buffer_29 : decode cX6_buffer 29 = .ok (.getfield 54, 3) := by decide +kernel
theorem dX6_buffer_32 : decode cX6_buffer 32 = .ok (.if_icmp .le 6, 3) := by decide +kernel
theorem dX6_buffer_35 : decode cX6_buffer 35 = .ok (.bipush (-2), 2) := by decide +kernel
theorem dX6_buffer_37 : decode cX6_buffer 37 = .ok (.ireturn, 1) := by decide +kernel
theorem dX6_buffer_38 : decode cX6_buffer 38 = .ok (.aload_n 3, 1) := by decide +kernel
theorem dX6_buffer_39 : decode cX6_buffer 39 = .ok (.getfield 59, 3) := by decide +kernel
theorem dX6_buffer_42 : decode cX6_buffer 42 = .ok (.istore 4, 2) := by decide +kernel
theorem dX6_buffer_44 : decode cX6_buffer 44 = .ok (.aload_n 3, 1) := by decide +kernel
theorem dX6_buffer_45 : decode cX6_buffer 45 = .ok (.iload_n 2, 1) := by decide +kernel
theorem dX6_buffer_46 : decode cX6_buffer 46 = .ok (.putfield 59, 3) := by decide +kernel
theorem dX6_buffer_49 : decode cX6_buffer 49 = .ok (.iload 4, 2) := by decide +kernel
theorem dX6_buffer_51 : decode cX6_buffer 51 = .ok (.ireturn, 1) := by decide +kernel
set_option maxRecDepth 20000 in
theorem ggX6_join_X3_addClimber : GoodIn wsX6_join wsX3_addClimber := goodIn_r _ [7, 8, 14, 15, 16, 17, 18, 19, 20, 21, 22] rfl (by decide +kernel)
set_option maxRecDepth 20000 in
theorem gX6_join_X3_addClimber : GoodIn wsX6_join (wsV RX6 65 RX3 yX3_addClimber wsX3_addClimber) := goodIn_app (goodIn_of _ (by decide +kernel)) ggX6_join_X3_addClimber
theorem dX6_join_0 : decode cX6_join 0 = .ok (.aload_n 0, 1) := by decide +kernel
theorem dX6_join_1 : decode cX6_join 1 = .ok (.getfield 10, 3) := by decide +kernel
theorem dX6_join_4 : decode cX6_join 4 = .ok (.getfield 62, 3) := by decide +kernel
theorem dX6_join_7 : decode cX6_join 7 = .ok (.bipush 12, 2) := by decide +kernel
theorem dX6_join_9 : decode cX6_join 9 = .ok (.if_icmp .lt 6, 3) := by decide +kernel
theorem dX6_join_12 : decode cX6_join 12 = .ok (.bipush (-4), 2) := by decide +kernel
theorem dX6_join_14 : decode cX6_join 14 = .ok (.ireturn, 1) := by decide +kernel
theorem dX6_join_15 : decode cX6_join 15 = .ok (.aload_n 0, 1) := by decide +kernel
theorem dX6_join_16 : decode cX6_join 16 = .ok (.getfield 10, 3) := by decide +kernel
theorem dX6_join_19 : decode cX6_join 19 = .ok (.invokevirtual 65, 3) := by decide +kernel
theorem dX6_join_22 : decode cX6_join 22 = .ok (.ireturn, 1) := by decide +kernel
theorem dX6_set_0 : decode cX6_set 0 = .ok (.iload_n 1, 1) := by decide +kernel
theorem dX6_set_1 : decode cX6_set 1 = .ok (.ifCond .lt 29, 3) := by decide +kernel
theorem dX6_set_4 : decode cX6_set 4 = .ok (.iload_n 1, 1) := by decide +kernel
theorem dX6_set_5 : decode cX6_set 5 = .ok (.getstatic 69, 3) := by decide +kernel
theorem dX6_set_8 : decode cX6_set 8 = .ok (.arraylength, 1) := by decide +kernel
theorem dX6_set_9 : decode cX6_set 9 = .ok (.if_icmp .ge 21, 3) := by decide +kernel
theorem dX6_set_12 : decode cX6_set 12 = .ok (.iload_n 2, 1) := by decide +kernel
theorem dX6_set_13 : decode cX6_set 13 = .ok (.getstatic 73, 3) := by decide +kernel
theorem dX6_set_16 : decode cX6_set 16 = .ok (.iload_n 1, 1) := by decide +kernel
theorem dX6_set_17 : decode cX6_set 17 = .ok (.iaload, 1) := by decide +kernel
theorem dX6_set_18 : decode cX6_set 18 = .ok (.if_icmp .lt 12, 3) := by decide +kernel
theorem dX6_set_21 : decode cX6_set 21 = .ok (.iload_n 2, 1) := by decide +kernel
theorem dX6_set_22 : decode cX6_set 22 = .ok (.getstatic 76, 3) := by decide +kernel
theorem dX6_set_25 : decode cX6_set 25 = .ok (.iload_n 1, 1) := by decide +kernel
theorem dX6_set_26 : decode cX6_set 26 = .ok (.iaload, 1) := by decide +kernel
theorem dX6_set_27 : decode cX6_set 27 = .ok (.if_icmp .le 6, 3) := by decide +kernel
theorem dX6_set_30 : decode cX6_set 30 = .ok (.bipush (-2), 2) := by decide +kernel
theorem dX6_set_32 : decode cX6_set 32 = .ok (.ireturn, 1) := by decide +kernel
theorem dX6_set_33 : decode cX6_set 33 = .ok (.aload_n 0, 1) := by decide +kernel
theorem dX6_set_34 : decode cX6_set 34 = .ok (.getfield 10, 3) := by decide +kernel
theorem dX6_set_37 : decode cX6_set 37 = .ok (.getfield 79, 3) := by decide +kernel
theorem dX6_set_40 : decode cX6_set 40 = .ok (.iload_n 1, 1) := by decide +kernel
theorem dX6_set_41 : decode cX6_set 41 = .ok (.iaload, 1) := by decide +kernel
theorem dX6_set_42 : decode cX6_set 42 = .ok (.istore_n 3, 1) := by decide +kernel
theorem dX6_set_43 : decode cX6_set 43 = .ok (.aload_n 0, 1) := by decide +kernel
theorem dX6_set_44 : decode cX6_set 44 = .ok (.getfield 10, 3) := by decide +kernel
theorem dX6_set_47 : decode cX6_set 47 = .ok (.getfield 79, 3) := by decide +kernel
theorem dX6_set_50 : decode cX6_set 50 = .ok (.iload_n 1, 1) := by decide +kernel
theorem dX6_set_51 : decode cX6_set 51 = .ok (.iload_n 2, 1) := by decide +kernel
theorem dX6_set_52 : decode cX6_set 52 = .ok (.iastore, 1) := by decide +kernel
theorem dX6_set_53 : decode cX6_set 53 = .ok (.iload_n 3, 1) := by decide +kernel
theorem dX6_set_54 : decode cX6_set 54 = .ok (.ireturn, 1) := by decide +kernel
set_option maxRecDepth 20000 in
theorem ggX6_apply_X3_hasClimber : GoodIn wsX6_apply wsX3_hasClimber := goodIn_r _ [8, 9, 71, 72, 73, 74, 75, 76, 77, 78, 79] rfl (by decide +kernel)
set_option maxRecDepth 20000 in
theorem gX6_apply_X3_hasClimber : GoodIn wsX6_apply (wsV RX6 82 RX3 yX3_hasClimber wsX3_hasClimber) := goodIn_app (goodIn_of _ (by decide +kernel)) ggX6_apply_X3_hasClimber
set_option maxRecDepth 20000 in
theorem ggX6_apply_X3_hasRouteAndDay : GoodIn wsX6_apply wsX3_hasRouteAndDay := goodIn_r _ [13, 14, 15, 16, 7, 17, 18, 19, 20, 21, 71, 72, 73, 74, 75, 76, 77, 78, 79] rfl (by decide +kernel)
set_option maxRecDepth 20000 in
theorem gX6_apply_X3_hasRouteAndDay : GoodIn wsX6_apply (wsV RX6 85 RX3 yX3_hasRouteAndDay wsX3_hasRouteAndDay) := goodIn_app (goodIn_of _ (by decide +kernel)) ggX6_apply_X3_hasRouteAndDay
set_option maxRecDepth 20000 in
theorem ggX6_apply_X3_isOpen : GoodIn wsX6_apply wsX3_isOpen := goodIn_r _ [25, 26, 27, 19, 20, 21, 71, 72, 73, 74, 75, 76, 77, 78, 79] rfl (by decide +kernel)
set_option maxRecDepth 20000 in
theorem gX6_apply_X3_isOpen : GoodIn wsX6_apply (wsV RX6 89 RX3 yX3_isOpen wsX3_isOpen) := goodIn_app (goodIn_of _ (by decide +kernel)) ggX6_apply_X3_isOpen
set_option maxRecDepth 20000 in
theorem ggX6_apply_X3_stillHas : GoodIn wsX6_apply wsX3_stillHas := goodIn_r _ [31, 32, 33, 34, 35, 36, 37, 38, 39, 40, 41, 42, 43, 44, 45, 46, 47, 48, 49, 50, 71, 72, 73, 74, 75, 76, 77, 78, 79, 80, 81, 82, 83, 84, 85, 86, 87, 88] rfl (by decide +kernel)
set_option maxRecDepth 20000 in
theorem gX6_apply_X3_stillHas : GoodIn wsX6_apply (wsV RX6 92 RX3 yX3_stillHas wsX3_stillHas) := goodIn_app (goodIn_of _ (by decide +kernel)) ggX6_apply_X3_stillHas
set_option maxRecDepth 20000 in
theorem ggX6_apply_X1_isBarredOn : GoodIn wsX6_apply wsX1_isBarredOn := goodIn_r _ [55, 56, 89, 90, 91] rfl (by decide +kernel)
set_option maxRecDepth 20000 in
theorem gX6_apply_X1_isBarredOn : GoodIn wsX6_apply (wsV RX6 100 RX1 yX1_isBarredOn wsX1_isBarredOn) := goodIn_app (goodIn_of _ (by decide +kernel)) ggX6_apply_X1_isBarredOn
set_option maxRecDepth 20000 in
theorem ggX6_apply_X3_addApplication : GoodIn wsX6_apply wsX3_addApplication := goodIn_r _ [60, 33, 32, 61, 62, 63, 64, 65, 71, 72, 73, 74, 75, 76, 77, 78, 79, 80, 81, 82, 83, 84, 85, 86, 87, 88] rfl (by decide +kernel)
set_option maxRecDepth 20000 in
theorem gX6_apply_X3_addApplication : GoodIn wsX6_apply (wsV RX6 108 RX3 yX3_addApplication wsX3_addApplication) := goodIn_app (goodIn_of _ (by decide +kernel)) ggX6_apply_X3_addApplication
theorem dX6_apply_0 : decode cX6_apply 0 = .ok (.aload_n 0, 1) := by decide +kernel
theorem dX6_apply_1 : decode cX6_apply 1 = .ok (.getfield 10, 3) := by decide +kernel
theorem dX6_apply_4 : decode cX6_apply 4 = .ok (.iload_n 1, 1) := by decide +kernel
theorem dX6_apply_5 : decode cX6_apply 5 = .ok (.invokevirtual 82, 3) := by decide +kernel
theorem dX6_apply_8 : decode cX6_apply 8 = .ok (.ifCond .eq 15, 3) := by decide +kernel
theorem dX6_apply_11 : decode cX6_apply 11 = .ok (.aload_n 0, 1) := by decide +kernel
theorem dX6_apply_12 : decode cX6_apply 12 = .ok (.getfield 10, 3) := by decide +kernel
theorem dX6_apply_15 : decode cX6_apply 15 = .ok (.iload_n 2, 1) := by decide +kernel
theorem dX6_apply_16 : decode cX6_apply 16 = .ok (.iload_n 3, 1) := by decide +kernel
theorem dX6_apply_17 : decode cX6_apply 17 = .ok (.invokevirtual 85, 3) := by decide +kernel
theorem dX6_apply_20 : decode cX6_apply 20 = .ok (.ifCond .ne 5, 3) := by decide +kernel
theorem dX6_apply_23 : decode cX6_apply 23 = .ok (.iconst (-1), 1) := by decide +kernel
theorem dX6_apply_24 : decode cX6_apply 24 = .ok (.ireturn, 1) := by decide +kernel
theorem dX6_apply_25 : decode cX6_apply 25 = .ok (.iload 4, 2) := by decide +kernel
theorem dX6_apply_27 : decode cX6_apply 27 = .ok (.iconst 1, 1) := by decide +kernel
theorem dX6_apply_28 : decode cX6_apply 28 = .ok (.if_icmp .lt 9, 3) := by decide +kernel
theorem dX6_apply_31 : decode cX6_apply 31 = .ok (.iload 4, 2) := by decide +kernel
theorem dX6_apply_33 : decode cX6_apply 33 = .ok (.iconst 4, 1) := by decide +kernel
theorem dX6_apply_34 : decode cX6_apply 34 = .ok (.if_icmp .le 6, 3) := by decide +kernel
theorem dX6_apply_37 : decode cX6_apply 37 = .ok (.bipush (-2), 2) := by decide +kernel
theorem dX6_apply_39 : decode cX6_apply 39 = .ok (.ireturn, 1) := by decide +kernel
theorem dX6_apply_40 : decode cX6_apply 40 = .ok (.aload_n 0, 1) := by decide +kernel
theorem dX6_apply_41 : decode cX6_apply 41 = .ok (.getfield 10, 3) := by decide +kernel
theorem dX6_apply_44 : decode cX6_apply 44 = .ok (.iload_n 3, 1) := by decide +kernel
theorem dX6_apply_45 : decode cX6_apply 45 = .ok (.invokevirtual 89, 3) := by decide +kernel
theorem dX6_apply_48 : decode cX6_apply 48 = .ok (.ifCond .eq 32, 3) := by decide +kernel
theorem dX6_apply_51 : decode cX6_apply 51 = .ok (.aload_n 0, 1) := by decide +kernel
theorem dX6_apply_52 : decode cX6_apply 52 = .ok (.getfield 10, 3) := by decide +kernel
theorem dX6_apply_55 : decode cX6_apply 55 = .ok (.iload_n 1, 1) := by decide +kernel
theorem dX6_apply_56 : decode cX6_apply 56 = .ok (.iload_n 2, 1) := by decide +kernel
theorem dX6_apply_57 : decode cX6_apply 57 = .ok (.iload_n 3, 1) := by decide +kernel
theorem dX6_apply_58 : decode cX6_apply 58 = .ok (.invokevirtual 92, 3) := by decide +kernel
theorem dX6_apply_61 : decode cX6_apply 61 = .ok (.ifCond .ne 19, 3) := by decide +kernel
theorem dX6_apply_64 : decode cX6_apply 64 = .ok (.aload_n 0, 1) := by decide +kernel
theorem dX6_apply_65 : decode cX6_apply 65 = .ok (.getfield 10, 3) := by decide +kernel
theorem dX6_apply_68 : decode cX6_apply 68 = .ok (.getfield 96, 3) := by decide +kernel
theorem dX6_apply_71 : decode cX6_apply 71 = .ok (.iload_n 1, 1) := by decide +kernel
theorem dX6_apply_72 : decode cX6_apply 72 = .ok (.aaload, 1) := by decide +kernel
theorem dX6_apply_73 : decode cX6_apply 73 = .ok (.iload_n 3, 1) := by decide +kernel
theorem dX6_apply_74 : decode cX6_apply 74 = .ok (.invokevirtual 100, 3) := by decide +kernel
theorem dX6_apply_77 : decode cX6_apply 77 = .ok (.ifCond .eq 6, 3) := by decide +kernel
theorem dX6_apply_80 : decode cX6_apply 80 = .ok (.bipush (-5), 2) := by decide +kernel
theorem dX6_apply_82 : decode cX6_apply 82 = .ok (.ireturn, 1) := by decide +kernel
theorem dX6_apply_83 : decode cX6_apply 83 = .ok (.aload_n 0, 1) := by decide +kernel
theorem dX6_apply_84 : decode cX6_apply 84 = .ok (.getfield 10, 3) := by decide +kernel
theorem dX6_apply_87 : decode cX6_apply 87 = .ok (.getfield 105, 3) := by decide +kernel
theorem dX6_apply_90 : decode cX6_apply 90 = .ok (.bipush 40, 2) := by decide +kernel
theorem dX6_apply_92 : decode cX6_apply 92 = .ok (.if_icmp .lt 6, 3) := by decide +kernel
theorem dX6_apply_95 : decode cX6_apply 95 = .ok (.bipush (-4), 2) := by decide +kernel
theorem dX6_apply_97 : decode cX6_apply 97 = .ok (.ireturn, 1) := by decide +kernel
theorem dX6_apply_98 : decode cX6_apply 98 = .ok (.aload_n 0, 1) := by decide +kernel
theorem dX6_apply_99 : decode cX6_apply 99 = .ok (.getfield 10, 3) := by decide +kernel
theorem dX6_apply_102 : decode cX6_apply 102 = .ok (.iload_n 1, 1) := by decide +kernel
theorem dX6_apply_103 : decode cX6_apply 103 = .ok (.iload_n 2, 1) := by decide +kernel
theorem dX6_apply_104 : decode cX6_apply 104 = .ok (.iload_n 3, 1) := by decide +kernel
theorem dX6_apply_105 : decode cX6_apply 105 = .ok (.iload 4, 2) := by decide +kernel
theorem dX6_apply_107 : decode cX6_apply 107 = .ok (.invokevirtual 108, 3) := by decide +kernel
theorem dX6_apply_110 : decode cX6_apply 110 = .ok (.ireturn, 1) := by decide +kernel
set_option maxRecDepth 20000 in
theorem ggX6_lottery_X3_hasRouteAndDay : GoodIn wsX6_lottery wsX3_hasRouteAndDay := goodIn_r _ [8, 9, 10, 11, 7, 12, 13, 14, 15, 16, 128, 129, 130, 131, 132, 133, 134, 135, 136] rfl (by decide +kernel)
set_option maxRecDepth 20000 in
theorem gX6_lottery_X3_hasRouteAndDay : GoodIn wsX6_lottery (wsV RX6 85 RX3 yX3_hasRouteAndDay wsX3_hasRouteAndDay) := goodIn_app (goodIn_of _ (by decide +kernel)) ggX6_lottery_X3_hasRouteAndDay
set_option maxRecDepth 20000 in
theorem ggX6_lottery_X3_isOpen : GoodIn wsX6_lottery wsX3_isOpen := goodIn_r _ [20, 21, 22, 14, 15, 16, 128, 129, 130, 131, 132, 133, 134, 135, 136] rfl (by decide +kernel)
set_option maxRecDepth 20000 in
theorem gX6_lottery_X3_isOpen : GoodIn wsX6_lottery (wsV RX6 89 RX3 yX3_isOpen wsX3_isOpen) := goodIn_app (goodIn_of _ (by decide +kernel)) ggX6_lottery_X3_isOpen
set_option maxRecDepth 20000 in
theorem ggX6_lottery_X3_countOf : GoodIn wsX6_lottery wsX3_countOf := goodIn_r _ [26, 27, 28, 29, 30, 31, 32, 33, 34, 35, 36, 128, 129, 130, 131, 132, 133, 134, 135, 136, 137, 138, 139, 140, 141, 142, 143, 144, 145] rfl (by decide +kernel)
set_option maxRecDepth 20000 in
theorem gX6_lottery_X3_countOf : GoodIn wsX6_lottery (wsV RX6 112 RX3 yX3_countOf wsX3_countOf) := goodIn_app (goodIn_of _ (by decide +kernel)) ggX6_lottery_X3_countOf
set_option maxRecDepth 20000 in
theorem ggX6_lottery_X2_enterAll : GoodIn wsX6_lottery wsX2_enterAll := goodIn_r _ [41, 42, 43, 44, 45, 46, 47, 48, 49, 50, 51, 31, 32, 33, 34, 35, 36, 52, 53, 54, 7, 55, 56, 57, 58, 59, 60, 61, 62, 63, 64, 65, 66, 67, 68, 69, 70, 146, 147, 148, 149, 150, 151, 152, 128, 129, 130, 131, 132, 133, 134, 135, 136, 137, 138, 139, 140, 141, 142, 143, 144, 145, 153, 154, 155] rfl (by decide +kernel)
set_option maxRecDepth 20000 in
theorem gX6_lottery_X2_enterAll : GoodIn wsX6_lottery (wsV RX6 116 RX2 yX2_enterAll wsX2_enterAll) := goodIn_app (goodIn_of _ (by decide +kernel)) ggX6_lottery_X2_enterAll
set_option maxRecDepth 20000 in
theorem ggX6_lottery_X3_placesForLottery : GoodIn wsX6_lottery wsX3_placesForLottery := goodIn_r _ [74, 75, 76, 77, 78, 79, 7, 80, 81, 82, 83, 84, 85, 27, 28, 86, 87, 88, 89, 33, 90, 91, 30, 31, 32, 34, 35, 36, 128, 129, 130, 131, 132, 133, 134, 135, 136, 156, 157, 137, 138, 139, 140, 141, 142, 143, 144, 145] rfl (by decide +kernel)
set_option maxRecDepth 20000 in
theorem gX6_lottery_X3_placesForLottery : GoodIn wsX6_lottery (wsV RX6 120 RX3 yX3_placesForLottery wsX3_placesForLottery) := goodIn_app (goodIn_of _ (by decide +kernel)) ggX6_lottery_X3_placesForLottery
set_option maxRecDepth 20000 in
theorem ggX6_lottery_X2_hold : GoodIn wsX6_lottery wsX2_hold := goodIn_r _ [95, 43, 42, 96, 50, 97, 48, 98, 99, 40, 100, 101, 102, 103, 104, 105, 106, 146, 147, 148, 149, 150, 151, 152] rfl (by decide +kernel)
set_option maxRecDepth 20000 in
theorem gX6_lottery_X2_hold : GoodIn wsX6_lottery (wsV RX6 123 RX2 yX2_hold wsX2_hold) := goodIn_app (goodIn_of _ (by decide +kernel)) ggX6_lottery_X2_hold
set_option maxRecDepth 20000 in
theorem ggX6_lottery_X3_loseApplied : GoodIn wsX6_lottery wsX3_loseApplied := goodIn_r _ [110, 27, 28, 29, 30, 31, 32, 33, 34, 35, 36, 128, 129, 130, 131, 132, 133, 134, 135, 136, 137, 138, 139, 140, 141, 142, 143, 144, 145] rfl (by decide +kernel)
set_option maxRecDepth 20000 in
theorem gX6_lottery_X3_loseApplied : GoodIn wsX6_lottery (wsV RX6 126 RX3 yX3_loseApplied wsX3_loseApplied) := goodIn_app (goodIn_of _ (by decide +kernel)) ggX6_lottery_X3_loseApplied
set_option maxRecDepth 20000 in
theorem ggX6_lottery_X2_settle : GoodIn wsX6_lottery wsX2_settle := goodIn_r _ [114, 42, 45, 47, 97, 115, 116, 117, 118, 119, 120, 7, 121, 29, 69, 86, 122, 146, 147, 148, 149, 150, 151, 152, 128, 129, 130, 131, 132, 133, 134, 135, 136, 137, 138, 139, 140, 141, 142, 143, 144, 145, 153, 154, 155] rfl (by decide +kernel)
set_option maxRecDepth 20000 in
theorem gX6_lottery_X2_settle : GoodIn wsX6_lottery (wsV RX6 130 RX2 yX2_settle wsX2_settle) := goodIn_app (goodIn_of _ (by decide +kernel)) ggX6_lottery_X2_settle
theorem dX6_lottery_0 : decode cX6_lottery 0 = .ok (.aload_n 0, 1) := by decide +kernel
theorem dX6_lottery_1 : decode cX6_lottery 1 = .ok (.getfield 10, 3) := by decide +kernel
theorem dX6_lottery_4 : decode cX6_lottery 4 = .ok (.iload_n 1, 1) := by decide +kernel
theorem dX6_lottery_5 : decode cX6_lottery 5 = .ok (.iload_n 2, 1) := by decide +kernel
theorem dX6_lottery_6 : decode cX6_lottery 6 = .ok (.invokevirtual 85, 3) := by decide +kernel
theorem dX6_lottery_9 : decode cX6_lottery 9 = .ok (.ifCond .ne 5, 3) := by decide +kernel
theorem dX6_lottery_12 : decode cX6_lottery 12 = .ok (.iconst (-1), 1) := by decide +kernel
theorem dX6_lottery_13 : decode cX6_lottery 13 = .ok (.ireturn, 1) := by decide +kernel
theorem dX6_lottery_14 : decode cX6_lottery 14 = .ok (.aload_n 0, 1) := by decide +kernel
theorem dX6_lottery_15 : decode cX6_lottery 15 = .ok (.getfield 10, 3) := by decide +kernel
theorem dX6_lottery_18 : decode cX6_lottery 18 = .ok (.iload_n 2, 1) := by decide +kernel
theorem dX6_lottery_19 : decode cX6_lottery 19 = .ok (.invokevirtual 89, 3) := by decide +kernel
theorem dX6_lottery_22 : decode cX6_lottery 22 = .ok (.ifCond .eq 16, 3) := by decide +kernel
theorem dX6_lottery_25 : decode cX6_lottery 25 = .ok (.aload_n 0, 1) := by decide +kernel
theorem dX6_lottery_26 : decode cX6_lottery 26 = .ok (.getfield 10, 3) := by decide +kernel
theorem dX6_lottery_29 : decode cX6_lottery 29 = .ok (.iload_n 1, 1) := by decide +kernel
theorem dX6_lottery_30 : decode cX6_lottery 30 = .ok (.iload_n 2, 1) := by decide +kernel
theorem dX6_lottery_31 : decode cX6_lottery 31 = .ok (.iconst 0, 1) := by decide +kernel
theorem dX6_lottery_32 : decode cX6_lottery 32 = .ok (.invokevirtual 112, 3) := by decide +kernel
theorem dX6_lottery_35 : decode cX6_lottery 35 = .ok (.ifCond .ne 6, 3) := by decide +kernel
theorem dX6_lottery_38 : decode cX6_lottery 38 = .ok (.bipush (-5), 2) := by decide +kernel
theorem dX6_lottery_40 : decode cX6_lottery 40 = .ok (.ireturn, 1) := by decide +kernel
theorem dX6_lottery_41 : decode cX6_lottery 41 = .ok (.aload_n 0, 1) := by decide +kernel
theorem dX6_lottery_42 : decode cX6_lottery 42 = .ok (.getfield 27, 3) := by decide +kernel
theorem dX6_lottery_45 : decode cX6_lottery 45 = .ok (.aload_n 0, 1) := by decide +kernel
theorem dX6_lottery_46 : decode cX6_lottery 46 = .ok (.getfield 10, 3) := by decide +kernel
theorem dX6_lottery_49 : decode cX6_lottery 49 = .ok (.iload_n 1, 1) := by decide +kernel
theorem dX6_lottery_50 : decode cX6_lottery 50 = .ok (.iload_n 2, 1) := by decide +kernel
theorem dX6_lottery_51 : decode cX6_lottery 51 = .ok (.invokevirtual 116, 3) := by decide +kernel
theorem dX6_lottery_54 : decode cX6_lottery 54 = .ok (.aload_n 0, 1) := by decide +kernel
theorem dX6_lottery_55 : decode cX6_lottery 55 = .ok (.getfield 10, 3) := by decide +kernel
theorem dX6_lottery_58 : decode cX6_lottery 58 = .ok (.getfield 79, 3) := by decide +kernel
theorem dX6_lottery_61 : decode cX6_lottery 61 = .ok (.iconst 5, 1) := by decide +kernel
theorem dX6_lottery_62 : decode cX6_lottery 62 = .ok (.aload_n 0, 1) := by decide +kernel
theorem dX6_lottery_63 : decode cX6_lottery 63 = .ok (.getfield 27, 3) := by decide +kernel
theorem dX6_lottery_66 : decode cX6_lottery 66 = .ok (.aload_n 0, 1) := by decide +kernel
theorem dX6_lottery_67 : decode cX6_lottery 67 = .ok (.getfield 10, 3) := by decide +kernel
theorem dX6_lottery_70 : decode cX6_lottery 70 = .ok (.getfield 79, 3) := by decide +kernel
theorem dX6_lottery_73 : decode cX6_lottery 73 = .ok (.iconst 5, 1) := by decide +kernel
theorem dX6_lottery_74 : decode cX6_lottery 74 = .ok (.iaload, 1) := by decide +kernel
theorem dX6_lottery_75 : decode cX6_lottery 75 = .ok (.aload_n 0, 1) := by decide +kernel
theorem dX6_lottery_76 : decode cX6_lottery 76 = .ok (.getfield 10, 3) := by decide +kernel
theorem dX6_lottery_79 : decode cX6_lottery 79 = .ok (.iload_n 1, 1) := by decide +kernel
theorem dX6_lottery_80 : decode cX6_lottery 80 = .ok (.iload_n 2, 1) := by decide +kernel
theorem dX6_lottery_81 : decode cX6_lottery 81 = .ok (.invokevirtual 120, 3) := by decide +kernel
theorem dX6_lottery_84 : decode cX6_lottery 84 = .ok (.invokevirtual 123, 3) := by decide +kernel
theorem dX6_lottery_87 : decode cX6_lottery 87 = .ok (.iastore, 1) := by decide +kernel
theorem dX6_lottery_88 : decode cX6_lottery 88 = .ok (.aload_n 0, 1) := by decide +kernel
theorem dX6_lottery_89 : decode cX6_lottery 89 = .ok (.getfield 10, 3) := by decide +kernel
theorem dX6_lottery_92 : decode cX6_lottery 92 = .ok (.iload_n 1, 1) := by decide +kernel
theorem dX6_lottery_93 : decode cX6_lottery 93 = .ok (.iload_n 2, 1) := by decide +kernel
theorem dX6_lottery_94 : decode cX6_lottery 94 = .ok (.invokevirtual 126, 3) := by decide +kernel
theorem dX6_lottery_97 : decode cX6_lottery 97 = .ok (.aload_n 0, 1) := by decide +kernel
theorem dX6_lottery_98 : decode cX6_lottery 98 = .ok (.getfield 27, 3) := by decide +kernel
theorem dX6_lottery_101 : decode cX6_lottery 101 = .ok (.aload_n 0, 1) := by decide +kernel
theorem dX6_lottery_102 : decode cX6_lottery 102 = .ok (.getfield 10, 3) := by decide +kernel
theorem dX6_lottery_105 : decode cX6_lottery 105 = .ok (.invokevirtual 130, 3) := by decide +kernel
theorem dX6_lottery_108 : decode cX6_lottery 108 = .ok (.ireturn, 1) := by decide +kernel
set_option maxRecDepth 20000 in
theorem ggX6_cancel_X3_hasApplication : GoodIn wsX6_cancel wsX3_hasApplication := goodIn_r _ [11, 12, 93, 94, 95, 96, 97, 98, 99, 100, 101] rfl (by decide +kernel)
set_option maxRecDepth 20000 in
theorem gX6_cancel_X3_hasApplication : GoodIn wsX6_cancel (wsV RX6 134 RX3 yX3_hasApplication wsX3_hasApplication) := goodIn_app (goodIn_of _ (by decide +kernel)) ggX6_cancel_X3_hasApplication
set_option maxRecDepth 20000 in
theorem ggX6_cancel_X0_isAlive : GoodIn wsX6_cancel wsX0_isAlive := goodIn_r _ [17, 18, 102, 103, 104, 105, 106, 107, 108, 109, 110] rfl (by decide +kernel)
set_option maxRecDepth 20000 in
theorem gX6_cancel_X0_isAlive : GoodIn wsX6_cancel (wsV RX6 141 RX0 yX0_isAlive wsX0_isAlive) := goodIn_app (goodIn_of _ (by decide +kernel)) ggX6_cancel_X0_isAlive
set_option maxRecDepth 20000 in
theorem ggX6_cancel_X3_refundNow : GoodIn wsX6_cancel wsX3_refundNow := goodIn_r _ [22, 23, 24, 25, 102, 103, 104, 105, 106, 107, 108, 109, 110, 93, 94, 95, 96, 97, 98, 99, 100, 101] rfl (by decide +kernel)
set_option maxRecDepth 20000 in
theorem gX6_cancel_X3_refundNow : GoodIn wsX6_cancel (wsV RX6 150 RX3 yX3_refundNow wsX3_refundNow) := goodIn_app (goodIn_of _ (by decide +kernel)) ggX6_cancel_X3_refundNow
set_option maxRecDepth 20000 in
theorem ggX6_cancel_X3_serveWaiting : GoodIn wsX6_cancel wsX3_serveWaiting := goodIn_r _ [29, 12, 30, 31, 32, 33, 34, 35, 36, 10, 37, 24, 38, 39, 40, 41, 42, 43, 44, 45, 46, 47, 48, 49, 50, 51, 52, 53, 54, 55, 56, 57, 58, 59, 60, 16, 61, 18, 62, 63, 64, 65, 66, 67, 68, 69, 70, 71, 72, 73, 74, 75, 76, 23, 77, 78, 79, 80, 81, 82, 83, 84, 85, 86, 87, 25, 93, 94, 95, 96, 97, 98, 99, 100, 101, 102, 103, 104, 105, 106, 107, 108, 109, 110, 111, 112, 113, 114, 115] rfl (by decide +kernel)
set_option maxRecDepth 20000 in
theorem gX6_cancel_X3_serveWaiting : GoodIn wsX6_cancel (wsV RX6 163 RX3 yX3_serveWaiting wsX3_serveWaiting) := goodIn_app (goodIn_of _ (by decide +kernel)) ggX6_cancel_X3_serveWaiting
theorem dX6_cancel_0 : decode cX6_cancel 0 = .ok (.aload_n 0, 1) := by decide +kernel
theorem dX6_cancel_1 : decode cX6_cancel 1 = .ok (.getfield 10, 3) := by decide +kernel
theorem dX6_cancel_4 : decode cX6_cancel 4 = .ok (.iload_n 1, 1) := by decide +kernel
theorem dX6_cancel_5 : decode cX6_cancel 5 = .ok (.invokevirtual 134, 3) := by decide +kernel
theorem dX6_cancel_8 : decode cX6_cancel 8 = .ok (.ifCond .ne 5, 3) := by decide +kernel
theorem dX6_cancel_11 : decode cX6_cancel 11 = .ok (.iconst (-1), 1) := by decide +kernel
theorem dX6_cancel_12 : decode cX6_cancel 12 = .ok (.ireturn, 1) := by decide +kernel
theorem dX6_cancel_13 : decode cX6_cancel 13 = .ok (.aload_n 0, 1) := by decide +kernel
theorem dX6_cancel_14 : decode cX6_cancel 14 = .ok (.getfield 10, 3) := by decide +kernel
theorem dX6_cancel_17 : decode cX6_cancel 17 = .ok (.getfield 137, 3) := by decide +kernel
theorem dX6_cancel_20 : decode cX6_cancel 20 = .ok (.iload_n 1, 1) := by decide +kernel
theorem dX6_cancel_21 : decode cX6_cancel 21 = .ok (.aaload, 1) := by decide +kernel
theorem dX6_cancel_22 : decode cX6_cancel 22 = .ok (.astore_n 2, 1) := by decide +kernel
theorem dX6_cancel_23 : decode cX6_cancel 23 = .ok (.aload_n 2, 1) := by decide +kernel
theorem dX6_cancel_24 : decode cX6_cancel 24 = .ok (.invokevirtual 141, 3) := by decide +kernel
theorem dX6_cancel_27 : decode cX6_cancel 27 = .ok (.ifCond .ne 6, 3) := by decide +kernel
theorem dX6_cancel_30 : decode cX6_cancel 30 = .ok (.bipush (-5), 2) := by decide +kernel
theorem dX6_cancel_32 : decode cX6_cancel 32 = .ok (.ireturn, 1) := by decide +kernel
theorem dX6_cancel_33 : decode cX6_cancel 33 = .ok (.aload_n 2, 1) := by decide +kernel
theorem dX6_cancel_34 : decode cX6_cancel 34 = .ok (.getfield 147, 3) := by decide +kernel
theorem dX6_cancel_37 : decode cX6_cancel 37 = .ok (.iconst 1, 1) := by decide +kernel
theorem dX6_cancel_38 : decode cX6_cancel 38 = .ok (.if_icmp .ne 7, 3) := by decide +kernel
theorem dX6_cancel_41 : decode cX6_cancel 41 = .ok (.iconst 1, 1) := by decide +kernel
theorem dX6_cancel_42 : decode cX6_cancel 42 = .ok (.goto 4, 3) := by decide +kernel
theorem dX6_cancel_45 : decode cX6_cancel 45 = .ok (.iconst 0, 1) := by decide +kernel
theorem dX6_cancel_46 : decode cX6_cancel 46 = .ok (.istore_n 3, 1) := by decide +kernel
theorem dX6_cancel_47 : decode cX6_cancel 47 = .ok (.aload_n 2, 1) := by decide +kernel
theorem dX6_cancel_48 : decode cX6_cancel 48 = .ok (.iconst 3, 1) := by decide +kernel
theorem dX6_cancel_49 : decode cX6_cancel 49 = .ok (.putfield 147, 3) := by decide +kernel
theorem dX6_cancel_52 : decode cX6_cancel 52 = .ok (.iload_n 3, 1) := by decide +kernel
theorem dX6_cancel_53 : decode cX6_cancel 53 = .ok (.ifCond .eq 30, 3) := by decide +kernel
theorem dX6_cancel_56 : decode cX6_cancel 56 = .ok (.aload_n 2, 1) := by decide +kernel
theorem dX6_cancel_57 : decode cX6_cancel 57 = .ok (.aload_n 0, 1) := by decide +kernel
theorem dX6_cancel_58 : decode cX6_cancel 58 = .ok (.getfield 10, 3) := by decide +kernel
theorem dX6_cancel_61 : decode cX6_cancel 61 = .ok (.aload_n 2, 1) := by decide +kernel
theorem dX6_cancel_62 : decode cX6_cancel 62 = .ok (.invokevirtual 150, 3) := by decide +kernel
theorem dX6_cancel_65 : decode cX6_cancel 65 = .ok (.putfield 154, 3) := by decide +kernel
theorem dX6_cancel_68 : decode cX6_cancel 68 = .ok (.aload_n 0, 1) := by decide +kernel
theorem dX6_cancel_69 : decode cX6_cancel 69 = .ok (.getfield 10, 3) := by decide +kernel
theorem dX6_cancel_72 : decode cX6_cancel 72 = .ok (.aload_n 2, 1) := by decide +kernel
theorem dX6_cancel_73 : decode cX6_cancel 73 = .ok (.getfield 157, 3) := by decide +kernel
theorem dX6_cancel_76 : decode cX6_cancel 76 = .ok (.aload_n 2, 1) := by decide +kernel
theorem dX6_cancel_77 : decode cX6_cancel 77 = .ok (.getfield 160, 3) := by decide +kernel
theorem dX6_cancel_80 : decode cX6_cancel 80 = .ok (.invokevirtual 163, 3) := by decide +kernel
theorem dX6_cancel_83 : decode cX6_cancel 83 = .ok (.aload_n 2, 1) := by decide +kernel
theorem dX6_cancel_84 : decode cX6_cancel 84 = .ok (.getfield 154, 3) := by decide +kernel
theorem dX6_cancel_87 : decode cX6_cancel 87 = .ok (.ireturn, 1) := by decide +kernel
set_option maxRecDepth 20000 in
theorem ggX6_close_X6_isDay : GoodIn wsX6_close wsX6_isDay := goodIn_r _ [6] rfl (by decide +kernel)
set_option maxRecDepth 20000 in
theorem gX6_close_X6_isDay : GoodIn wsX6_close (va_wsS RX6 166 yX6_isDay wsX6_isDay) := goodIn_app (goodIn_of _ (by decide +kernel)) ggX6_close_X6_isDay
set_option maxRecDepth 20000 in
theorem ggX6_close_X3_isOpen : GoodIn wsX6_close wsX3_isOpen := goodIn_r _ [11, 12, 13, 4, 5, 6, 71, 72, 73, 74, 75, 76, 77, 78, 79] rfl (by decide +kernel)
set_option maxRecDepth 20000 in
theorem gX6_close_X3_isOpen : GoodIn wsX6_close (wsV RX6 89 RX3 yX3_isOpen wsX3_isOpen) := goodIn_app (goodIn_of _ (by decide +kernel)) ggX6_close_X3_isOpen
set_option maxRecDepth 20000 in
theorem ggX6_close_X3_movePermits : GoodIn wsX6_close wsX3_movePermits := goodIn_r _ [17, 18, 19, 20, 21, 22, 23, 24, 25, 26, 27, 28, 29, 30, 10, 31, 32, 33, 34, 35, 36, 37, 38, 39, 8, 9, 11, 12, 13, 4, 5, 6, 40, 41, 42, 43, 44, 45, 46, 47, 48, 49, 50, 51, 52, 53, 54, 55, 56, 57, 58, 59, 60, 61, 71, 72, 73, 74, 75, 76, 77, 78, 79, 80, 81, 82, 83, 84, 85, 86, 87, 88, 89, 90, 91, 92, 93] rfl (by decide +kernel)
set_option maxRecDepth 20000 in
theorem gX6_close_X3_movePermits : GoodIn wsX6_close (wsV RX6 172 RX3 yX3_movePermits wsX3_movePermits) := goodIn_app (goodIn_of _ (by decide +kernel)) ggX6_close_X3_movePermits
set_option maxRecDepth 20000 in
theorem ggX6_close_X3_loseApplied : GoodIn wsX6_close wsX3_loseApplied := goodIn_r _ [65, 18, 19, 20, 56, 57, 58, 53, 59, 60, 61, 71, 72, 73, 74, 75, 76, 77, 78, 79, 80, 81, 82, 83, 84, 85, 86, 87, 88] rfl (by decide +kernel)
set_option maxRecDepth 20000 in
theorem gX6_close_X3_loseApplied : GoodIn wsX6_close (wsV RX6 126 RX3 yX3_loseApplied wsX3_loseApplied) := goodIn_app (goodIn_of _ (by decide +kernel)) ggX6_close_X3_loseApplied
theorem dX6_close_0 : decode cX6_close 0 = .ok (.iload_n 1, 1) := by decide +kernel
theorem dX6_close_1 : decode cX6_close 1 = .ok (.invokestatic 166, 3) := by decide +kernel
theorem dX6_close_4 : decode cX6_close 4 = .ok (.ifCond .ne 5, 3) := by decide +kernel
theorem dX6_close_7 : decode cX6_close 7 = .ok (.iconst (-1), 1) := by decide +kernel
theorem dX6_close_8 : decode cX6_close 8 = .ok (.ireturn, 1) := by decide +kernel
theorem dX6_close_9 : decode cX6_close 9 = .ok (.aload_n 0, 1) := by decide +kernel
theorem dX6_close_10 : decode cX6_close 10 = .ok (.getfield 10, 3) := by decide +kernel
theorem dX6_close_13 : decode cX6_close 13 = .ok (.iload_n 1, 1) := by decide +kernel
theorem dX6_close_14 : decode cX6_close 14 = .ok (.invokevirtual 89, 3) := by decide +kernel
theorem dX6_close_17 : decode cX6_close 17 = .ok (.ifCond .ne 6, 3) := by decide +kernel
theorem dX6_close_20 : decode cX6_close 20 = .ok (.bipush (-5), 2) := by decide +kernel
theorem dX6_close_22 : decode cX6_close 22 = .ok (.ireturn, 1) := by decide +kernel
theorem dX6_close_23 : decode cX6_close 23 = .ok (.aload_n 0, 1) := by decide +kernel
theorem dX6_close_24 : decode cX6_close 24 = .ok (.getfield 10, 3) := by decide +kernel
theorem dX6_close_27 : decode cX6_close 27 = .ok (.getfield 169, 3) := by decide +kernel
theorem dX6_close_30 : decode cX6_close 30 = .ok (.iload_n 1, 1) := by decide +kernel
theorem dX6_close_31 : decode cX6_close 31 = .ok (.iconst 1, 1) := by decide +kernel
theorem dX6_close_32 : decode cX6_close 32 = .ok (.bastore, 1) := by decide +kernel
theorem dX6_close_33 : decode cX6_close 33 = .ok (.aload_n 0, 1) := by decide +kernel
theorem dX6_close_34 : decode cX6_close 34 = .ok (.getfield 10, 3) := by decide +kernel
theorem dX6_close_37 : decode cX6_close 37 = .ok (.iload_n 1, 1) := by decide +kernel
theorem dX6_close_38 : decode cX6_close 38 = .ok (.invokevirtual 172, 3) := by decide +kernel
theorem dX6_close_41 : decode cX6_close 41 = .ok (.istore_n 2, 1) := by decide +kernel
theorem dX6_close_42 : decode cX6_close 42 = .ok (.aload_n 0, 1) := by decide +kernel
theorem dX6_close_43 : decode cX6_close 43 = .ok (.getfield 10, 3) := by decide +kernel
theorem dX6_close_46 : decode cX6_close 46 = .ok (.iconst (-1), 1) := by decide +kernel
theorem dX6_close_47 : decode cX6_close 47 = .ok (.iload_n 1, 1) := by decide +kernel
theorem dX6_close_48 : decode cX6_close 48 = .ok (.invokevirtual 126, 3) := by decide +kernel
theorem dX6_close_51 : decode cX6_close 51 = .ok (.iload_n 2, 1) := by decide +kernel
theorem dX6_close_52 : decode cX6_close 52 = .ok (.ireturn, 1) := by decide +kernel
set_option maxRecDepth 20000 in
theorem ggX6_standby_X3_hasApplication : GoodIn wsX6_standby wsX3_hasApplication := goodIn_r _ [13, 14, 73, 74, 75, 76, 77, 78, 79, 80, 81] rfl (by decide +kernel)
set_option maxRecDepth 20000 in
theorem gX6_standby_X3_hasApplication : GoodIn wsX6_standby (wsV RX6 134 RX3 yX3_hasApplication wsX3_hasApplication) := goodIn_app (goodIn_of _ (by decide +kernel)) ggX6_standby_X3_hasApplication
set_option maxRecDepth 20000 in
theorem ggX6_standby_X3_isOpen : GoodIn wsX6_standby wsX3_isOpen := goodIn_r _ [18, 19, 20, 21, 22, 23, 73, 74, 75, 76, 77, 78, 79, 80, 81] rfl (by decide +kernel)
set_option maxRecDepth 20000 in
theorem gX6_standby_X3_isOpen : GoodIn wsX6_standby (wsV RX6 89 RX3 yX3_isOpen wsX3_isOpen) := goodIn_app (goodIn_of _ (by decide +kernel)) ggX6_standby_X3_isOpen
set_option maxRecDepth 20000 in
theorem ggX6_standby_X3_isBarred : GoodIn wsX6_standby wsX3_isBarred := goodIn_r _ [27, 28, 29, 30, 31, 32, 33, 34, 35, 36, 73, 74, 75, 76, 77, 78, 79, 80, 81, 82, 83, 84, 85, 86, 87, 88, 89, 90, 91, 92, 93] rfl (by decide +kernel)
set_option maxRecDepth 20000 in
theorem gX6_standby_X3_isBarred : GoodIn wsX6_standby (wsV RX6 179 RX3 yX3_isBarred wsX3_isBarred) := goodIn_app (goodIn_of _ (by decide +kernel)) ggX6_standby_X3_isBarred
set_option maxRecDepth 20000 in
theorem ggX6_standby_X3_placesFree : GoodIn wsX6_standby wsX3_placesFree := goodIn_r _ [40, 41, 42, 43, 44, 45, 12, 46, 14, 47, 48, 49, 50, 51, 52, 53, 54, 55, 56, 57, 58, 59, 60, 73, 74, 75, 76, 77, 78, 79, 80, 81, 94, 95, 82, 83, 84, 85, 86, 87, 88, 89, 90] rfl (by decide +kernel)
set_option maxRecDepth 20000 in
theorem gX6_standby_X3_placesFree : GoodIn wsX6_standby (wsV RX6 186 RX3 yX3_placesFree wsX3_placesFree) := goodIn_app (goodIn_of _ (by decide +kernel)) ggX6_standby_X3_placesFree
set_option maxRecDepth 20000 in
theorem ggX6_standby_X3_givePermit : GoodIn wsX6_standby wsX3_givePermit := goodIn_r _ [64, 65, 66, 48, 67, 82, 83, 84, 85, 86, 87, 88, 89, 90, 73, 74, 75, 76, 77, 78, 79, 80, 81] rfl (by decide +kernel)
set_option maxRecDepth 20000 in
theorem gX6_standby_X3_givePermit : GoodIn wsX6_standby (wsV RX6 189 RX3 yX3_givePermit wsX3_givePermit) := goodIn_app (goodIn_of _ (by decide +kernel)) ggX6_standby_X3_givePermit
theorem dX6_standby_0 : decode cX6_standby 0 = .ok (.aload_n 0, 1) := by decide +kernel
theorem dX6_standby_1 : decode cX6_standby 1 = .ok (.getfield 10, 3) := by decide +kernel
theorem dX6_standby_4 : decode cX6_standby 4 = .ok (.iload_n 1, 1) := by decide +kernel
theorem dX6_standby_5 : decode cX6_standby 5 = .ok (.invokevirtual 134, 3) := by decide +kernel
theorem dX6_standby_8 : decode cX6_standby 8 = .ok (.ifCond .ne 5, 3) := by decide +kernel
theorem dX6_standby_11 : decode cX6_standby 11 = .ok (.iconst (-1), 1) := by decide +kernel
theorem dX6_standby_12 : decode cX6_standby 12 = .ok (.ireturn, 1) := by decide +kernel
theorem dX6_standby_13 : decode cX6_standby 13 = .ok (.aload_n 0, 1) := by decide +kernel
theorem dX6_standby_14 : decode cX6_standby 14 = .ok (.getfield 10, 3) := by decide +kernel
theorem dX6_standby_17 : decode cX6_standby 17 = .ok (.getfield 137, 3) := by decide +kernel
theorem dX6_standby_20 : decode cX6_standby 20 = .ok (.iload_n 1, 1) := by decide +kernel
theorem dX6_standby_21 : decode cX6_standby 21 = .ok (.aaload, 1) := by decide +kernel
theorem dX6_standby_22 : decode cX6_standby 22 = .ok (.astore_n 2, 1) := by decide +kernel
theorem dX6_standby_23 : decode cX6_standby 23 = .ok (.aload_n 2, 1) := by decide +kernel
theorem dX6_standby_24 : decode cX6_standby 24 = .ok (.getfield 147, 3) := by decide +kernel
theorem dX6_standby_27 : decode cX6_standby 27 = .ok (.iconst 2, 1) := by decide +kernel
theorem dX6_standby_28 : decode cX6_standby 28 = .ok (.if_icmp .ne 64, 3) := by decide +kernel
theorem dX6_standby_31 : decode cX6_standby 31 = .ok (.aload_n 2, 1) := by decide +kernel
theorem dX6_standby_32 : decode cX6_standby 32 = .ok (.getfield 160, 3) := by decide +kernel
theorem dX6_standby_35 : decode cX6_standby 35 = .ok (.aload_n 0, 1) := by decide +kernel
theorem dX6_standby_36 : decode cX6_standby 36 = .ok (.getfield 10, 3) := by decide +kernel
theorem dX6_standby_39 : decode cX6_standby 39 = .ok (.getfield 176, 3) := by decide +kernel
theorem dX6_standby_42 : decode cX6_standby 42 = .ok (.if_icmp .ne 50, 3) := by decide +kernel
theorem dX6_standby_45 : decode cX6_standby 45 = .ok (.aload_n 0, 1) := by decide +kernel
theorem dX6_standby_46 : decode cX6_standby 46 = .ok (.getfield 10, 3) := by decide +kernel
theorem dX6_standby_49 : decode cX6_standby 49 = .ok (.aload_n 2, 1) := by decide +kernel
theorem dX6_standby_50 : decode cX6_standby 50 = .ok (.getfield 160, 3) := by decide +kernel
theorem dX6_standby_53 : decode cX6_standby 53 = .ok (.invokevirtual 89, 3) := by decide +kernel
theorem dX6_standby_56 : decode cX6_standby 56 = .ok (.ifCond .eq 36, 3) := by decide +kernel
theorem dX6_standby_59 : decode cX6_standby 59 = .ok (.aload_n 0, 1) := by decide +kernel
theorem dX6_standby_60 : decode cX6_standby 60 = .ok (.getfield 10, 3) := by decide +kernel
theorem dX6_standby_63 : decode cX6_standby 63 = .ok (.aload_n 2, 1) := by decide +kernel
theorem dX6_standby_64 : decode cX6_standby 64 = .ok (.invokevirtual 179, 3) := by decide +kernel
theorem dX6_standby_67 : decode cX6_standby 67 = .ok (.ifCond .ne 25, 3) := by decide +kernel
theorem dX6_standby_70 : decode cX6_standby 70 = .ok (.aload_n 2, 1) := by decide +kernel
theorem dX6_standby_71 : decode cX6_standby 71 = .ok (.getfield 183, 3) := by decide +kernel
theorem dX6_standby_74 : decode cX6_standby 74 = .ok (.aload_n 0, 1) := by decide +kernel
theorem dX6_standby_75 : decode cX6_standby 75 = .ok (.getfield 10, 3) := by decide +kernel
theorem dX6_standby_78 : decode cX6_standby 78 = .ok (.aload_n 2, 1) := by decide +kernel
theorem dX6_standby_79 : decode cX6_standby 79 = .ok (.getfield 157, 3) := by decide +kernel
theorem dX6_standby_82 : decode cX6_standby 82 = .ok (.aload_n 2, 1) := by decide +kernel
theorem dX6_standby_83 : decode cX6_standby 83 = .ok (.getfield 160, 3) := by decide +kernel
theorem dX6_standby_86 : decode cX6_standby 86 = .ok (.invokevirtual 186, 3) := by decide +kernel
theorem dX6_standby_89 : decode cX6_standby 89 = .ok (.if_icmp .le 6, 3) := by decide +kernel
theorem dX6_standby_92 : decode cX6_standby 92 = .ok (.bipush (-5), 2) := by decide +kernel
theorem dX6_standby_94 : decode cX6_standby 94 = .ok (.ireturn, 1) := by decide +kernel
theorem dX6_standby_95 : decode cX6_standby 95 = .ok (.aload_n 0, 1) := by decide +kernel
theorem dX6_standby_96 : decode cX6_standby 96 = .ok (.getfield 10, 3) := by decide +kernel
theorem dX6_standby_99 : decode cX6_standby 99 = .ok (.aload_n 2, 1) := by decide +kernel
theorem dX6_standby_100 : decode cX6_standby 100 = .ok (.invokevirtual 189, 3) := by decide +kernel
theorem dX6_standby_103 : decode cX6_standby 103 = .ok (.aload_n 2, 1) := by decide +kernel
theorem dX6_standby_104 : decode cX6_standby 104 = .ok (.getfield 193, 3) := by decide +kernel
theorem dX6_standby_107 : decode cX6_standby 107 = .ok (.ireturn, 1) := by decide +kernel
set_option maxRecDepth 20000 in
theorem ggX6_show_X3_hasApplication : GoodIn wsX6_show wsX3_hasApplication := goodIn_r _ [11, 12, 18, 19, 20, 21, 22, 23, 24, 25, 26] rfl (by decide +kernel)
set_option maxRecDepth 20000 in
theorem gX6_show_X3_hasApplication : GoodIn wsX6_show (wsV RX6 134 RX3 yX3_hasApplication wsX3_hasApplication) := goodIn_app (goodIn_of _ (by decide +kernel)) ggX6_show_X3_hasApplication
theorem dX6_show_0 : decode cX6_show 0 = .ok (.aload_n 0, 1) := by decide +kernel
theorem dX6_show_1 : decode cX6_show 1 = .ok (.getfield 10, 3) := by decide +kernel
theorem dX6_show_4 : decode cX6_show 4 = .ok (.iload_n 1, 1) := by decide +kernel
theorem dX6_show_5 : decode cX6_show 5 = .ok (.invokevirtual 134, 3) := by decide +kernel
theorem dX6_show_8 : decode cX6_show 8 = .ok (.ifCond .ne 5, 3) := by decide +kernel
theorem dX6_show_11 : decode cX6_show 11 = .ok (.iconst (-1), 1) := by decide +kernel
theorem dX6_show_12 : decode cX6_show 12 = .ok (.ireturn, 1) := by decide +kernel
theorem dX6_show_13 : decode cX6_show 13 = .ok (.aload_n 0, 1) := by decide +kernel
theorem dX6_show_14 : decode cX6_show 14 = .ok (.getfield 10, 3) := by decide +kernel
theorem dX6_show_17 : decode cX6_show 17 = .ok (.getfield 137, 3) := by decide +kernel
theorem dX6_show_20 : decode cX6_show 20 = .ok (.iload_n 1, 1) := by decide +kernel
theorem dX6_show_21 : decode cX6_show 21 = .ok (.aaload, 1) := by decide +kernel
theorem dX6_show_22 : decode cX6_show 22 = .ok (.astore_n 2, 1) := by decide +kernel
theorem dX6_show_23 : decode cX6_show 23 = .ok (.aload_n 2, 1) := by decide +kernel
theorem dX6_show_24 : decode cX6_show 24 = .ok (.getfield 147, 3) := by decide +kernel
theorem dX6_show_27 : decode cX6_show 27 = .ok (.iconst 1, 1) := by decide +kernel
theorem dX6_show_28 : decode cX6_show 28 = .ok (.if_icmp .ne 24, 3) := by decide +kernel
theorem dX6_show_31 : decode cX6_show 31 = .ok (.aload_n 2, 1) := by decide +kernel
theorem dX6_show_32 : decode cX6_show 32 = .ok (.getfield 160, 3) := by decide +kernel
theorem dX6_show_35 : decode cX6_show 35 = .ok (.aload_n 0, 1) := by decide +kernel
theorem dX6_show_36 : decode cX6_show 36 = .ok (.getfield 10, 3) := by decide +kernel
theorem dX6_show_39 : decode cX6_show 39 = .ok (.getfield 176, 3) := by decide +kernel
theorem dX6_show_42 : decode cX6_show 42 = .ok (.if_icmp .ne 10, 3) := by decide +kernel
theorem dX6_show_45 : decode cX6_show 45 = .ok (.aload_n 2, 1) := by decide +kernel
theorem dX6_show_46 : decode cX6_show 46 = .ok (.getfield 196, 3) := by decide +kernel
theorem dX6_show_49 : decode cX6_show 49 = .ok (.ifCond .eq 6, 3) := by decide +kernel
theorem dX6_show_52 : decode cX6_show 52 = .ok (.bipush (-5), 2) := by decide +kernel
theorem dX6_show_54 : decode cX6_show 54 = .ok (.ireturn, 1) := by decide +kernel
theorem dX6_show_55 : decode cX6_show 55 = .ok (.aload_n 2, 1) := by decide +kernel
theorem dX6_show_56 : decode cX6_show 56 = .ok (.iconst 1, 1) := by decide +kernel
theorem dX6_show_57 : decode cX6_show 57 = .ok (.putfield 196, 3) := by decide +kernel
theorem dX6_show_60 : decode cX6_show 60 = .ok (.iconst 1, 1) := by decide +kernel
theorem dX6_show_61 : decode cX6_show 61 = .ok (.ireturn, 1) := by decide +kernel
set_option maxRecDepth 20000 in
theorem ggX6_end_X3_judgePermits : GoodIn wsX6_end wsX3_judgePermits := goodIn_r _ [7, 8, 9, 10, 11, 12, 13, 14, 15, 16, 17, 18, 19, 20, 21, 22, 23, 24, 25, 26, 27, 44, 45, 46, 47, 48, 49, 50, 51, 52, 53, 54, 55, 56, 57, 58, 59, 60, 61, 62, 63, 64] rfl (by decide +kernel)
set_option maxRecDepth 20000 in
theorem gX6_end_X3_judgePermits : GoodIn wsX6_end (wsV RX6 200 RX3 yX3_judgePermits wsX3_judgePermits) := goodIn_app (goodIn_of _ (by decide +kernel)) ggX6_end_X3_judgePermits
set_option maxRecDepth 20000 in
theorem ggX6_end_X3_loseApplied : GoodIn wsX6_end wsX3_loseApplied := goodIn_r _ [31, 8, 9, 10, 32, 33, 34, 35, 36, 37, 38, 44, 45, 46, 47, 48, 49, 50, 51, 52, 53, 54, 55, 56, 57, 58, 59, 60, 61] rfl (by decide +kernel)
set_option maxRecDepth 20000 in
theorem gX6_end_X3_loseApplied : GoodIn wsX6_end (wsV RX6 126 RX3 yX3_loseApplied wsX3_loseApplied) := goodIn_app (goodIn_of _ (by decide +kernel)) ggX6_end_X3_loseApplied
theorem dX6_end_0 : decode cX6_end 0 = .ok (.aload_n 0, 1) := by decide +kernel
theorem dX6_end_1 : decode cX6_end 1 = .ok (.getfield 10, 3) := by decide +kernel
theorem dX6_end_4 : decode cX6_end 4 = .ok (.getfield 176, 3) := by decide +kernel
theorem dX6_end_7 : decode cX6_end 7 = .ok (.bipush 59, 2) := by decide +kernel
theorem dX6_end_9 : decode cX6_end 9 = .ok (.if_icmp .lt 6, 3) := by decide +kernel
theorem dX6_end_12 : decode cX6_end 12 = .ok (.bipush (-5), 2) := by decide +kernel
theorem dX6_end_14 : decode cX6_end 14 = .ok (.ireturn, 1) := by decide +kernel
theorem dX6_end_15 : decode cX6_end 15 = .ok (.aload_n 0, 1) := by decide +kernel
theorem dX6_end_16 : decode cX6_end 16 = .ok (.getfield 10, 3) := by decide +kernel
theorem dX6_end_19 : decode cX6_end 19 = .ok (.invokevirtual 200, 3) := by decide +kernel
theorem dX6_end_22 : decode cX6_end 22 = .ok (.istore_n 1, 1) := by decide +kernel
theorem dX6_end_23 : decode cX6_end 23 = .ok (.aload_n 0, 1) := by decide +kernel
theorem dX6_end_24 : decode cX6_end 24 = .ok (.getfield 10, 3) := by decide +kernel
theorem dX6_end_27 : decode cX6_end 27 = .ok (.iconst (-1), 1) := by decide +kernel
theorem dX6_end_28 : decode cX6_end 28 = .ok (.aload_n 0, 1) := by decide +kernel
theorem dX6_end_29 : decode cX6_end 29 = .ok (.getfield 10, 3) := by decide +kernel
theorem dX6_end_32 : decode cX6_end 32 = .ok (.getfield 176, 3) := by decide +kernel
theorem dX6_end_35 : decode cX6_end 35 = .ok (.invokevirtual 126, 3) := by decide +kernel
theorem dX6_end_38 : decode cX6_end 38 = .ok (.aload_n 0, 1) := by decide +kernel
theorem dX6_end_39 : decode cX6_end 39 = .ok (.getfield 10, 3) := by decide +kernel
theorem dX6_end_42 : decode cX6_end 42 = .ok (.dup, 1) := by decide +kernel
theorem dX6_end_43 : decode cX6_end 43 = .ok (.getfield 176, 3) := by decide +kernel
theorem dX6_end_46 : decode cX6_end 46 = .ok (.iconst 1, 1) := by decide +kernel
theorem dX6_end_47 : decode cX6_end 47 = .ok (.iadd, 1) := by decide +kernel
theorem dX6_end_48 : decode cX6_end 48 = .ok (.putfield 176, 3) := by decide +kernel
theorem dX6_end_51 : decode cX6_end 51 = .ok (.iload_n 1, 1) := by decide +kernel
theorem dX6_end_52 : decode cX6_end 52 = .ok (.ireturn, 1) := by decide +kernel
set_option maxRecDepth 20000 in
theorem ggX6_onRoute_X3_hasRouteAndDay : GoodIn wsX6_onRoute wsX3_hasRouteAndDay := goodIn_r _ [13, 14, 15, 16, 12, 17, 18, 19, 20, 21, 63, 64, 65, 66, 67, 68, 69, 70, 71] rfl (by decide +kernel)
set_option maxRecDepth 20000 in
theorem gX6_onRoute_X3_hasRouteAndDay : GoodIn wsX6_onRoute (wsV RX6 85 RX3 yX3_hasRouteAndDay wsX3_hasRouteAndDay) := goodIn_app (goodIn_of _ (by decide +kernel)) ggX6_onRoute_X3_hasRouteAndDay
set_option maxRecDepth 20000 in
theorem ggX6_onRoute_X3_placesTaken : GoodIn wsX6_onRoute wsX3_placesTaken := goodIn_r _ [25, 26, 27, 28, 29, 30, 31, 32, 33, 34, 35, 36, 37, 38, 39, 40, 63, 64, 65, 66, 67, 68, 69, 70, 71, 74, 75, 76, 77, 78, 79, 80, 81, 82] rfl (by decide +kernel)
set_option maxRecDepth 20000 in
theorem gX6_onRoute_X3_placesTaken : GoodIn wsX6_onRoute (wsV RX6 203 RX3 yX3_placesTaken wsX3_placesTaken) := goodIn_app (goodIn_of _ (by decide +kernel)) ggX6_onRoute_X3_placesTaken
set_option maxRecDepth 20000 in
theorem ggX6_onRoute_X3_placesForLottery : GoodIn wsX6_onRoute wsX3_placesForLottery := goodIn_r _ [44, 45, 46, 47, 48, 49, 12, 50, 51, 52, 23, 24, 25, 26, 27, 28, 29, 30, 31, 32, 33, 34, 35, 36, 37, 38, 39, 40, 63, 64, 65, 66, 67, 68, 69, 70, 71, 72, 73, 74, 75, 76, 77, 78, 79, 80, 81, 82] rfl (by decide +kernel)
set_option maxRecDepth 20000 in
theorem gX6_onRoute_X3_placesForLottery : GoodIn wsX6_onRoute (wsV RX6 120 RX3 yX3_placesForLottery wsX3_placesForLottery) := goodIn_app (goodIn_of _ (by decide +kernel)) ggX6_onRoute_X3_placesForLottery
set_option maxRecDepth 20000 in
theorem ggX6_onRoute_X3_countOf : GoodIn wsX6_onRoute wsX3_countOf := goodIn_r _ [56, 26, 27, 57, 35, 36, 37, 32, 38, 39, 40, 63, 64, 65, 66, 67, 68, 69, 70, 71, 74, 75, 76, 77, 78, 79, 80, 81, 82] rfl (by decide +kernel)
set_option maxRecDepth 20000 in
theorem gX6_onRoute_X3_countOf : GoodIn wsX6_onRoute (wsV RX6 112 RX3 yX3_countOf wsX3_countOf) := goodIn_app (goodIn_of _ (by decide +kernel)) ggX6_onRoute_X3_countOf
theorem dX6_onRoute_0 : decode cX6_onRoute 0 = .ok (.aload_n 0, 1) := by decide +kernel
theorem dX6_onRoute_1 : decode cX6_onRoute 1 = .ok (.getfield 10, 3) := by decide +kernel
theorem dX6_onRoute_4 : decode cX6_onRoute 4 = .ok (.iload_n 1, 1) := by decide +kernel
theorem dX6_onRoute_5 : decode cX6_onRoute 5 = .ok (.iload_n 2, 1) := by decide +kernel
theorem dX6_onRoute_6 : decode cX6_onRoute 6 = .ok (.invokevirtual 85, 3) := by decide +kernel
theorem dX6_onRoute_9 : decode cX6_onRoute 9 = .ok (.ifCond .ne 5, 3) := by decide +kernel
theorem dX6_onRoute_12 : decode cX6_onRoute 12 = .ok (.iconst (-1), 1) := by decide +kernel
theorem dX6_onRoute_13 : decode cX6_onRoute 13 = .ok (.ireturn, 1) := by decide +kernel
theorem dX6_onRoute_14 : decode cX6_onRoute 14 = .ok (.iload_n 3, 1) := by decide +kernel
theorem dX6_onRoute_15 : decode cX6_onRoute 15 = .ok (.tableswitch 109 0 5 #[37, 50, 63, 73, 87, 98], 37) := by decide +kernel
theorem dX6_onRoute_52 : decode cX6_onRoute 52 = .ok (.aload_n 0, 1) := by decide +kernel
theorem dX6_onRoute_53 : decode cX6_onRoute 53 = .ok (.getfield 10, 3) := by decide +kernel
theorem dX6_onRoute_56 : decode cX6_onRoute 56 = .ok (.getfield 50, 3) := by decide +kernel
theorem dX6_onRoute_59 : decode cX6_onRoute 59 = .ok (.iload_n 1, 1) := by decide +kernel
theorem dX6_onRoute_60 : decode cX6_onRoute 60 = .ok (.aaload, 1) := by decide +kernel
theorem dX6_onRoute_61 : decode cX6_onRoute 61 = .ok (.getfield 54, 3) := by decide +kernel
theorem dX6_onRoute_64 : decode cX6_onRoute 64 = .ok (.ireturn, 1) := by decide +kernel
theorem dX6_onRoute_65 : decode cX6_onRoute 65 = .ok (.aload_n 0, 1) := by decide +kernel
theorem dX6_onRoute_66 : decode cX6_onRoute 66 = .ok (.getfield 10, 3) := by decide +kernel
theorem dX6_onRoute_69 : decode cX6_onRoute 69 = .ok (.getfield 50, 3) := by decide +kernel
theorem dX6_onRoute_72 : decode cX6_onRoute 72 = .ok (.iload_n 1, 1) := by decide +kernel
theorem dX6_onRoute_73 : decode cX6_onRoute 73 = .ok (.aaload, 1) := by decide +kernel
theorem dX6_onRoute_74 : decode cX6_onRoute 74 = .ok (.getfield 59, 3) := by decide +kernel
theorem dX6_onRoute_77 : decode cX6_onRoute 77 = .ok (.ireturn, 1) := by decide +kernel
theorem dX6_onRoute_78 : decode cX6_onRoute 78 = .ok (.aload_n 0, 1) := by decide +kernel
theorem dX6_onRoute_79 : decode cX6_onRoute 79 = .ok (.getfield 10, 3) := by decide +kernel
theorem dX6_onRoute_82 : decode cX6_onRoute 82 = .ok (.iload_n 1, 1) := by decide +kernel
theorem dX6_onRoute_83 : decode cX6_onRoute 83 = .ok (.iload_n 2, 1) := by decide +kernel
theorem dX6_onRoute_84 : decode cX6_onRoute 84 = .ok (.invokevirtual 203, 3) := by decide +kernel
theorem dX6_onRoute_87 : decode cX6_onRoute 87 = .ok (.ireturn, 1) := by decide +kernel
theorem dX6_onRoute_88 : decode cX6_onRoute 88 = .ok (.iconst 0, 1) := by decide +kernel
theorem dX6_onRoute_89 : decode cX6_onRoute 89 = .ok (.aload_n 0, 1) := by decide +kernel
theorem dX6_onRoute_90 : decode cX6_onRoute 90 = .ok (.getfield 10, 3) := by decide +kernel
theorem dX6_onRoute_93 : decode cX6_onRoute 93 = .ok (.iload_n 1, 1) := by decide +kernel
theorem dX6_onRoute_94 : decode cX6_onRoute 94 = .ok (.iload_n 2, 1) := by decide +kernel
theorem dX6_onRoute_95 : decode cX6_onRoute 95 = .ok (.invokevirtual 120, 3) := by decide +kernel
theorem dX6_onRoute_98 : decode cX6_onRoute 98 = .ok (.invokestatic 206, 3) := by decide +kernel
theorem dX6_onRoute_101 : decode cX6_onRoute 101 = .ok (.ireturn, 1) := by decide +kernel
theorem dX6_onRoute_102 : decode cX6_onRoute 102 = .ok (.aload_n 0, 1) := by decide +kernel
theorem dX6_onRoute_103 : decode cX6_onRoute 103 = .ok (.getfield 10, 3) := by decide +kernel
theorem dX6_onRoute_106 : decode cX6_onRoute 106 = .ok (.iload_n 1, 1) := by decide +kernel
theorem dX6_onRoute_107 : decode cX6_onRoute 107 = .ok (.iload_n 2, 1) := by decide +kernel
theorem dX6_onRoute_108 : decode cX6_onRoute 108 = .ok (.iconst 0, 1) := by decide +kernel
theorem dX6_onRoute_109 : decode cX6_onRoute 109 = .ok (.invokevirtual 112, 3) := by decide +kernel
theorem dX6_onRoute_112 : decode cX6_onRoute 112 = .ok (.ireturn, 1) := by decide +kernel
theorem dX6_onRoute_113 : decode cX6_onRoute 113 = .ok (.aload_n 0, 1) := by decide +kernel
theorem dX6_onRoute_114 : decode cX6_onRoute 114 = .ok (.getfield 10, 3) := by decide +kernel
theorem dX6_onRoute_117 : decode cX6_onRoute 117 = .ok (.iload_n 1, 1) := by decide +kernel
theorem dX6_onRoute_118 : decode cX6_onRoute 118 = .ok (.iload_n 2, 1) := by decide +kernel
theorem dX6_onRoute_119 : decode cX6_onRoute 119 = .ok (.iconst 2, 1) := by decide +kernel
theorem dX6_onRoute_120 : decode cX6_onRoute 120 = .ok (.invokevirtual 112, 3) := by decide +kernel
theorem dX6_onRoute_123 : decode cX6_onRoute 123 = .ok (.ireturn, 1) := by decide +kernel
theorem dX6_onRoute_124 : decode cX6_onRoute 124 = .ok (.bipush (-2), 2) := by decide +kernel
theorem dX6_onRoute_126 : decode cX6_onRoute 126 = .ok (.ireturn, 1) := by decide +kernel
set_option maxRecDepth 20000 in
theorem ggX6_climber_X3_hasClimber : GoodIn wsX6_climber wsX3_hasClimber := goodIn_r _ [10, 11, 44, 45, 46, 47, 48, 49, 50, 51, 52] rfl (by decide +kernel)
set_option maxRecDepth 20000 in
theorem gX6_climber_X3_hasClimber : GoodIn wsX6_climber (wsV RX6 82 RX3 yX3_hasClimber wsX3_hasClimber) := goodIn_app (goodIn_of _ (by decide +kernel)) ggX6_climber_X3_hasClimber
set_option maxRecDepth 20000 in
theorem ggX6_climber_X3_countIn : GoodIn wsX6_climber wsX3_countIn := goodIn_r _ [15, 16, 17, 18, 19, 20, 21, 22, 23, 24, 44, 45, 46, 47, 48, 49, 50, 51, 52, 56, 57, 58, 59, 60, 61, 62, 63, 64] rfl (by decide +kernel)
set_option maxRecDepth 20000 in
theorem gX6_climber_X3_countIn : GoodIn wsX6_climber (wsV RX6 220 RX3 yX3_countIn wsX3_countIn) := goodIn_app (goodIn_of _ (by decide +kernel)) ggX6_climber_X3_countIn
set_option maxRecDepth 20000 in
theorem ggX6_climber_X3_paidBy : GoodIn wsX6_climber wsX3_paidBy := goodIn_r _ [28, 16, 17, 29, 19, 20, 21, 22, 23, 24, 44, 45, 46, 47, 48, 49, 50, 51, 52, 56, 57, 58, 59, 60, 61, 62, 63, 64] rfl (by decide +kernel)
set_option maxRecDepth 20000 in
theorem gX6_climber_X3_paidBy : GoodIn wsX6_climber (wsV RX6 223 RX3 yX3_paidBy wsX3_paidBy) := goodIn_app (goodIn_of _ (by decide +kernel)) ggX6_climber_X3_paidBy
set_option maxRecDepth 20000 in
theorem ggX6_climber_X3_refundedTo : GoodIn wsX6_climber wsX3_refundedTo := goodIn_r _ [33, 16, 17, 34, 19, 20, 21, 22, 23, 24, 44, 45, 46, 47, 48, 49, 50, 51, 52, 56, 57, 58, 59, 60, 61, 62, 63, 64] rfl (by decide +kernel)
set_option maxRecDepth 20000 in
theorem gX6_climber_X3_refundedTo : GoodIn wsX6_climber (wsV RX6 226 RX3 yX3_refundedTo wsX3_refundedTo) := goodIn_app (goodIn_of _ (by decide +kernel)) ggX6_climber_X3_refundedTo
set_option maxRecDepth 20000 in
theorem ggX6_climber_X3_countBy : GoodIn wsX6_climber wsX3_countBy := goodIn_r _ [38, 16, 17, 19, 20, 21, 22, 23, 24, 44, 45, 46, 47, 48, 49, 50, 51, 52, 56, 57, 58, 59, 60, 61, 62, 63, 64] rfl (by decide +kernel)
set_option maxRecDepth 20000 in
theorem gX6_climber_X3_countBy : GoodIn wsX6_climber (wsV RX6 229 RX3 yX3_countBy wsX3_countBy) := goodIn_app (goodIn_of _ (by decide +kernel)) ggX6_climber_X3_countBy
theorem dX6_climber_0 : decode cX6_climber 0 = .ok (.aload_n 0, 1) := by decide +kernel
theorem dX6_climber_1 : decode cX6_climber 1 = .ok (.getfield 10, 3) := by decide +kernel
theorem dX6_climber_4 : decode cX6_climber 4 = .ok (.iload_n 1, 1) := by decide +kernel
theorem dX6_climber_5 : decode cX6_climber 5 = .ok (.invokevirtual 82, 3) := by decide +kernel
theorem dX6_climber_8 : decode cX6_climber 8 = .ok (.ifCond .ne 5, 3) := by decide +kernel
theorem dX6_climber_11 : decode cX6_climber 11 = .ok (.iconst (-1), 1) := by decide +kernel
theorem dX6_climber_12 : decode cX6_climber 12 = .ok (.ireturn, 1) := by decide +kernel
theorem dX6_climber_13 : decode cX6_climber 13 = .ok (.iload_n 2, 1) := by decide +kernel
theorem dX6_climber_14 : decode cX6_climber 14 = .ok (.tableswitch 118 0 6 #[42, 55, 68, 81, 91, 100, 109], 42) := by decide +kernel
theorem dX6_climber_56 : decode cX6_climber 56 = .ok (.aload_n 0, 1) := by decide +kernel
theorem dX6_climber_57 : decode cX6_climber 57 = .ok (.getfield 10, 3) := by decide +kernel
theorem dX6_climber_60 : decode cX6_climber 60 = .ok (.getfield 96, 3) := by decide +kernel
theorem dX6_climber_63 : decode cX6_climber 63 = .ok (.iload_n 1, 1) := by decide +kernel
theorem dX6_climber_64 : decode cX6_climber 64 = .ok (.aaload, 1) := by decide +kernel
theorem dX6_climber_65 : decode cX6_climber 65 = .ok (.getfield 211, 3) := by decide +kernel
theorem dX6_climber_68 : decode cX6_climber 68 = .ok (.ireturn, 1) := by decide +kernel
theorem dX6_climber_69 : decode cX6_climber 69 = .ok (.aload_n 0, 1) := by decide +kernel
theorem dX6_climber_70 : decode cX6_climber 70 = .ok (.getfield 10, 3) := by decide +kernel
theorem dX6_climber_73 : decode cX6_climber 73 = .ok (.getfield 96, 3) := by decide +kernel
theorem dX6_climber_76 : decode cX6_climber 76 = .ok (.iload_n 1, 1) := by decide +kernel
theorem dX6_climber_77 : decode cX6_climber 77 = .ok (.aaload, 1) := by decide +kernel
theorem dX6_climber_78 : decode cX6_climber 78 = .ok (.getfield 214, 3) := by decide +kernel
theorem dX6_climber_81 : decode cX6_climber 81 = .ok (.ireturn, 1) := by decide +kernel
theorem dX6_climber_82 : decode cX6_climber 82 = .ok (.aload_n 0, 1) := by decide +kernel
theorem dX6_climber_83 : decode cX6_climber 83 = .ok (.getfield 10, 3) := by decide +kernel
theorem dX6_climber_86 : decode cX6_climber 86 = .ok (.getfield 96, 3) := by decide +kernel
theorem dX6_climber_89 : decode cX6_climber 89 = .ok (.iload_n 1, 1) := by decide +kernel
theorem dX6_climber_90 : decode cX6_climber 90 = .ok (.aaload, 1) := by decide +kernel
theorem dX6_climber_91 : decode cX6_climber 91 = .ok (.getfield 217, 3) := by decide +kernel
theorem dX6_climber_94 : decode cX6_climber 94 = .ok (.ireturn, 1) := by decide +kernel
theorem dX6_climber_95 : decode cX6_climber 95 = .ok (.aload_n 0, 1) := by decide +kernel
theorem dX6_climber_96 : decode cX6_climber 96 = .ok (.getfield 10, 3) := by decide +kernel
theorem dX6_climber_99 : decode cX6_climber 99 = .ok (.iload_n 1, 1) := by decide +kernel
theorem dX6_climber_100 : decode cX6_climber 100 = .ok (.iconst 1, 1) := by decide +kernel
theorem dX6_climber_101 : decode cX6_climber 101 = .ok (.invokevirtual 220, 3) := by decide +kernel
theorem dX6_climber_104 : decode cX6_climber 104 = .ok (.ireturn, 1) := by decide +kernel
theorem dX6_climber_105 : decode cX6_climber 105 = .ok (.aload_n 0, 1) := by decide +kernel
theorem dX6_climber_106 : decode cX6_climber 106 = .ok (.getfield 10, 3) := by decide +kernel
theorem dX6_climber_109 : decode cX6_climber 109 = .ok (.iload_n 1, 1) := by decide +kernel
theorem dX6_climber_110 : decode cX6_climber 110 = .ok (.invokevirtual 223, 3) := by decide +kernel
theorem dX6_climber_113 : decode cX6_climber 113 = .ok (.ireturn, 1) := by decide +kernel
theorem dX6_climber_114 : decode cX6_climber 114 = .ok (.aload_n 0, 1) := by decide +kernel
theorem dX6_climber_115 : decode cX6_climber 115 = .ok (.getfield 10, 3) := by decide +kernel
theorem dX6_climber_118 : decode cX6_climber 118 = .ok (.iload_n 1, 1) := by decide +kernel
theorem dX6_climber_119 : decode cX6_climber 119 = .ok (.invokevirtual 226, 3) := by decide +kernel
theorem dX6_climber_122 : decode cX6_climber 122 = .ok (.ireturn, 1) := by decide +kernel
theorem dX6_climber_123 : decode cX6_climber 123 = .ok (.aload_n 0, 1) := by decide +kernel
theorem dX6_climber_124 : decode cX6_climber 124 = .ok (.getfield 10, 3) := by decide +kernel
theorem dX6_climber_127 : decode cX6_climber 127 = .ok (.iload_n 1, 1) := by decide +kernel
theorem dX6_climber_128 : decode cX6_climber 128 = .ok (.invokevirtual 229, 3) := by decide +kernel
theorem dX6_climber_131 : decode cX6_climber 131 = .ok (.ireturn, 1) := by decide +kernel
theorem dX6_climber_132 : decode cX6_climber 132 = .ok (.bipush (-2), 2) := by decide +kernel
theorem dX6_climber_134 : decode cX6_climber 134 = .ok (.ireturn, 1) := by decide +kernel
set_option maxRecDepth 20000 in
theorem ggX6_application_X3_hasApplication : GoodIn wsX6_application wsX3_hasApplication := goodIn_r _ [16, 17, 31, 32, 33, 34, 35, 36, 37, 38, 39] rfl (by decide +kernel)
set_option maxRecDepth 20000 in
theorem gX6_application_X3_hasApplication : GoodIn wsX6_application (wsV RX6 134 RX3 yX3_hasApplication wsX3_hasApplication) := goodIn_app (goodIn_of _ (by decide +kernel)) ggX6_application_X3_hasApplication
set_option maxRecDepth 20000 in
theorem ggX6_application_X3_ticketsOf : GoodIn wsX6_application wsX3_ticketsOf := goodIn_r _ [21, 22, 23, 24, 25, 31, 32, 33, 34, 35, 36, 37, 38, 39, 40, 41, 42, 43, 44, 45, 46, 47, 48, 49, 50, 51] rfl (by decide +kernel)
set_option maxRecDepth 20000 in
theorem gX6_application_X3_ticketsOf : GoodIn wsX6_application (wsV RX6 238 RX3 yX3_ticketsOf wsX3_ticketsOf) := goodIn_app (goodIn_of _ (by decide +kernel)) ggX6_application_X3_ticketsOf
theorem dX6_application_0 : decode cX6_application 0 = .ok (.aload_n 0, 1) := by decide +kernel
theorem dX6_application_1 : decode cX6_application 1 = .ok (.getfield 10, 3) := by decide +kernel
theorem dX6_application_4 : decode cX6_application 4 = .ok (.iload_n 1, 1) := by decide +kernel
theorem dX6_application_5 : decode cX6_application 5 = .ok (.invokevirtual 134, 3) := by decide +kernel
theorem dX6_application_8 : decode cX6_application 8 = .ok (.ifCond .ne 5, 3) := by decide +kernel
theorem dX6_application_11 : decode cX6_application 11 = .ok (.iconst (-1), 1) := by decide +kernel
theorem dX6_application_12 : decode cX6_application 12 = .ok (.ireturn, 1) := by decide +kernel
theorem dX6_application_13 : decode cX6_application 13 = .ok (.aload_n 0, 1) := by decide +kernel
theorem dX6_application_14 : decode cX6_application 14 = .ok (.getfield 10, 3) := by decide +kernel
theorem dX6_application_17 : decode cX6_application 17 = .ok (.getfield 137, 3) := by decide +kernel
theorem dX6_application_20 : decode cX6_application 20 = .ok (.iload_n 1, 1) := by decide +kernel
theorem dX6_application_21 : decode cX6_application 21 = .ok (.aaload, 1) := by decide +kernel
theorem dX6_application_22 : decode cX6_application 22 = .ok (.astore_n 3, 1) := by decide +kernel
theorem dX6_application_23 : decode cX6_application 23 = .ok (.iload_n 2, 1) := by decide +kernel
theorem dX6_application_24 : decode cX6_application 24 = .ok (.tableswitch 118 0 9 #[56, 61, 66, 71, 76, 81, 86, 91, 104, 109], 56) := by decide +kernel
theorem dX6_application_80 : decode cX6_application 80 = .ok (.aload_n 3, 1) := by decide +kernel
theorem dX6_application_81 : decode cX6_application 81 = .ok (.getfield 232, 3) := by decide +kernel
theorem dX6_application_84 : decode cX6_application 84 = .ok (.ireturn, 1) := by decide +kernel
theorem dX6_application_85 : decode cX6_application 85 = .ok (.aload_n 3, 1) := by decide +kernel
theorem dX6_application_86 : decode cX6_application 86 = .ok (.getfield 157, 3) := by decide +kernel
theorem dX6_application_89 : decode cX6_application 89 = .ok (.ireturn, 1) := by decide +kernel
theorem dX6_application_90 : decode cX6_application 90 = .ok (.aload_n 3, 1) := by decide +kernel
theorem dX6_application_91 : decode cX6_application 91 = .ok (.getfield 160, 3) := by decide +kernel
theorem dX6_application_94 : decode cX6_application 94 = .ok (.ireturn, 1) := by decide +kernel
theorem dX6_application_95 : decode cX6_application 95 = .ok (.aload_n 3, 1) := by decide +kernel
theorem dX6_application_96 : decode cX6_application 96 = .ok (.getfield 183, 3) := by decide +kernel
theorem dX6_application_99 : decode cX6_application 99 = .ok (.ireturn, 1) := by decide +kernel
theorem dX6_application_100 : decode cX6_application 100 = .ok (.aload_n 3, 1) := by decide +kernel
theorem dX6_application_101 : decode cX6_application 101 = .ok (.getfield 147, 3) := by decide +kernel
theorem dX6_application_104 : decode cX6_application 104 = .ok (.ireturn, 1) := by decide +kernel
theorem dX6_application_105 : decode cX6_application 105 = .ok (.aload_n 3, 1) := by decide +kernel
theorem dX6_application_106 : decode cX6_application 106 = .ok (.getfield 193, 3) := by decide +kernel
theorem dX6_application_109 : decode cX6_application 109 = .ok (.ireturn, 1) := by decide +kernel
theorem dX6_application_110 : decode cX6_application 110 = .ok (.aload_n 3, 1) := by decide +kernel
theorem dX6_application_111 : decode cX6_application 111 = .ok (.getfield 154, 3) := by decide +kernel
theorem dX6_application_114 : decode cX6_application 114 = .ok (.ireturn, 1) := by decide +kernel
theorem dX6_application_115 : decode cX6_application 115 = .ok (.aload_n 3, 1) := by decide +kernel
theorem dX6_application_116 : decode cX6_application 116 = .ok (.getfield 196, 3) := by decide +kernel
theorem dX6_application_119 : decode cX6_application 119 = .ok (.ifCond .eq 7, 3) := by decide +kernel
theorem dX6_application_122 : decode cX6_application 122 = .ok (.iconst 1, 1) := by decide +kernel
theorem dX6_application_123 : decode cX6_application 123 = .ok (.goto 4, 3) := by decide +kernel
theorem dX6_application_126 : decode cX6_application 126 = .ok (.iconst 0, 1) := by decide +kernel
theorem dX6_application_127 : decode cX6_application 127 = .ok (.ireturn, 1) := by decide +kernel
theorem dX6_application_128 : decode cX6_application 128 = .ok (.aload_n 3, 1) := by decide +kernel
theorem dX6_application_129 : decode cX6_application 129 = .ok (.getfield 235, 3) := by decide +kernel
theorem dX6_application_132 : decode cX6_application 132 = .ok (.ireturn, 1) := by decide +kernel
theorem dX6_application_133 : decode cX6_application 133 = .ok (.aload_n 0, 1) := by decide +kernel
theorem dX6_application_134 : decode cX6_application 134 = .ok (.getfield 10, 3) := by decide +kernel
theorem dX6_application_137 : decode cX6_application 137 = .ok (.aload_n 3, 1) := by decide +kernel
theorem dX6_application_138 : decode cX6_application 138 = .ok (.invokevirtual 238, 3) := by decide +kernel
theorem dX6_application_141 : decode cX6_application 141 = .ok (.ireturn, 1) := by decide +kernel
theorem dX6_application_142 : decode cX6_application 142 = .ok (.bipush (-2), 2) := by decide +kernel
theorem dX6_application_144 : decode cX6_application 144 = .ok (.ireturn, 1) := by decide +kernel
set_option maxRecDepth 20000 in
theorem ggX6_count_X3_countIn : GoodIn wsX6_count wsX3_countIn := goodIn_r _ [13, 14, 15, 16, 17, 18, 19, 20, 21, 22, 43, 44, 45, 46, 47, 48, 49, 50, 51, 59, 60, 61, 62, 63, 64, 65, 66, 67] rfl (by decide +kernel)
set_option maxRecDepth 20000 in
theorem gX6_count_X3_countIn : GoodIn wsX6_count (wsV RX6 220 RX3 yX3_countIn wsX3_countIn) := goodIn_app (goodIn_of _ (by decide +kernel)) ggX6_count_X3_countIn
set_option maxRecDepth 20000 in
theorem ggX6_count_X3_paidBy : GoodIn wsX6_count wsX3_paidBy := goodIn_r _ [26, 14, 15, 27, 17, 18, 19, 20, 21, 22, 43, 44, 45, 46, 47, 48, 49, 50, 51, 59, 60, 61, 62, 63, 64, 65, 66, 67] rfl (by decide +kernel)
set_option maxRecDepth 20000 in
theorem gX6_count_X3_paidBy : GoodIn wsX6_count (wsV RX6 223 RX3 yX3_paidBy wsX3_paidBy) := goodIn_app (goodIn_of _ (by decide +kernel)) ggX6_count_X3_paidBy
set_option maxRecDepth 20000 in
theorem ggX6_count_X3_refundedTo : GoodIn wsX6_count wsX3_refundedTo := goodIn_r _ [31, 14, 15, 32, 17, 18, 19, 20, 21, 22, 43, 44, 45, 46, 47, 48, 49, 50, 51, 59, 60, 61, 62, 63, 64, 65, 66, 67] rfl (by decide +kernel)
set_option maxRecDepth 20000 in
theorem gX6_count_X3_refundedTo : GoodIn wsX6_count (wsV RX6 226 RX3 yX3_refundedTo wsX3_refundedTo) := goodIn_app (goodIn_of _ (by decide +kernel)) ggX6_count_X3_refundedTo
set_option maxRecDepth 20000 in
theorem ggX6_count_X3_closedDays : GoodIn wsX6_count wsX3_closedDays := goodIn_r _ [36, 37, 43, 44, 45, 46, 47, 48, 49, 50, 51] rfl (by decide +kernel)
set_option maxRecDepth 20000 in
theorem gX6_count_X3_closedDays : GoodIn wsX6_count (wsV RX6 241 RX3 yX3_closedDays wsX3_closedDays) := goodIn_app (goodIn_of _ (by decide +kernel)) ggX6_count_X3_closedDays
theorem dX6_count_0 : decode cX6_count 0 = .ok (.iload_n 1, 1) := by decide +kernel
theorem dX6_count_1 : decode cX6_count 1 = .ok (.iconst 4, 1) := by decide +kernel
theorem dX6_count_2 : decode cX6_count 2 = .ok (.if_icmp .lt 23, 3) := by decide +kernel
theorem dX6_count_5 : decode cX6_count 5 = .ok (.iload_n 1, 1) := by decide +kernel
theorem dX6_count_6 : decode cX6_count 6 = .ok (.bipush 10, 2) := by decide +kernel
theorem dX6_count_8 : decode cX6_count 8 = .ok (.if_icmp .gt 17, 3) := by decide +kernel
theorem dX6_count_11 : decode cX6_count 11 = .ok (.aload_n 0, 1) := by decide +kernel
theorem dX6_count_12 : decode cX6_count 12 = .ok (.getfield 10, 3) := by decide +kernel
theorem dX6_count_15 : decode cX6_count 15 = .ok (.iconst (-1), 1) := by decide +kernel
theorem dX6_count_16 : decode cX6_count 16 = .ok (.iconst 0, 1) := by decide +kernel
theorem dX6_count_17 : decode cX6_count 17 = .ok (.iload_n 1, 1) := by decide +kernel
theorem dX6_count_18 : decode cX6_count 18 = .ok (.iadd, 1) := by decide +kernel
theorem dX6_count_19 : decode cX6_count 19 = .ok (.iconst 4, 1) := by decide +kernel
theorem dX6_count_20 : decode cX6_count 20 = .ok (.isub, 1) := by decide +kernel
theorem dX6_count_21 : decode cX6_count 21 = .ok (.invokevirtual 220, 3) := by decide +kernel
theorem dX6_count_24 : decode cX6_count 24 = .ok (.ireturn, 1) := by decide +kernel
theorem dX6_count_25 : decode cX6_count 25 = .ok (.iload_n 1, 1) := by decide +kernel
theorem dX6_count_26 : decode cX6_count 26 = .ok (.bipush 15, 2) := by decide +kernel
theorem dX6_count_28 : decode cX6_count 28 = .ok (.if_icmp .lt 24, 3) := by decide +kernel
theorem dX6_count_31 : decode cX6_count 31 = .ok (.iload_n 1, 1) := by decide +kernel
theorem dX6_count_32 : decode cX6_count 32 = .ok (.bipush 20, 2) := by decide +kernel
theorem dX6_count_34 : decode cX6_count 34 = .ok (.if_icmp .gt 18, 3) := by decide +kernel
theorem dX6_count_37 : decode cX6_count 37 = .ok (.aload_n 0, 1) := by decide +kernel
theorem dX6_count_38 : decode cX6_count 38 = .ok (.getfield 10, 3) := by decide +kernel
theorem dX6_count_41 : decode cX6_count 41 = .ok (.getfield 79, 3) := by decide +kernel
theorem dX6_count_44 : decode cX6_count 44 = .ok (.iconst 0, 1) := by decide +kernel
theorem dX6_count_45 : decode cX6_count 45 = .ok (.iload_n 1, 1) := by decide +kernel
theorem dX6_count_46 : decode cX6_count 46 = .ok (.iadd, 1) := by decide +kernel
theorem dX6_count_47 : decode cX6_count 47 = .ok (.bipush 15, 2) := by decide +kernel
theorem dX6_count_49 : decode cX6_count 49 = .ok (.isub, 1) := by decide +kernel
theorem dX6_count_50 : decode cX6_count 50 = .ok (.iaload, 1) := by decide +kernel
theorem dX6_count_51 : decode cX6_count 51 = .ok (.ireturn, 1) := by decide +kernel
theorem dX6_count_52 : decode cX6_count 52 = .ok (.iload_n 1, 1) := by decide +kernel
theorem dX6_count_53 : decode cX6_count 53 = .ok (.tableswitch 141 0 14 #[75, 83, 91, 99, 141, 141, 141, 141, 141, 141, 141, 107, 116, 125, 133], 75) := by decide +kernel
theorem dX6_count_128 : decode cX6_count 128 = .ok (.aload_n 0, 1) := by decide +kernel
theorem dX6_count_129 : decode cX6_count 129 = .ok (.getfield 10, 3) := by decide +kernel
theorem dX6_count_132 : decode cX6_count 132 = .ok (.getfield 176, 3) := by decide +kernel
theorem dX6_count_135 : decode cX6_count 135 = .ok (.ireturn, 1) := by decide +kernel
theorem dX6_count_136 : decode cX6_count 136 = .ok (.aload_n 0, 1) := by decide +kernel
theorem dX6_count_137 : decode cX6_count 137 = .ok (.getfield 10, 3) := by decide +kernel
theorem dX6_count_140 : decode cX6_count 140 = .ok (.getfield 38, 3) := by decide +kernel
theorem dX6_count_143 : decode cX6_count 143 = .ok (.ireturn, 1) := by decide +kernel
theorem dX6_count_144 : decode cX6_count 144 = .ok (.aload_n 0, 1) := by decide +kernel
theorem dX6_count_145 : decode cX6_count 145 = .ok (.getfield 10, 3) := by decide +kernel
theorem dX6_count_148 : decode cX6_count 148 = .ok (.getfield 62, 3) := by decide +kernel
theorem dX6_count_151 : decode cX6_count 151 = .ok (.ireturn, 1) := by decide +kernel
theorem dX6_count_152 : decode cX6_count 152 = .ok (.aload_n 0, 1) := by decide +kernel
theorem dX6_count_153 : decode cX6_count 153 = .ok (.getfield 10, 3) := by decide +kernel
theorem dX6_count_156 : decode cX6_count 156 = .ok (.getfield 105, 3) := by decide +kernel
theorem dX6_count_159 : decode cX6_count 159 = .ok (.ireturn, 1) := by decide +kernel
theorem dX6_count_160 : decode cX6_count 160 = .ok (.aload_n 0, 1) := by decide +kernel
theorem dX6_count_161 : decode cX6_count 161 = .ok (.getfield 10, 3) := by decide +kernel
theorem dX6_count_164 : decode cX6_count 164 = .ok (.iconst (-1), 1) := by decide +kernel
theorem dX6_count_165 : decode cX6_count 165 = .ok (.invokevirtual 223, 3) := by decide +kernel
theorem dX6_count_168 : decode cX6_count 168 = .ok (.ireturn, 1) := by decide +kernel
theorem dX6_count_169 : decode cX6_count 169 = .ok (.aload_n 0, 1) := by decide +kernel
theorem dX6_count_170 : decode cX6_count 170 = .ok (.getfield 10, 3) := by decide +kernel
theorem dX6_count_173 : decode cX6_count 173 = .ok (.iconst (-1), 1) := by decide +kernel
theorem dX6_count_174 : decode cX6_count 174 = .ok (.invokevirtual 226, 3) := by decide +kernel
theorem dX6_count_177 : decode cX6_count 177 = .ok (.ireturn, 1) := by decide +kernel
theorem dX6_count_178 : decode cX6_count 178 = .ok (.aload_n 0, 1) := by decide +kernel
theorem dX6_count_179 : decode cX6_count 179 = .ok (.getfield 10, 3) := by decide +kernel
theorem dX6_count_182 : decode cX6_count 182 = .ok (.invokevirtual 241, 3) := by decide +kernel
theorem dX6_count_185 : decode cX6_count 185 = .ok (.ireturn, 1) := by decide +kernel
theorem dX6_count_186 : decode cX6_count 186 = .ok (.aload_n 0, 1) := by decide +kernel
theorem dX6_count_187 : decode cX6_count 187 = .ok (.getfield 34, 3) := by decide +kernel
theorem dX6_count_190 : decode cX6_count 190 = .ok (.getfield 244, 3) := by decide +kernel
theorem dX6_count_193 : decode cX6_count 193 = .ok (.ireturn, 1) := by decide +kernel
theorem dX6_count_194 : decode cX6_count 194 = .ok (.bipush (-2), 2) := by decide +kernel
theorem dX6_count_196 : decode cX6_count 196 = .ok (.ireturn, 1) := by decide +kernel
set_option maxRecDepth 20000 in
theorem ggX6_nextWaiting_X3_hasRouteAndDay : GoodIn wsX6_nextWaiting wsX3_hasRouteAndDay := goodIn_r _ [6, 7, 8, 9, 5, 10, 11, 12, 13, 14, 75, 76, 77, 78, 79, 80, 81, 82, 83] rfl (by decide +kernel)
set_option maxRecDepth 20000 in
theorem gX6_nextWaiting_X3_hasRouteAndDay : GoodIn wsX6_nextWaiting (wsV RX6 85 RX3 yX3_hasRouteAndDay wsX3_hasRouteAndDay) := goodIn_app (goodIn_of _ (by decide +kernel)) ggX6_nextWaiting_X3_hasRouteAndDay
set_option maxRecDepth 20000 in
theorem ggX6_nextWaiting_X3_isOpen : GoodIn wsX6_nextWaiting wsX3_isOpen := goodIn_r _ [18, 19, 20, 12, 13, 14, 75, 76, 77, 78, 79, 80, 81, 82, 83] rfl (by decide +kernel)
set_option maxRecDepth 20000 in
theorem gX6_nextWaiting_X3_isOpen : GoodIn wsX6_nextWaiting (wsV RX6 89 RX3 yX3_isOpen wsX3_isOpen) := goodIn_app (goodIn_of _ (by decide +kernel)) ggX6_nextWaiting_X3_isOpen
set_option maxRecDepth 20000 in
theorem ggX6_nextWaiting_X3_placesForLottery : GoodIn wsX6_nextWaiting wsX3_placesForLottery := goodIn_r _ [24, 25, 26, 27, 28, 29, 5, 30, 31, 32, 33, 34, 35, 36, 37, 38, 39, 40, 41, 42, 43, 44, 45, 46, 47, 48, 49, 50, 75, 76, 77, 78, 79, 80, 81, 82, 83, 84, 85, 86, 87, 88, 89, 90, 91, 92, 93, 94] rfl (by decide +kernel)
set_option maxRecDepth 20000 in
theorem gX6_nextWaiting_X3_placesForLottery : GoodIn wsX6_nextWaiting (wsV RX6 120 RX3 yX3_placesForLottery wsX3_placesForLottery) := goodIn_app (goodIn_of _ (by decide +kernel)) ggX6_nextWaiting_X3_placesForLottery
set_option maxRecDepth 20000 in
theorem ggX6_nextWaiting_X3_firstWaiting : GoodIn wsX6_nextWaiting wsX3_firstWaiting := goodIn_r _ [54, 36, 37, 55, 38, 56, 57, 58, 45, 46, 47, 42, 48, 49, 50, 59, 60, 61, 5, 62, 63, 64, 65, 66, 67, 68, 69, 75, 76, 77, 78, 79, 80, 81, 82, 83, 86, 87, 88, 89, 90, 91, 92, 93, 94, 95, 96, 97] rfl (by decide +kernel)
set_option maxRecDepth 20000 in
theorem gX6_nextWaiting_X3_firstWaiting : GoodIn wsX6_nextWaiting (wsV RX6 247 RX3 yX3_firstWaiting wsX3_firstWaiting) := goodIn_app (goodIn_of _ (by decide +kernel)) ggX6_nextWaiting_X3_firstWaiting
theorem dX6_nextWaiting_0 : decode cX6_nextWaiting 0 = .ok (.aload_n 0, 1) := by decide +kernel
theorem dX6_nextWaiting_1 : decode cX6_nextWaiting 1 = .ok (.getfield 10, 3) := by decide +kernel
theorem dX6_nextWaiting_4 : decode cX6_nextWaiting 4 = .ok (.iload_n 1, 1) := by decide +kernel
theorem dX6_nextWaiting_5 : decode cX6_nextWaiting 5 = .ok (.iload_n 2, 1) := by decide +kernel
theorem dX6_nextWaiting_6 : decode cX6_nextWaiting 6 = .ok (.invokevirtual 85, 3) := by decide +kernel
theorem dX6_nextWaiting_9 : decode cX6_nextWaiting 9 = .ok (.ifCond .ne 5, 3) := by decide +kernel
theorem dX6_nextWaiting_12 : decode cX6_nextWaiting 12 = .ok (.iconst (-1), 1) := by decide +kernel
theorem dX6_nextWaiting_13 : decode cX6_nextWaiting 13 = .ok (.ireturn, 1) := by decide +kernel
theorem dX6_nextWaiting_14 : decode cX6_nextWaiting 14 = .ok (.aload_n 0, 1) := by decide +kernel
theorem dX6_nextWaiting_15 : decode cX6_nextWaiting 15 = .ok (.getfield 10, 3) := by decide +kernel
theorem dX6_nextWaiting_18 : decode cX6_nextWaiting 18 = .ok (.iload_n 2, 1) := by decide +kernel
theorem dX6_nextWaiting_19 : decode cX6_nextWaiting 19 = .ok (.invokevirtual 89, 3) := by decide +kernel
theorem dX6_nextWaiting_22 : decode cX6_nextWaiting 22 = .ok (.ifCond .ne 6, 3) := by decide +kernel
theorem dX6_nextWaiting_25 : decode cX6_nextWaiting 25 = .ok (.bipush (-6), 2) := by decide +kernel
theorem dX6_nextWaiting_27 : decode cX6_nextWaiting 27 = .ok (.ireturn, 1) := by decide +kernel
theorem dX6_nextWaiting_28 : decode cX6_nextWaiting 28 = .ok (.aload_n 0, 1) := by decide +kernel
theorem dX6_nextWaiting_29 : decode cX6_nextWaiting 29 = .ok (.getfield 10, 3) := by decide +kernel
theorem dX6_nextWaiting_32 : decode cX6_nextWaiting 32 = .ok (.iload_n 1, 1) := by decide +kernel
theorem dX6_nextWaiting_33 : decode cX6_nextWaiting 33 = .ok (.iload_n 2, 1) := by decide +kernel
theorem dX6_nextWaiting_34 : decode cX6_nextWaiting 34 = .ok (.aload_n 0, 1) := by decide +kernel
theorem dX6_nextWaiting_35 : decode cX6_nextWaiting 35 = .ok (.getfield 10, 3) := by decide +kernel
theorem dX6_nextWaiting_38 : decode cX6_nextWaiting 38 = .ok (.iload_n 1, 1) := by decide +kernel
theorem dX6_nextWaiting_39 : decode cX6_nextWaiting 39 = .ok (.iload_n 2, 1) := by decide +kernel
theorem dX6_nextWaiting_40 : decode cX6_nextWaiting 40 = .ok (.invokevirtual 120, 3) := by decide +kernel
theorem dX6_nextWaiting_43 : decode cX6_nextWaiting 43 = .ok (.iconst 1, 1) := by decide +kernel
theorem dX6_nextWaiting_44 : decode cX6_nextWaiting 44 = .ok (.iadd, 1) := by decide +kernel
theorem dX6_nextWaiting_45 : decode cX6_nextWaiting 45 = .ok (.invokevirtual 247, 3) := by decide +kernel
theorem dX6_nextWaiting_48 : decode cX6_nextWaiting 48 = .ok (.ireturn, 1) := by decide +kernel
set_option maxRecDepth 20000 in
theorem ggX6_odds_X3_hasApplication : GoodIn wsX6_odds wsX3_hasApplication := goodIn_r _ [13, 14, 64, 65, 66, 67, 68, 69, 70, 71, 72] rfl (by decide +kernel)
set_option maxRecDepth 20000 in
theorem gX6_odds_X3_hasApplication : GoodIn wsX6_odds (wsV RX6 134 RX3 yX3_hasApplication wsX3_hasApplication) := goodIn_app (goodIn_of _ (by decide +kernel)) ggX6_odds_X3_hasApplication
set_option maxRecDepth 20000 in
theorem ggX6_odds_X2_enterAll : GoodIn wsX6_odds wsX2_enterAll := goodIn_r _ [19, 20, 21, 22, 23, 24, 25, 26, 27, 28, 29, 30, 31, 32, 33, 34, 35, 36, 37, 38, 12, 39, 40, 41, 42, 43, 44, 45, 46, 47, 48, 49, 50, 51, 52, 53, 54, 82, 83, 84, 85, 86, 87, 88, 64, 65, 66, 67, 68, 69, 70, 71, 72, 73, 74, 75, 76, 77, 78, 79, 80, 81, 89, 90, 91] rfl (by decide +kernel)
set_option maxRecDepth 20000 in
theorem gX6_odds_X2_enterAll : GoodIn wsX6_odds (wsV RX6 116 RX2 yX2_enterAll wsX2_enterAll) := goodIn_app (goodIn_of _ (by decide +kernel)) ggX6_odds_X2_enterAll
set_option maxRecDepth 20000 in
theorem ggX6_odds_X2_entryOf : GoodIn wsX6_odds wsX2_entryOf := goodIn_r _ [58, 20, 25, 82, 83, 84, 85, 86, 87, 88] rfl (by decide +kernel)
set_option maxRecDepth 20000 in
theorem gX6_odds_X2_entryOf : GoodIn wsX6_odds (wsV RX6 250 RX2 yX2_entryOf wsX2_entryOf) := goodIn_app (goodIn_of _ (by decide +kernel)) ggX6_odds_X2_entryOf
theorem dX6_odds_0 : decode cX6_odds 0 = .ok (.aload_n 0, 1) := by decide +kernel
theorem dX6_odds_1 : decode cX6_odds 1 = .ok (.getfield 10, 3) := by decide +kernel
theorem dX6_odds_4 : decode cX6_odds 4 = .ok (.iload_n 1, 1) := by decide +kernel
theorem dX6_odds_5 : decode cX6_odds 5 = .ok (.invokevirtual 134, 3) := by decide +kernel
theorem dX6_odds_8 : decode cX6_odds 8 = .ok (.ifCond .ne 5, 3) := by decide +kernel
theorem dX6_odds_11 : decode cX6_odds 11 = .ok (.iconst (-1), 1) := by decide +kernel
theorem dX6_odds_12 : decode cX6_odds 12 = .ok (.ireturn, 1) := by decide +kernel
theorem dX6_odds_13 : decode cX6_odds 13 = .ok (.aload_n 0, 1) := by decide +kernel
theorem dX6_odds_14 : decode cX6_odds 14 = .ok (.getfield 10, 3) := by decide +kernel
theorem dX6_odds_17 : decode cX6_odds 17 = .ok (.getfield 137, 3) := by decide +kernel
theorem dX6_odds_20 : decode cX6_odds 20 = .ok (.iload_n 1, 1) := by decide +kernel
theorem dX6_odds_21 : decode cX6_odds 21 = .ok (.aaload, 1) := by decide +kernel
theorem dX6_odds_22 : decode cX6_odds 22 = .ok (.astore_n 2, 1) := by decide +kernel
theorem dX6_odds_23 : decode cX6_odds 23 = .ok (.aload_n 0, 1) := by decide +kernel
theorem dX6_odds_24 : decode cX6_odds 24 = .ok (.getfield 27, 3) := by decide +kernel
theorem dX6_odds_27 : decode cX6_odds 27 = .ok (.aload_n 0, 1) := by decide +kernel
theorem dX6_odds_28 : decode cX6_odds 28 = .ok (.getfield 10, 3) := by decide +kernel
theorem dX6_odds_31 : decode cX6_odds 31 = .ok (.aload_n 2, 1) := by decide +kernel
theorem dX6_odds_32 : decode cX6_odds 32 = .ok (.getfield 157, 3) := by decide +kernel
theorem dX6_odds_35 : decode cX6_odds 35 = .ok (.aload_n 2, 1) := by decide +kernel
theorem dX6_odds_36 : decode cX6_odds 36 = .ok (.getfield 160, 3) := by decide +kernel
theorem dX6_odds_39 : decode cX6_odds 39 = .ok (.invokevirtual 116, 3) := by decide +kernel
theorem dX6_odds_42 : decode cX6_odds 42 = .ok (.aload_n 0, 1) := by decide +kernel
theorem dX6_odds_43 : decode cX6_odds 43 = .ok (.getfield 27, 3) := by decide +kernel
theorem dX6_odds_46 : decode cX6_odds 46 = .ok (.iload_n 1, 1) := by decide +kernel
theorem dX6_odds_47 : decode cX6_odds 47 = .ok (.invokevirtual 250, 3) := by decide +kernel
theorem dX6_odds_50 : decode cX6_odds 50 = .ok (.istore_n 3, 1) := by decide +kernel
theorem dX6_odds_51 : decode cX6_odds 51 = .ok (.iload_n 3, 1) := by decide +kernel
theorem dX6_odds_52 : decode cX6_odds 52 = .ok (.ifCond .lt 13, 3) := by decide +kernel
theorem dX6_odds_55 : decode cX6_odds 55 = .ok (.aload_n 0, 1) := by decide +kernel
theorem dX6_odds_56 : decode cX6_odds 56 = .ok (.getfield 27, 3) := by decide +kernel
theorem dX6_odds_59 : decode cX6_odds 59 = .ok (.getfield 253, 3) := by decide +kernel
theorem dX6_odds_62 : decode cX6_odds 62 = .ok (.ifCond .gt 6, 3) := by decide +kernel
theorem dX6_odds_65 : decode cX6_odds 65 = .ok (.bipush (-5), 2) := by decide +kernel
theorem dX6_odds_67 : decode cX6_odds 67 = .ok (.ireturn, 1) := by decide +kernel
theorem dX6_odds_68 : decode cX6_odds 68 = .ok (.ldc2_w 256, 3) := by decide +kernel
theorem dX6_odds_71 : decode cX6_odds 71 = .ok (.aload_n 0, 1) := by decide +kernel
theorem dX6_odds_72 : decode cX6_odds 72 = .ok (.getfield 27, 3) := by decide +kernel
theorem dX6_odds_75 : decode cX6_odds 75 = .ok (.getfield 258, 3) := by decide +kernel
theorem dX6_odds_78 : decode cX6_odds 78 = .ok (.iload_n 3, 1) := by decide +kernel
theorem dX6_odds_79 : decode cX6_odds 79 = .ok (.iaload, 1) := by decide +kernel
theorem dX6_odds_80 : decode cX6_odds 80 = .ok (.i2l, 1) := by decide +kernel
theorem dX6_odds_81 : decode cX6_odds 81 = .ok (.lmul, 1) := by decide +kernel
theorem dX6_odds_82 : decode cX6_odds 82 = .ok (.aload_n 0, 1) := by decide +kernel
theorem dX6_odds_83 : decode cX6_odds 83 = .ok (.getfield 27, 3) := by decide +kernel
theorem dX6_odds_86 : decode cX6_odds 86 = .ok (.getfield 253, 3) := by decide +kernel
theorem dX6_odds_89 : decode cX6_odds 89 = .ok (.i2l, 1) := by decide +kernel
theorem dX6_odds_90 : decode cX6_odds 90 = .ok (.ldiv, 1) := by decide +kernel
theorem dX6_odds_91 : decode cX6_odds 91 = .ok (.l2i, 1) := by decide +kernel
theorem dX6_odds_92 : decode cX6_odds 92 = .ok (.ireturn, 1) := by decide +kernel
set_option maxRecDepth 20000 in
theorem ggX6_tries_X3_hasApplication : GoodIn wsX6_tries wsX3_hasApplication := goodIn_r _ [13, 14, 111, 112, 113, 114, 115, 116, 117, 118, 119] rfl (by decide +kernel)
set_option maxRecDepth 20000 in
theorem gX6_tries_X3_hasApplication : GoodIn wsX6_tries (wsV RX6 134 RX3 yX3_hasApplication wsX3_hasApplication) := goodIn_app (goodIn_of _ (by decide +kernel)) ggX6_tries_X3_hasApplication
set_option maxRecDepth 20000 in
theorem ggX6_tries_X3_isOpen : GoodIn wsX6_tries wsX3_isOpen := goodIn_r _ [18, 19, 20, 21, 22, 23, 111, 112, 113, 114, 115, 116, 117, 118, 119] rfl (by decide +kernel)
set_option maxRecDepth 20000 in
theorem gX6_tries_X3_isOpen : GoodIn wsX6_tries (wsV RX6 89 RX3 yX3_isOpen wsX3_isOpen) := goodIn_app (goodIn_of _ (by decide +kernel)) ggX6_tries_X3_isOpen
set_option maxRecDepth 20000 in
theorem ggX6_tries_X2_enterAll : GoodIn wsX6_tries wsX2_enterAll := goodIn_r _ [28, 29, 30, 31, 32, 33, 34, 35, 36, 37, 38, 39, 40, 41, 42, 43, 44, 45, 46, 47, 12, 48, 49, 50, 51, 52, 53, 54, 55, 56, 57, 58, 59, 60, 61, 62, 63, 129, 130, 131, 132, 133, 134, 135, 111, 112, 113, 114, 115, 116, 117, 118, 119, 120, 121, 122, 123, 124, 125, 126, 127, 128, 136, 137, 138] rfl (by decide +kernel)
set_option maxRecDepth 20000 in
theorem gX6_tries_X2_enterAll : GoodIn wsX6_tries (wsV RX6 116 RX2 yX2_enterAll wsX2_enterAll) := goodIn_app (goodIn_of _ (by decide +kernel)) ggX6_tries_X2_enterAll
set_option maxRecDepth 20000 in
theorem ggX6_tries_X2_entryOf : GoodIn wsX6_tries wsX2_entryOf := goodIn_r _ [67, 29, 34, 129, 130, 131, 132, 133, 134, 135] rfl (by decide +kernel)
set_option maxRecDepth 20000 in
theorem gX6_tries_X2_entryOf : GoodIn wsX6_tries (wsV RX6 250 RX2 yX2_entryOf wsX2_entryOf) := goodIn_app (goodIn_of _ (by decide +kernel)) ggX6_tries_X2_entryOf
set_option maxRecDepth 20000 in
theorem ggX6_tries_X3_placesForLottery : GoodIn wsX6_tries wsX3_placesForLottery := goodIn_r _ [71, 72, 73, 74, 75, 76, 12, 77, 78, 79, 80, 81, 82, 14, 83, 84, 85, 86, 87, 41, 88, 89, 90, 39, 40, 42, 43, 44, 111, 112, 113, 114, 115, 116, 117, 118, 119, 139, 140, 120, 121, 122, 123, 124, 125, 126, 127, 128] rfl (by decide +kernel)
set_option maxRecDepth 20000 in
theorem gX6_tries_X3_placesForLottery : GoodIn wsX6_tries (wsV RX6 120 RX3 yX3_placesForLottery wsX3_placesForLottery) := goodIn_app (goodIn_of _ (by decide +kernel)) ggX6_tries_X3_placesForLottery
set_option maxRecDepth 20000 in
theorem ggX6_tries_X2_hold : GoodIn wsX6_tries wsX2_hold := goodIn_r _ [94, 30, 29, 95, 37, 96, 35, 97, 98, 27, 99, 100, 101, 102, 103, 104, 105, 129, 130, 131, 132, 133, 134, 135] rfl (by decide +kernel)
set_option maxRecDepth 20000 in
theorem gX6_tries_X2_hold : GoodIn wsX6_tries (wsV RX6 123 RX2 yX2_hold wsX2_hold) := goodIn_app (goodIn_of _ (by decide +kernel)) ggX6_tries_X2_hold
theorem dX6_tries_0 : decode cX6_tries 0 = .ok (.aload_n 0, 1) := by decide +kernel
theorem dX6_tries_1 : decode cX6_tries 1 = .ok (.getfield 10, 3) := by decide +kernel
theorem dX6_tries_4 : decode cX6_tries 4 = .ok (.iload_n 1, 1) := by decide +kernel
theorem dX6_tries_5 : decode cX6_tries 5 = .ok (.invokevirtual 134, 3) := by decide +kernel
theorem dX6_tries_8 : decode cX6_tries 8 = .ok (.ifCond .ne 5, 3) := by decide +kernel
theorem dX6_tries_11 : decode cX6_tries 11 = .ok (.iconst (-1), 1) := by decide +kernel
theorem dX6_tries_12 : decode cX6_tries 12 = .ok (.ireturn, 1) := by decide +kernel
theorem dX6_tries_13 : decode cX6_tries 13 = .ok (.iload_n 2, 1) := by decide +kernel
theorem dX6_tries_14 : decode cX6_tries 14 = .ok (.iconst 1, 1) := by decide +kernel
theorem dX6_tries_15 : decode cX6_tries 15 = .ok (.if_icmp .lt 10, 3) := by decide +kernel
theorem dX6_tries_18 : decode cX6_tries 18 = .ok (.iload_n 2, 1) := by decide +kernel
theorem dX6_tries_19 : decode cX6_tries 19 = .ok (.sipush 200, 3) := by decide +kernel
theorem dX6_tries_22 : decode cX6_tries 22 = .ok (.if_icmp .le 6, 3) := by decide +kernel
theorem dX6_tries_25 : decode cX6_tries 25 = .ok (.bipush (-2), 2) := by decide +kernel
theorem dX6_tries_27 : decode cX6_tries 27 = .ok (.ireturn, 1) := by decide +kernel
theorem dX6_tries_28 : decode cX6_tries 28 = .ok (.aload_n 0, 1) := by decide +kernel
theorem dX6_tries_29 : decode cX6_tries 29 = .ok (.getfield 10, 3) := by decide +kernel
theorem dX6_tries_32 : decode cX6_tries 32 = .ok (.getfield 137, 3) := by decide +kernel
theorem dX6_tries_35 : decode cX6_tries 35 = .ok (.iload_n 1, 1) := by decide +kernel
theorem dX6_tries_36 : decode cX6_tries 36 = .ok (.aaload, 1) := by decide +kernel
theorem dX6_tries_37 : decode cX6_tries 37 = .ok (.astore_n 3, 1) := by decide +kernel
theorem dX6_tries_38 : decode cX6_tries 38 = .ok (.aload_n 3, 1) := by decide +kernel
theorem dX6_tries_39 : decode cX6_tries 39 = .ok (.getfield 147, 3) := by decide +kernel
theorem dX6_tries_42 : decode cX6_tries 42 = .ok (.ifCond .ne 17, 3) := by decide +kernel
theorem dX6_tries_45 : decode cX6_tries 45 = .ok (.aload_n 0, 1) := by decide +kernel
theorem dX6_tries_46 : decode cX6_tries 46 = .ok (.getfield 10, 3) := by decide +kernel
theorem dX6_tries_49 : decode cX6_tries 49 = .ok (.aload_n 3, 1) := by decide +kernel
theorem dX6_tries_50 : decode cX6_tries 50 = .ok (.getfield 160, 3) := by decide +kernel
theorem dX6_tries_53 : decode cX6_tries 53 = .ok (.invokevirtual 89, 3) := by decide +kernel
theorem dX6_tries_56 : decode cX6_tries 56 = .ok (.ifCond .ne 6, 3) := by decide +kernel
theorem dX6_tries_59 : decode cX6_tries 59 = .ok (.bipush (-5), 2) := by decide +kernel
theorem dX6_tries_61 : decode cX6_tries 61 = .ok (.ireturn, 1) := by decide +kernel
theorem dX6_tries_62 : decode cX6_tries 62 = .ok (.aload_n 0, 1) := by decide +kernel
theorem dX6_tries_63 : decode cX6_tries 63 = .ok (.getfield 27, 3) := by decide +kernel
theorem dX6_tries_66 : decode cX6_tries 66 = .ok (.aload_n 0, 1) := by decide +kernel
theorem dX6_tries_67 : decode cX6_tries 67 = .ok (.getfield 10, 3) := by decide +kernel
theorem dX6_tries_70 : decode cX6_tries 70 = .ok (.aload_n 3, 1) := by decide +kernel
theorem dX6_tries_71 : decode cX6_tries 71 = .ok (.getfield 157, 3) := by decide +kernel
theorem dX6_tries_74 : decode cX6_tries 74 = .ok (.aload_n 3, 1) := by decide +kernel
theorem dX6_tries_75 : decode cX6_tries 75 = .ok (.getfield 160, 3) := by decide +kernel
theorem dX6_tries_78 : decode cX6_tries 78 = .ok (.invokevirtual 116, 3) := by decide +kernel
theorem dX6_tries_81 : decode cX6_tries 81 = .ok (.aload_n 0, 1) := by decide +kernel
theorem dX6_tries_82 : decode cX6_tries 82 = .ok (.getfield 27, 3) := by decide +kernel
theorem dX6_tries_85 : decode cX6_tries 85 = .ok (.iload_n 1, 1) := by decide +kernel
theorem dX6_tries_86 : decode cX6_tries 86 = .ok (.invokevirtual 250, 3) := by decide +kernel
theorem dX6_tries_89 : decode cX6_tries 89 = .ok (.istore 4, 2) := by decide +kernel
theorem dX6_tries_91 : decode cX6_tries 91 = .ok (.iload 4, 2) := by decide +kernel
theorem dX6_tries_93 : decode cX6_tries 93 = .ok (.ifCond .ge 5, 3) := by decide +kernel
theorem dX6_tries_96 : decode cX6_tries 96 = .ok (.iconst 0, 1) := by decide +kernel
theorem dX6_tries_97 : decode cX6_tries 97 = .ok (.ireturn, 1) := by decide +kernel
theorem dX6_tries_98 : decode cX6_tries 98 = .ok (.aload_n 0, 1) := by decide +kernel
theorem dX6_tries_99 : decode cX6_tries 99 = .ok (.getfield 10, 3) := by decide +kernel
theorem dX6_tries_102 : decode cX6_tries 102 = .ok (.aload_n 3, 1) := by decide +kernel
theorem dX6_tries_103 : decode cX6_tries 103 = .ok (.getfield 157, 3) := by decide +kernel
theorem dX6_tries_106 : decode cX6_tries 106 = .ok (.aload_n 3, 1) := by decide +kernel
theorem dX6_tries_107 : decode cX6_tries 107 = .ok (.getfield 160, 3) := by decide +kernel
theorem dX6_tries_110 : decode cX6_tries 110 = .ok (.invokevirtual 120, 3) := by decide +kernel
theorem dX6_tries_113 : decode cX6_tries 113 = .ok (.istore 5, 2) := by decide +kernel
theorem dX6_tries_115 : decode cX6_tries 115 = .ok (.aload_n 0, 1) := by decide +kernel
theorem dX6_tries_116 : decode cX6_tries 116 = .ok (.getfield 10, 3) := by decide +kernel
theorem dX6_tries_119 : decode cX6_tries 119 = .ok (.getfield 79, 3) := by decide +kernel
theorem dX6_tries_122 : decode cX6_tries 122 = .ok (.iconst 5, 1) := by decide +kernel
theorem dX6_tries_123 : decode cX6_tries 123 = .ok (.iaload, 1) := by decide +kernel
theorem dX6_tries_124 : decode cX6_tries 124 = .ok (.istore 6, 2) := by decide +kernel
theorem dX6_tries_126 : decode cX6_tries 126 = .ok (.iconst 0, 1) := by decide +kernel
theorem dX6_tries_127 : decode cX6_tries 127 = .ok (.istore 7, 2) := by decide +kernel
theorem dX6_tries_129 : decode cX6_tries 129 = .ok (.iconst 0, 1) := by decide +kernel
theorem dX6_tries_130 : decode cX6_tries 130 = .ok (.istore 8, 2) := by decide +kernel
theorem dX6_tries_132 : decode cX6_tries 132 = .ok (.iload 8, 2) := by decide +kernel
theorem dX6_tries_134 : decode cX6_tries 134 = .ok (.iload_n 2, 1) := by decide +kernel
theorem dX6_tries_135 : decode cX6_tries 135 = .ok (.if_icmp .ge 38, 3) := by decide +kernel
theorem dX6_tries_138 : decode cX6_tries 138 = .ok (.aload_n 0, 1) := by decide +kernel
theorem dX6_tries_139 : decode cX6_tries 139 = .ok (.getfield 27, 3) := by decide +kernel
theorem dX6_tries_142 : decode cX6_tries 142 = .ok (.iload 6, 2) := by decide +kernel
theorem dX6_tries_144 : decode cX6_tries 144 = .ok (.iload 5, 2) := by decide +kernel
theorem dX6_tries_146 : decode cX6_tries 146 = .ok (.invokevirtual 123, 3) := by decide +kernel
theorem dX6_tries_149 : decode cX6_tries 149 = .ok (.istore 6, 2) := by decide +kernel
theorem dX6_tries_151 : decode cX6_tries 151 = .ok (.aload_n 0, 1) := by decide +kernel
theorem dX6_tries_152 : decode cX6_tries 152 = .ok (.getfield 27, 3) := by decide +kernel
theorem dX6_tries_155 : decode cX6_tries 155 = .ok (.getfield 261, 3) := by decide +kernel
theorem dX6_tries_158 : decode cX6_tries 158 = .ok (.iload 4, 2) := by decide +kernel
theorem dX6_tries_160 : decode cX6_tries 160 = .ok (.baload, 1) := by decide +kernel
theorem dX6_tries_161 : decode cX6_tries 161 = .ok (.ifCond .eq 6, 3) := by decide +kernel
theorem dX6_tries_164 : decode cX6_tries 164 = .ok (.iinc 7 1, 3) := by decide +kernel
theorem dX6_tries_167 : decode cX6_tries 167 = .ok (.iinc 8 1, 3) := by decide +kernel
theorem dX6_tries_170 : decode cX6_tries 170 = .ok (.goto (-38), 3) := by decide +kernel
theorem dX6_tries_173 : decode cX6_tries 173 = .ok (.iload 7, 2) := by decide +kernel
theorem dX6_tries_175 : decode cX6_tries 175 = .ok (.ireturn, 1) := by decide +kernel
set_option maxRecDepth 20000 in
theorem ggX6_put_X4_sizeOf : GoodIn wsX6_put wsX4_sizeOf := goodIn_r _ [6, 7, 8, 9] rfl (by decide +kernel)
set_option maxRecDepth 20000 in
theorem gX6_put_X4_sizeOf : GoodIn wsX6_put (va_wsS RX6 264 yX4_sizeOf wsX4_sizeOf) := goodIn_app (goodIn_of _ (by decide +kernel)) ggX6_put_X4_sizeOf
set_option maxRecDepth 20000 in
theorem ggX6_put_X4_append : GoodIn wsX6_put wsX4_append := goodIn_r _ [13, 14, 15, 7, 21, 22, 23, 24, 25, 26, 27] rfl (by decide +kernel)
set_option maxRecDepth 20000 in
theorem gX6_put_X4_append : GoodIn wsX6_put (wsV RX6 268 RX4 yX4_append wsX4_append) := goodIn_app (goodIn_of _ (by decide +kernel)) ggX6_put_X4_append
theorem dX6_put_0 : decode cX6_put 0 = .ok (.lload_n 1, 1) := by decide +kernel
theorem dX6_put_1 : decode cX6_put 1 = .ok (.invokestatic 264, 3) := by decide +kernel
theorem dX6_put_4 : decode cX6_put 4 = .ok (.istore_n 3, 1) := by decide +kernel
theorem dX6_put_5 : decode cX6_put 5 = .ok (.iload_n 3, 1) := by decide +kernel
theorem dX6_put_6 : decode cX6_put 6 = .ok (.ifCond .ne 6, 3) := by decide +kernel
theorem dX6_put_9 : decode cX6_put 9 = .ok (.bipush (-2), 2) := by decide +kernel
theorem dX6_put_11 : decode cX6_put 11 = .ok (.ireturn, 1) := by decide +kernel
theorem dX6_put_12 : decode cX6_put 12 = .ok (.aload_n 0, 1) := by decide +kernel
theorem dX6_put_13 : decode cX6_put 13 = .ok (.getfield 34, 3) := by decide +kernel
theorem dX6_put_16 : decode cX6_put 16 = .ok (.getfield 244, 3) := by decide +kernel
theorem dX6_put_19 : decode cX6_put 19 = .ok (.iload_n 3, 1) := by decide +kernel
theorem dX6_put_20 : decode cX6_put 20 = .ok (.iadd, 1) := by decide +kernel
theorem dX6_put_21 : decode cX6_put 21 = .ok (.bipush 60, 2) := by decide +kernel
theorem dX6_put_23 : decode cX6_put 23 = .ok (.if_icmp .le 6, 3) := by decide +kernel
theorem dX6_put_26 : decode cX6_put 26 = .ok (.bipush (-4), 2) := by decide +kernel
theorem dX6_put_28 : decode cX6_put 28 = .ok (.ireturn, 1) := by decide +kernel
theorem dX6_put_29 : decode cX6_put 29 = .ok (.aload_n 0, 1) := by decide +kernel
theorem dX6_put_30 : decode cX6_put 30 = .ok (.getfield 34, 3) := by decide +kernel
theorem dX6_put_33 : decode cX6_put 33 = .ok (.lload_n 1, 1) := by decide +kernel
theorem dX6_put_34 : decode cX6_put 34 = .ok (.iload_n 3, 1) := by decide +kernel
theorem dX6_put_35 : decode cX6_put 35 = .ok (.invokevirtual 268, 3) := by decide +kernel
theorem dX6_put_38 : decode cX6_put 38 = .ok (.aload_n 0, 1) := by decide +kernel
theorem dX6_put_39 : decode cX6_put 39 = .ok (.getfield 34, 3) := by decide +kernel
theorem dX6_put_42 : decode cX6_put 42 = .ok (.getfield 244, 3) := by decide +kernel
theorem dX6_put_45 : decode cX6_put 45 = .ok (.ireturn, 1) := by decide +kernel
theorem dX6_wipe_0 : decode cX6_wipe 0 = .ok (.aload_n 0, 1) := by decide +kernel
theorem dX6_wipe_1 : decode cX6_wipe 1 = .ok (.getfield 34, 3) := by decide +kernel
theorem dX6_wipe_4 : decode cX6_wipe 4 = .ok (.getfield 244, 3) := by decide +kernel
theorem dX6_wipe_7 : decode cX6_wipe 7 = .ok (.istore_n 1, 1) := by decide +kernel
theorem dX6_wipe_8 : decode cX6_wipe 8 = .ok (.aload_n 0, 1) := by decide +kernel
theorem dX6_wipe_9 : decode cX6_wipe 9 = .ok (.getfield 34, 3) := by decide +kernel
theorem dX6_wipe_12 : decode cX6_wipe 12 = .ok (.iconst 0, 1) := by decide +kernel
theorem dX6_wipe_13 : decode cX6_wipe 13 = .ok (.putfield 244, 3) := by decide +kernel
theorem dX6_wipe_16 : decode cX6_wipe 16 = .ok (.iload_n 1, 1) := by decide +kernel
theorem dX6_wipe_17 : decode cX6_wipe 17 = .ok (.ireturn, 1) := by decide +kernel
set_option maxRecDepth 20000 in
theorem ggX6_fault_X4_findFault : GoodIn wsX6_fault wsX4_findFault := goodIn_r _ [6, 7, 8, 9, 10, 11, 5, 12, 13, 14, 15, 16, 17, 18, 19, 20, 21, 22, 23, 24, 25, 26, 27, 28, 29, 35, 36, 37, 38, 39, 40, 41] rfl (by decide +kernel)
set_option maxRecDepth 20000 in
theorem gX6_fault_X4_findFault : GoodIn wsX6_fault (wsV RX6 272 RX4 yX4_findFault wsX4_findFault) := goodIn_app (goodIn_of _ (by decide +kernel)) ggX6_fault_X4_findFault
theorem dX6_fault_0 : decode cX6_fault 0 = .ok (.aload_n 0, 1) := by decide +kernel
theorem dX6_fault_1 : decode cX6_fault 1 = .ok (.getfield 34, 3) := by decide +kernel
theorem dX6_fault_4 : decode cX6_fault 4 = .ok (.invokevirtual 272, 3) := by decide +kernel
theorem dX6_fault_7 : decode cX6_fault 7 = .ok (.ireturn, 1) := by decide +kernel
set_option maxRecDepth 20000 in
theorem ggX6_load_X4_findFault : GoodIn wsX6_load wsX4_findFault := goodIn_r _ [12, 13, 14, 15, 16, 17, 11, 18, 19, 20, 21, 22, 23, 24, 25, 26, 27, 28, 29, 30, 31, 32, 33, 34, 35, 112, 113, 114, 115, 116, 117, 118] rfl (by decide +kernel)
set_option maxRecDepth 20000 in
theorem gX6_load_X4_findFault : GoodIn wsX6_load (wsV RX6 272 RX4 yX4_findFault wsX4_findFault) := goodIn_app (goodIn_of _ (by decide +kernel)) ggX6_load_X4_findFault
set_option maxRecDepth 20000 in
theorem ggX6_load_X4_readApplication : GoodIn wsX6_load wsX4_readApplication := goodIn_r _ [18, 19, 20, 21, 22, 23, 24, 25, 11, 26, 13, 14, 27, 28, 29, 30, 31, 32, 33, 34, 35, 112, 113, 114, 115, 116, 117, 118] rfl (by decide +kernel)
set_option maxRecDepth 20000 in
theorem gX6_load_X4_readApplication : GoodIn wsX6_load (wsV RX6 278 RX4 yX4_readApplication wsX4_readApplication) := goodIn_app (goodIn_of _ (by decide +kernel)) ggX6_load_X4_readApplication
set_option maxRecDepth 20000 in
theorem ggX6_load_X6_apply : GoodIn wsX6_load wsX6_apply := goodIn_r _ [41, 42, 43, 44, 45, 46, 47, 48, 49, 50, 51, 52, 53, 54, 55, 56, 57, 58, 59, 60, 40, 61, 62, 63, 64, 65, 66, 67, 68, 69, 70, 71, 72, 73, 74, 75, 76, 77, 78, 79, 80, 81, 82, 83, 84, 85, 86, 87, 88, 89, 90, 91, 92, 93, 94, 95, 96, 97, 98, 99, 100, 101, 102, 103, 104, 105, 107, 108, 109, 110, 111, 119, 120, 121, 122, 123, 124, 125, 126, 127, 128, 129, 130, 131, 132, 133, 134, 135, 136, 137, 138, 139] rfl (by decide +kernel)
set_option maxRecDepth 20000 in
theorem gX6_load_X6_apply : GoodIn wsX6_load (wsV RX6 285 RX6 yX6_apply wsX6_apply) := goodIn_app (goodIn_of _ (by decide +kernel)) ggX6_load_X6_apply
set_option maxRecDepth 20000 in
theorem ggX6_load_X4_readSign : GoodIn wsX6_load wsX4_readSign := goodIn_r _ [26, 13, 14, 27, 112, 113, 114, 115, 116, 117, 118] rfl (by decide +kernel)
set_option maxRecDepth 20000 in
theorem gX6_load_X4_readSign : GoodIn wsX6_load (wsV RX6 288 RX4 yX4_readSign wsX4_readSign) := goodIn_app (goodIn_of _ (by decide +kernel)) ggX6_load_X4_readSign
theorem dX6_load_0 : decode cX6_load 0 = .ok (.aload_n 0, 1) := by decide +kernel
theorem dX6_load_1 : decode cX6_load 1 = .ok (.getfield 34, 3) := by decide +kernel
theorem dX6_load_4 : decode cX6_load 4 = .ok (.invokevirtual 272, 3) := by decide +kernel
theorem dX6_load_7 : decode cX6_load 7 = .ok (.bipush (-6), 2) := by decide +kernel
theorem dX6_load_9 : decode cX6_load 9 = .ok (.if_icmp .eq 6, 3) := by decide +kernel
theorem dX6_load_12 : decode cX6_load 12 = .ok (.bipush (-3), 2) := by decide +kernel
theorem dX6_load_14 : decode cX6_load 14 = .ok (.ireturn, 1) := by decide +kernel
theorem dX6_load_15 : decode cX6_load 15 = .ok (.iconst 0, 1) := by decide +kernel
theorem dX6_load_16 : decode cX6_load 16 = .ok (.istore_n 1, 1) := by decide +kernel
theorem dX6_load_17 : decode cX6_load 17 = .ok (.iconst 1, 1) := by decide +kernel
theorem dX6_load_18 : decode cX6_load 18 = .ok (.istore_n 2, 1) := by decide +kernel
theorem dX6_load_19 : decode cX6_load 19 = .ok (.aload_n 0, 1) := by decide +kernel
theorem dX6_load_20 : decode cX6_load 20 = .ok (.getfield 34, 3) := by decide +kernel
theorem dX6_load_23 : decode cX6_load 23 = .ok (.iconst 0, 1) := by decide +kernel
theorem dX6_load_24 : decode cX6_load 24 = .ok (.putfield 275, 3) := by decide +kernel
theorem dX6_load_27 : decode cX6_load 27 = .ok (.iconst 0, 1) := by decide +kernel
theorem dX6_load_28 : decode cX6_load 28 = .ok (.istore_n 3, 1) := by decide +kernel
theorem dX6_load_29 : decode cX6_load 29 = .ok (.iload_n 2, 1) := by decide +kernel
theorem dX6_load_30 : decode cX6_load 30 = .ok (.ifCond .eq 86, 3) := by decide +kernel
theorem dX6_load_33 : decode cX6_load 33 = .ok (.iload_n 3, 1) := by decide +kernel
theorem dX6_load_34 : decode cX6_load 34 = .ok (.aload_n 0, 1) := by decide +kernel
theorem dX6_load_35 : decode cX6_load 35 = .ok (.getfield 34, 3) := by decide +kernel
theorem dX6_load_38 : decode cX6_load 38 = .ok (.getfield 244, 3) := by decide +kernel
theorem dX6_load_41 : decode cX6_load 41 = .ok (.if_icmp .ge 75, 3) := by decide +kernel
theorem dX6_load_44 : decode cX6_load 44 = .ok (.aload_n 0, 1) := by decide +kernel
theorem dX6_load_45 : decode cX6_load 45 = .ok (.getfield 34, 3) := by decide +kernel
theorem dX6_load_48 : decode cX6_load 48 = .ok (.invokevirtual 278, 3) := by decide +kernel
theorem dX6_load_51 : decode cX6_load 51 = .ok (.pop, 1) := by decide +kernel
theorem dX6_load_52 : decode cX6_load 52 = .ok (.aload_n 0, 1) := by decide +kernel
theorem dX6_load_53 : decode cX6_load 53 = .ok (.aload_n 0, 1) := by decide +kernel
theorem dX6_load_54 : decode cX6_load 54 = .ok (.getfield 34, 3) := by decide +kernel
theorem dX6_load_57 : decode cX6_load 57 = .ok (.getfield 281, 3) := by decide +kernel
theorem dX6_load_60 : decode cX6_load 60 = .ok (.aload_n 0, 1) := by decide +kernel
theorem dX6_load_61 : decode cX6_load 61 = .ok (.getfield 34, 3) := by decide +kernel
theorem dX6_load_64 : decode cX6_load 64 = .ok (.getfield 282, 3) := by decide +kernel
theorem dX6_load_67 : decode cX6_load 67 = .ok (.aload_n 0, 1) := by decide +kernel
theorem dX6_load_68 : decode cX6_load 68 = .ok (.getfield 34, 3) := by decide +kernel
theorem dX6_load_71 : decode cX6_load 71 = .ok (.getfield 283, 3) := by decide +kernel
theorem dX6_load_74 : decode cX6_load 74 = .ok (.aload_n 0, 1) := by decide +kernel
theorem dX6_load_75 : decode cX6_load 75 = .ok (.getfield 34, 3) := by decide +kernel
theorem dX6_load_78 : decode cX6_load 78 = .ok (.getfield 284, 3) := by decide +kernel
theorem dX6_load_81 : decode cX6_load 81 = .ok (.invokevirtual 285, 3) := by decide +kernel
theorem dX6_load_84 : decode cX6_load 84 = .ok (.ifCond .lt 7, 3) := by decide +kernel
theorem dX6_load_87 : decode cX6_load 87 = .ok (.iconst 1, 1) := by decide +kernel
theorem dX6_load_88 : decode cX6_load 88 = .ok (.goto 4, 3) := by decide +kernel
theorem dX6_load_91 : decode cX6_load 91 = .ok (.iconst 0, 1) := by decide +kernel
theorem dX6_load_92 : decode cX6_load 92 = .ok (.istore_n 2, 1) := by decide +kernel
theorem dX6_load_93 : decode cX6_load 93 = .ok (.iload_n 2, 1) := by decide +kernel
theorem dX6_load_94 : decode cX6_load 94 = .ok (.ifCond .eq 16, 3) := by decide +kernel
theorem dX6_load_97 : decode cX6_load 97 = .ok (.iinc 1 1, 3) := by decide +kernel
theorem dX6_load_100 : decode cX6_load 100 = .ok (.aload_n 0, 1) := by decide +kernel
theorem dX6_load_101 : decode cX6_load 101 = .ok (.getfield 34, 3) := by decide +kernel
theorem dX6_load_104 : decode cX6_load 104 = .ok (.bipush 59, 2) := by decide +kernel
theorem dX6_load_106 : decode cX6_load 106 = .ok (.invokevirtual 288, 3) := by decide +kernel
theorem dX6_load_109 : decode cX6_load 109 = .ok (.istore_n 2, 1) := by decide +kernel
theorem dX6_load_110 : decode cX6_load 110 = .ok (.iinc 3 1, 3) := by decide +kernel
theorem dX6_load_113 : decode cX6_load 113 = .ok (.goto (-84), 3) := by decide +kernel
theorem dX6_load_116 : decode cX6_load 116 = .ok (.aload_n 0, 1) := by decide +kernel
theorem dX6_load_117 : decode cX6_load 117 = .ok (.getfield 34, 3) := by decide +kernel
theorem dX6_load_120 : decode cX6_load 120 = .ok (.iconst 0, 1) := by decide +kernel
theorem dX6_load_121 : decode cX6_load 121 = .ok (.putfield 244, 3) := by decide +kernel
theorem dX6_load_124 : decode cX6_load 124 = .ok (.iload_n 1, 1) := by decide +kernel
theorem dX6_load_125 : decode cX6_load 125 = .ok (.ireturn, 1) := by decide +kernel
set_option maxRecDepth 20000 in
theorem ggX6_save_X3_copyFrom : GoodIn wsX6_save wsX3_copyFrom := goodIn_r _ [9, 10, 11, 12, 13, 14, 15, 16, 17, 18, 19, 20, 21, 22, 23, 24, 25, 26, 27, 28, 29, 30, 31, 32, 33, 34, 35, 36, 37, 38, 39, 40, 41, 42, 43, 44, 45, 46, 47, 53, 54, 55, 56, 57, 58, 59, 60, 61, 62, 63, 64, 65, 66, 67, 68, 69, 70, 71, 72, 73, 74, 75] rfl (by decide +kernel)
set_option maxRecDepth 20000 in
theorem gX6_save_X3_copyFrom : GoodIn wsX6_save (wsV RX6 292 RX3 yX3_copyFrom wsX3_copyFrom) := goodIn_app (goodIn_of _ (by decide +kernel)) ggX6_save_X3_copyFrom
theorem dX6_save_0 : decode cX6_save 0 = .ok (.iload_n 1, 1) := by decide +kernel
theorem dX6_save_1 : decode cX6_save 1 = .ok (.ifCond .lt 8, 3) := by decide +kernel
theorem dX6_save_4 : decode cX6_save 4 = .ok (.iload_n 1, 1) := by decide +kernel
theorem dX6_save_5 : decode cX6_save 5 = .ok (.iconst 2, 1) := by decide +kernel
theorem dX6_save_6 : decode cX6_save 6 = .ok (.if_icmp .lt 6, 3) := by decide +kernel
theorem dX6_save_9 : decode cX6_save 9 = .ok (.bipush (-2), 2) := by decide +kernel
theorem dX6_save_11 : decode cX6_save 11 = .ok (.ireturn, 1) := by decide +kernel
theorem dX6_save_12 : decode cX6_save 12 = .ok (.aload_n 0, 1) := by decide +kernel
theorem dX6_save_13 : decode cX6_save 13 = .ok (.getfield 16, 3) := by decide +kernel
theorem dX6_save_16 : decode cX6_save 16 = .ok (.iload_n 1, 1) := by decide +kernel
theorem dX6_save_17 : decode cX6_save 17 = .ok (.aaload, 1) := by decide +kernel
theorem dX6_save_18 : decode cX6_save 18 = .ok (.aload_n 0, 1) := by decide +kernel
theorem dX6_save_19 : decode cX6_save 19 = .ok (.getfield 10, 3) := by decide +kernel
theorem dX6_save_22 : decode cX6_save 22 = .ok (.invokevirtual 292, 3) := by decide +kernel
theorem dX6_save_25 : decode cX6_save 25 = .ok (.aload_n 0, 1) := by decide +kernel
theorem dX6_save_26 : decode cX6_save 26 = .ok (.getfield 20, 3) := by decide +kernel
theorem dX6_save_29 : decode cX6_save 29 = .ok (.iload_n 1, 1) := by decide +kernel
theorem dX6_save_30 : decode cX6_save 30 = .ok (.iconst 1, 1) := by decide +kernel
theorem dX6_save_31 : decode cX6_save 31 = .ok (.bastore, 1) := by decide +kernel
theorem dX6_save_32 : decode cX6_save 32 = .ok (.aload_n 0, 1) := by decide +kernel
theorem dX6_save_33 : decode cX6_save 33 = .ok (.getfield 10, 3) := by decide +kernel
theorem dX6_save_36 : decode cX6_save 36 = .ok (.getfield 176, 3) := by decide +kernel
theorem dX6_save_39 : decode cX6_save 39 = .ok (.ireturn, 1) := by decide +kernel
set_option maxRecDepth 20000 in
theorem ggX6_restore_X3_copyFrom : GoodIn wsX6_restore wsX3_copyFrom := goodIn_r _ [9, 10, 11, 12, 13, 14, 15, 16, 17, 18, 19, 20, 21, 22, 23, 24, 25, 26, 27, 28, 29, 30, 31, 32, 33, 34, 35, 36, 37, 38, 39, 40, 41, 42, 43, 44, 45, 46, 47, 53, 54, 55, 56, 57, 58, 59, 60, 61, 62, 63, 64, 65, 66, 67, 68, 69, 70, 71, 72, 73, 74, 75] rfl (by decide +kernel)
set_option maxRecDepth 20000 in
theorem gX6_restore_X3_copyFrom : GoodIn wsX6_restore (wsV RX6 292 RX3 yX3_copyFrom wsX3_copyFrom) := goodIn_app (goodIn_of _ (by decide +kernel)) ggX6_restore_X3_copyFrom
theorem dX6_restore_0 : decode cX6_restore 0 = .ok (.iload_n 1, 1) := by decide +kernel
theorem dX6_restore_1 : decode cX6_restore 1 = .ok (.ifCond .lt 8, 3) := by decide +kernel
theorem dX6_restore_4 : decode cX6_restore 4 = .ok (.iload_n 1, 1) := by decide +kernel
theorem dX6_restore_5 : decode cX6_restore 5 = .ok (.iconst 2, 1) := by decide +kernel
theorem dX6_restore_6 : decode cX6_restore 6 = .ok (.if_icmp .lt 6, 3) := by decide +kernel
theorem dX6_restore_9 : decode cX6_restore 9 = .ok (.bipush (-2), 2) := by decide +kernel
theorem dX6_restore_11 : decode cX6_restore 11 = .ok (.ireturn, 1) := by decide +kernel
theorem dX6_restore_12 : decode cX6_restore 12 = .ok (.aload_n 0, 1) := by decide +kernel
theorem dX6_restore_13 : decode cX6_restore 13 = .ok (.getfield 20, 3) := by decide +kernel
theorem dX6_restore_16 : decode cX6_restore 16 = .ok (.iload_n 1, 1) := by decide +kernel
theorem dX6_restore_17 : decode cX6_restore 17 = .ok (.baload, 1) := by decide +kernel
theorem dX6_restore_18 : decode cX6_restore 18 = .ok (.ifCond .ne 6, 3) := by decide +kernel
theorem dX6_restore_21 : decode cX6_restore 21 = .ok (.bipush (-5), 2) := by decide +kernel
theorem dX6_restore_23 : decode cX6_restore 23 = .ok (.ireturn, 1) := by decide +kernel
theorem dX6_restore_24 : decode cX6_restore 24 = .ok (.aload_n 0, 1) := by decide +kernel
theorem dX6_restore_25 : decode cX6_restore 25 = .ok (.getfield 10, 3) := by decide +kernel
theorem dX6_restore_28 : decode cX6_restore 28 = .ok (.aload_n 0, 1) := by decide +kernel
theorem dX6_restore_29 : decode cX6_restore 29 = .ok (.getfield 16, 3) := by decide +kernel
theorem dX6_restore_32 : decode cX6_restore 32 = .ok (.iload_n 1, 1) := by decide +kernel
theorem dX6_restore_33 : decode cX6_restore 33 = .ok (.aaload, 1) := by decide +kernel
theorem dX6_restore_34 : decode cX6_restore 34 = .ok (.invokevirtual 292, 3) := by decide +kernel
theorem dX6_restore_37 : decode cX6_restore 37 = .ok (.aload_n 0, 1) := by decide +kernel
theorem dX6_restore_38 : decode cX6_restore 38 = .ok (.getfield 10, 3) := by decide +kernel
theorem dX6_restore_41 : decode cX6_restore 41 = .ok (.getfield 176, 3) := by decide +kernel
theorem dX6_restore_44 : decode cX6_restore 44 = .ok (.ireturn, 1) := by decide +kernel
theorem dX6_isDay_0 : decode cX6_isDay 0 = .ok (.iload_n 0, 1) := by decide +kernel
theorem dX6_isDay_1 : decode cX6_isDay 1 = .ok (.ifCond .lt 13, 3) := by decide +kernel
theorem dX6_isDay_4 : decode cX6_isDay 4 = .ok (.iload_n 0, 1) := by decide +kernel
theorem dX6_isDay_5 : decode cX6_isDay 5 = .ok (.bipush 60, 2) := by decide +kernel
theorem dX6_isDay_7 : decode cX6_isDay 7 = .ok (.if_icmp .ge 7, 3) := by decide +kernel
theorem dX6_isDay_10 : decode cX6_isDay 10 = .ok (.iconst 1, 1) := by decide +kernel
theorem dX6_isDay_11 : decode cX6_isDay 11 = .ok (.goto 4, 3) := by decide +kernel
theorem dX6_isDay_14 : decode cX6_isDay 14 = .ok (.iconst 0, 1) := by decide +kernel
theorem dX6_isDay_15 : decode cX6_isDay 15 = .ok (.ireturn, 1) := by decide +kernel
theorem dX7_init_0 : decode cX7_init 0 = .ok (.aload_n 0, 1) := by decide +kernel
theorem dX7_init_1 : decode cX7_init 1 = .ok (.invokespecial 1, 3) := by decide +kernel
theorem dX7_init_4 : decode cX7_init 4 = .ok (.aload_n 0, 1) := by decide +kernel
theorem dX7_init_5 : decode cX7_init 5 = .ok (.sipush 478, 3) := by decide +kernel
theorem dX7_init_8 : decode cX7_init 8 = .ok (.newarray .int, 2) := by decide +kernel
theorem dX7_init_10 : decode cX7_init 10 = .ok (.putfield 7, 3) := by decide +kernel
theorem dX7_init_13 : decode cX7_init 13 = .ok (.aload_n 0, 1) := by decide +kernel
theorem dX7_init_14 : decode cX7_init 14 = .ok (.sipush 478, 3) := by decide +kernel
theorem dX7_init_17 : decode cX7_init 17 = .ok (.newarray .int, 2) := by decide +kernel
theorem dX7_init_19 : decode cX7_init 19 = .ok (.putfield 13, 3) := by decide +kernel
theorem dX7_init_22 : decode cX7_init 22 = .ok (.aload_n 0, 1) := by decide +kernel
theorem dX7_init_23 : decode cX7_init 23 = .ok (.sipush 956, 3) := by decide +kernel
theorem dX7_init_26 : decode cX7_init 26 = .ok (.newarray .int, 2) := by decide +kernel
theorem dX7_init_28 : decode cX7_init 28 = .ok (.putfield 16, 3) := by decide +kernel
theorem dX7_init_31 : decode cX7_init 31 = .ok (.aload_n 0, 1) := by decide +kernel
theorem dX7_init_32 : decode cX7_init 32 = .ok (.iconst 2, 1) := by decide +kernel
theorem dX7_init_33 : decode cX7_init 33 = .ok (.newarray .boolean, 2) := by decide +kernel
theorem dX7_init_35 : decode cX7_init 35 = .ok (.putfield 19, 3) := by decide +kernel
theorem dX7_init_38 : decode cX7_init 38 = .ok (.aload_n 0, 1) := by decide +kernel
theorem dX7_init_39 : decode cX7_init 39 = .ok (.bipush 60, 2) := by decide +kernel
theorem dX7_init_41 : decode cX7_init 41 = .ok (.newarray .int, 2) := by decide +kernel
theorem dX7_init_43 : decode cX7_init 43 = .ok (.putfield 23, 3) := by decide +kernel
theorem dX7_init_46 : decode cX7_init 46 = .ok (.aload_n 0, 1) := by decide +kernel
theorem dX7_init_47 : decode cX7_init 47 = .ok (.bipush 40, 2) := by decide +kernel
theorem dX7_init_49 : decode cX7_init 49 = .ok (.newarray .int, 2) := by decide +kernel
theorem dX7_init_51 : decode cX7_init 51 = .ok (.putfield 26, 3) := by decide +kernel
theorem dX7_init_54 : decode cX7_init 54 = .ok (.aload_n 0, 1) := by decide +kernel
theorem dX7_init_55 : decode cX7_init 55 = .ok (.bipush 40, 2) := by decide +kernel
theorem dX7_init_57 : decode cX7_init 57 = .ok (.newarray .boolean, 2) := by decide +kernel
theorem dX7_init_59 : decode cX7_init 59 = .ok (.putfield 29, 3) := by decide +kernel
theorem dX7_init_62 : decode cX7_init 62 = .ok (.aload_n 0, 1) := by decide +kernel
theorem dX7_init_63 : decode cX7_init 63 = .ok (.bipush 48, 2) := by decide +kernel
theorem dX7_init_65 : decode cX7_init 65 = .ok (.newarray .int, 2) := by decide +kernel
theorem dX7_init_67 : decode cX7_init 67 = .ok (.putfield 32, 3) := by decide +kernel
theorem dX7_init_70 : decode cX7_init 70 = .ok (.aload_n 0, 1) := by decide +kernel
theorem dX7_init_71 : decode cX7_init 71 = .ok (.getfield 7, 3) := by decide +kernel
theorem dX7_init_74 : decode cX7_init 74 = .ok (.iconst 4, 1) := by decide +kernel
theorem dX7_init_75 : decode cX7_init 75 = .ok (.bipush 100, 2) := by decide +kernel
theorem dX7_init_77 : decode cX7_init 77 = .ok (.iastore, 1) := by decide +kernel
theorem dX7_init_78 : decode cX7_init 78 = .ok (.aload_n 0, 1) := by decide +kernel
theorem dX7_init_79 : decode cX7_init 79 = .ok (.getfield 7, 3) := by decide +kernel
theorem dX7_init_82 : decode cX7_init 82 = .ok (.iconst 5, 1) := by decide +kernel
theorem dX7_init_83 : decode cX7_init 83 = .ok (.iconst 1, 1) := by decide +kernel
theorem dX7_init_84 : decode cX7_init 84 = .ok (.iastore, 1) := by decide +kernel
theorem dX7_init_85 : decode cX7_init 85 = .ok (.aload_n 0, 1) := by decide +kernel
theorem dX7_init_86 : decode cX7_init 86 = .ok (.getfield 7, 3) := by decide +kernel
theorem dX7_init_89 : decode cX7_init 89 = .ok (.bipush 6, 2) := by decide +kernel
theorem dX7_init_91 : decode cX7_init 91 = .ok (.iconst 2, 1) := by decide +kernel
theorem dX7_init_92 : decode cX7_init 92 = .ok (.iastore, 1) := by decide +kernel
theorem dX7_init_93 : decode cX7_init 93 = .ok (.aload_n 0, 1) := by decide +kernel
theorem dX7_init_94 : decode cX7_init 94 = .ok (.getfield 7, 3) := by decide +kernel
theorem dX7_init_97 : decode cX7_init 97 = .ok (.bipush 7, 2) := by decide +kernel
theorem dX7_init_99 : decode cX7_init 99 = .ok (.bipush 10, 2) := by decide +kernel
theorem dX7_init_101 : decode cX7_init 101 = .ok (.iastore, 1) := by decide +kernel
theorem dX7_init_102 : decode cX7_init 102 = .ok (.aload_n 0, 1) := by decide +kernel
theorem dX7_init_103 : decode cX7_init 103 = .ok (.getfield 7, 3) := by decide +kernel
theorem dX7_init_106 : decode cX7_init 106 = .ok (.bipush 8, 2) := by decide +kernel
theorem dX7_init_108 : decode cX7_init 108 = .ok (.iconst 3, 1) := by decide +kernel
theorem dX7_init_109 : decode cX7_init 109 = .ok (.iastore, 1) := by decide +kernel
theorem dX7_init_110 : decode cX7_init 110 = .ok (.aload_n 0, 1) := by decide +kernel
theorem dX7_init_111 : decode cX7_init 111 = .ok (.getfield 7, 3) := by decide +kernel
theorem dX7_init_114 : decode cX7_init 114 = .ok (.bipush 9, 2) := by decide +kernel
theorem dX7_init_116 : decode cX7_init 116 = .ok (.iconst 1, 1) := by decide +kernel
theorem dX7_init_117 : decode cX7_init 117 = .ok (.iastore, 1) := by decide +kernel
theorem dX7_init_118 : decode cX7_init 118 = .ok (.return_, 1) := by decide +kernel
theorem dX7_in_0 : decode cX7_in 0 = .ok (.iload_n 0, 1) := by decide +kernel
theorem dX7_in_1 : decode cX7_in 1 = .ok (.iload_n 1, 1) := by decide +kernel
theorem dX7_in_2 : decode cX7_in 2 = .ok (.if_icmp .lt 12, 3) := by decide +kernel
theorem dX7_in_5 : decode cX7_in 5 = .ok (.iload_n 0, 1) := by decide +kernel
theorem dX7_in_6 : decode cX7_in 6 = .ok (.iload_n 2, 1) := by decide +kernel
theorem dX7_in_7 : decode cX7_in 7 = .ok (.if_icmp .gt 7, 3) := by decide +kernel
theorem dX7_in_10 : decode cX7_in 10 = .ok (.iconst 1, 1) := by decide +kernel
theorem dX7_in_11 : decode cX7_in 11 = .ok (.goto 4, 3) := by decide +kernel
theorem dX7_in_14 : decode cX7_in 14 = .ok (.iconst 0, 1) := by decide +kernel
theorem dX7_in_15 : decode cX7_in 15 = .ok (.ireturn, 1) := by decide +kernel
theorem dX7_setting_0 : decode cX7_setting 0 = .ok (.aload_n 0, 1) := by decide +kernel
theorem dX7_setting_1 : decode cX7_setting 1 = .ok (.getfield 7, 3) := by decide +kernel
theorem dX7_setting_4 : decode cX7_setting 4 = .ok (.iconst 4, 1) := by decide +kernel
theorem dX7_setting_5 : decode cX7_setting 5 = .ok (.iload_n 1, 1) := by decide +kernel
theorem dX7_setting_6 : decode cX7_setting 6 = .ok (.iadd, 1) := by decide +kernel
theorem dX7_setting_7 : decode cX7_setting 7 = .ok (.iaload, 1) := by decide +kernel
theorem dX7_setting_8 : decode cX7_setting 8 = .ok (.ireturn, 1) := by decide +kernel
theorem dX7_of_0 : decode cX7_of 0 = .ok (.aload_n 0, 1) := by decide +kernel
theorem dX7_of_1 : decode cX7_of 1 = .ok (.getfield 7, 3) := by decide +kernel
theorem dX7_of_4 : decode cX7_of 4 = .ok (.bipush 118, 2) := by decide +kernel
theorem dX7_of_6 : decode cX7_of 6 = .ok (.bipush 9, 2) := by decide +kernel
theorem dX7_of_8 : decode cX7_of 8 = .ok (.iload_n 1, 1) := by decide +kernel
theorem dX7_of_9 : decode cX7_of 9 = .ok (.imul, 1) := by decide +kernel
theorem dX7_of_10 : decode cX7_of 10 = .ok (.iadd, 1) := by decide +kernel
theorem dX7_of_11 : decode cX7_of 11 = .ok (.iload_n 2, 1) := by decide +kernel
theorem dX7_of_12 : decode cX7_of 12 = .ok (.iadd, 1) := by decide +kernel
theorem dX7_of_13 : decode cX7_of 13 = .ok (.iaload, 1) := by decide +kernel
theorem dX7_of_14 : decode cX7_of 14 = .ok (.ireturn, 1) := by decide +kernel
theorem dX7_lay_0 : decode cX7_lay 0 = .ok (.aload_n 0, 1) := by decide +kernel
theorem dX7_lay_1 : decode cX7_lay 1 = .ok (.getfield 7, 3) := by decide +kernel
theorem dX7_lay_4 : decode cX7_lay 4 = .ok (.bipush 118, 2) := by decide +kernel
theorem dX7_lay_6 : decode cX7_lay 6 = .ok (.bipush 9, 2) := by decide +kernel
theorem dX7_lay_8 : decode cX7_lay 8 = .ok (.iload_n 1, 1) := by decide +kernel
theorem dX7_lay_9 : decode cX7_lay 9 = .ok (.imul, 1) := by decide +kernel
theorem dX7_lay_10 : decode cX7_lay 10 = .ok (.iadd, 1) := by decide +kernel
theorem dX7_lay_11 : decode cX7_lay 11 = .ok (.iload_n 2, 1) := by decide +kernel
theorem dX7_lay_12 : decode cX7_lay 12 = .ok (.iadd, 1) := by decide +kernel
theorem dX7_lay_13 : decode cX7_lay 13 = .ok (.iload_n 3, 1) := by decide +kernel
theorem dX7_lay_14 : decode cX7_lay 14 = .ok (.iastore, 1) := by decide +kernel
theorem dX7_lay_15 : decode cX7_lay 15 = .ok (.return_, 1) := by decide +kernel
theorem dX7_ofClimber_0 : decode cX7_ofClimber 0 = .ok (.aload_n 0, 1) := by decide +kernel
theorem dX7_ofClimber_1 : decode cX7_ofClimber 1 = .ok (.getfield 7, 3) := by decide +kernel
theorem dX7_ofClimber_4 : decode cX7_ofClimber 4 = .ok (.bipush 82, 2) := by decide +kernel
theorem dX7_ofClimber_6 : decode cX7_ofClimber 6 = .ok (.iconst 3, 1) := by decide +kernel
theorem dX7_ofClimber_7 : decode cX7_ofClimber 7 = .ok (.iload_n 1, 1) := by decide +kernel
theorem dX7_ofClimber_8 : decode cX7_ofClimber 8 = .ok (.imul, 1) := by decide +kernel
theorem dX7_ofClimber_9 : decode cX7_ofClimber 9 = .ok (.iadd, 1) := by decide +kernel
theorem dX7_ofClimber_10 : decode cX7_ofClimber 10 = .ok (.iload_n 2, 1) := by decide +kernel
theorem dX7_ofClimber_11 : decode cX7_ofClimber 11 = .ok (.iadd, 1) := by decide +kernel
theorem dX7_ofClimber_12 : decode cX7_ofClimber 12 = .ok (.iaload, 1) := by decide +kernel
theorem dX7_ofClimber_13 : decode cX7_ofClimber 13 = .ok (.ireturn, 1) := by decide +kernel
theorem dX7_layClimber_0 : decode cX7_layClimber 0 = .ok (.aload_n 0, 1) := by decide +kernel
theorem dX7_layClimber_1 : decode cX7_layClimber 1 = .ok (.getfield 7, 3) := by decide +kernel
theorem dX7_layClimber_4 : decode cX7_layClimber 4 = .ok (.bipush 82, 2) := by decide +kernel
theorem dX7_layClimber_6 : decode cX7_layClimber 6 = .ok (.iconst 3, 1) := by decide +kernel
theorem dX7_layClimber_7 : decode cX7_layClimber 7 = .ok (.iload_n 1, 1) := by decide +kernel
theorem dX7_layClimber_8 : decode cX7_layClimber 8 = .ok (.imul, 1) := by decide +kernel
theorem dX7_layClimber_9 : decode cX7_layClimber 9 = .ok (.iadd, 1) := by decide +kernel
theorem dX7_layClimber_10 : decode cX7_layClimber 10 = .ok (.iload_n 2, 1) := by decide +kernel
theorem dX7_layClimber_11 : decode cX7_layClimber 11 = .ok (.iadd, 1) := by decide +kernel
theorem dX7_layClimber_12 : decode cX7_layClimber 12 = .ok (.iload_n 3, 1) := by decide +kernel
theorem dX7_layClimber_13 : decode cX7_layClimber 13 = .ok (.iastore, 1) := by decide +kernel
theorem dX7_layClimber_14 : decode cX7_layClimber 14 = .ok (.return_, 1) := by decide +kernel
set_option maxRecDepth 20000 in
theorem ggX7_isRoute_X7_in : GoodIn wsX7_isRoute wsX7_in := goodIn_r _ [5] rfl (by decide +kernel)
set_option maxRecDepth 20000 in
theorem gX7_isRoute_X7_in : GoodIn wsX7_isRoute (va_wsS RX7 35 yX7_in wsX7_in) := goodIn_app (goodIn_of _ (by decide +kernel)) ggX7_isRoute_X7_in
theorem dX7_isRoute_0 : decode cX7_isRoute 0 = .ok (.iload_n 1, 1) := by decide +kernel
theorem dX7_isRoute_1 : decode cX7_isRoute 1 = .ok (.iconst 0, 1) := by decide +kernel
theorem dX7_isRoute_2 : decode cX7_isRoute 2 = .ok (.aload_n 0, 1) := by decide +kernel
theorem dX7_isRoute_3 : decode cX7_isRoute 3 = .ok (.getfield 7, 3) := by decide +kernel
theorem dX7_isRoute_6 : decode cX7_isRoute 6 = .ok (.iconst 1, 1) := by decide +kernel
theorem dX7_isRoute_7 : decode cX7_isRoute 7 = .ok (.iaload, 1) := by decide +kernel
theorem dX7_isRoute_8 : decode cX7_isRoute 8 = .ok (.iconst 1, 1) := by decide +kernel
theorem dX7_isRoute_9 : decode cX7_isRoute 9 = .ok (.isub, 1) := by decide +kernel
theorem dX7_isRoute_10 : decode cX7_isRoute 10 = .ok (.invokestatic 35, 3) := by decide +kernel
theorem dX7_isRoute_13 : decode cX7_isRoute 13 = .ok (.ireturn, 1) := by decide +kernel
set_option maxRecDepth 20000 in
theorem ggX7_isClimber_X7_in : GoodIn wsX7_isClimber wsX7_in := goodIn_r _ [5] rfl (by decide +kernel)
set_option maxRecDepth 20000 in
theorem gX7_isClimber_X7_in : GoodIn wsX7_isClimber (va_wsS RX7 35 yX7_in wsX7_in) := goodIn_app (goodIn_of _ (by decide +kernel)) ggX7_isClimber_X7_in
theorem dX7_isClimber_0 : decode cX7_isClimber 0 = .ok (.iload_n 1, 1) := by decide +kernel
theorem dX7_isClimber_1 : decode cX7_isClimber 1 = .ok (.iconst 0, 1) := by decide +kernel
theorem dX7_isClimber_2 : decode cX7_isClimber 2 = .ok (.aload_n 0, 1) := by decide +kernel
theorem dX7_isClimber_3 : decode cX7_isClimber 3 = .ok (.getfield 7, 3) := by decide +kernel
theorem dX7_isClimber_6 : decode cX7_isClimber 6 = .ok (.iconst 2, 1) := by decide +kernel
theorem dX7_isClimber_7 : decode cX7_isClimber 7 = .ok (.iaload, 1) := by decide +kernel
theorem dX7_isClimber_8 : decode cX7_isClimber 8 = .ok (.iconst 1, 1) := by decide +kernel
theorem dX7_isClimber_9 : decode cX7_isClimber 9 = .ok (.isub, 1) := by decide +kernel
theorem dX7_isClimber_10 : decode cX7_isClimber 10 = .ok (.invokestatic 35, 3) := by decide +kernel
theorem dX7_isClimber_13 : decode cX7_isClimber 13 = .ok (.ireturn, 1) := by decide +kernel
set_option maxRecDepth 20000 in
theorem ggX7_isApplication_X7_in : GoodIn wsX7_isApplication wsX7_in := goodIn_r _ [5] rfl (by decide +kernel)
set_option maxRecDepth 20000 in
theorem gX7_isApplication_X7_in : GoodIn wsX7_isApplication (va_wsS RX7 35 yX7_in wsX7_in) := goodIn_app (goodIn_of _ (by decide +kernel)) ggX7_isApplication_X7_in
theorem dX7_isApplication_0 : decode cX7_isApplication 0 = .ok (.iload_n 1, 1) := by decide +kernel
theorem dX7_isApplication_1 : decode cX7_isApplication 1 = .ok (.iconst 0, 1) := by decide +kernel
theorem dX7_isApplication_2 : decode cX7_isApplication 2 = .ok (.aload_n 0, 1) := by decide +kernel
theorem dX7_isApplication_3 : decode cX7_isApplication 3 = .ok (.getfield 7, 3) := by decide +kernel
theorem dX7_isApplication_6 : decode cX7_isApplication 6 = .ok (.iconst 3, 1) := by decide +kernel
theorem dX7_isApplication_7 : decode cX7_isApplication 7 = .ok (.iaload, 1) := by decide +kernel
theorem dX7_isApplication_8 : decode cX7_isApplication 8 = .ok (.iconst 1, 1) := by decide +kernel
theorem dX7_isApplication_9 : decode cX7_isApplication 9 = .ok (.isub, 1) := by decide +kernel
theorem dX7_isApplication_10 : decode cX7_isApplication 10 = .ok (.invokestatic 35, 3) := by decide +kernel
theorem dX7_isApplication_13 : decode cX7_isApplication 13 = .ok (.ireturn, 1) := by decide +kernel
set_option maxRecDepth 20000 in
theorem ggX7_isDay_X7_in : GoodIn wsX7_isDay wsX7_in := goodIn_r _ [4] rfl (by decide +kernel)
set_option maxRecDepth 20000 in
theorem gX7_isDay_X7_in : GoodIn wsX7_isDay (va_wsS RX7 35 yX7_in wsX7_in) := goodIn_app (goodIn_of _ (by decide +kernel)) ggX7_isDay_X7_in
theorem dX7_isDay_0 : decode cX7_isDay 0 = .ok (.iload_n 0, 1) := by decide +kernel
theorem dX7_isDay_1 : decode cX7_isDay 1 = .ok (.iconst 0, 1) := by decide +kernel
theorem dX7_isDay_2 : decode cX7_isDay 2 = .ok (.bipush 59, 2) := by decide +kernel
theorem dX7_isDay_4 : decode cX7_isDay 4 = .ok (.invokestatic 35, 3) := by decide +kernel
theorem dX7_isDay_7 : decode cX7_isDay 7 = .ok (.ireturn, 1) := by decide +kernel
theorem dX7_isClosed_0 : decode cX7_isClosed 0 = .ok (.aload_n 0, 1) := by decide +kernel
theorem dX7_isClosed_1 : decode cX7_isClosed 1 = .ok (.getfield 7, 3) := by decide +kernel
theorem dX7_isClosed_4 : decode cX7_isClosed 4 = .ok (.bipush 22, 2) := by decide +kernel
theorem dX7_isClosed_6 : decode cX7_isClosed 6 = .ok (.iload_n 1, 1) := by decide +kernel
theorem dX7_isClosed_7 : decode cX7_isClosed 7 = .ok (.iadd, 1) := by decide +kernel
theorem dX7_isClosed_8 : decode cX7_isClosed 8 = .ok (.iaload, 1) := by decide +kernel
theorem dX7_isClosed_9 : decode cX7_isClosed 9 = .ok (.iconst 1, 1) := by decide +kernel
theorem dX7_isClosed_10 : decode cX7_isClosed 10 = .ok (.if_icmp .ne 7, 3) := by decide +kernel
theorem dX7_isClosed_13 : decode cX7_isClosed 13 = .ok (.iconst 1, 1) := by decide +kernel
theorem dX7_isClosed_14 : decode cX7_isClosed 14 = .ok (.goto 4, 3) := by decide +kernel
theorem dX7_isClosed_17 : decode cX7_isClosed 17 = .ok (.iconst 0, 1) := by decide +kernel
theorem dX7_isClosed_18 : decode cX7_isClosed 18 = .ok (.ireturn, 1) := by decide +kernel
set_option maxRecDepth 20000 in
theorem ggX7_isBarred_X7_ofClimber : GoodIn wsX7_isBarred wsX7_ofClimber := goodIn_r _ [5, 6, 7, 8, 9, 10, 11, 12, 13, 14, 15, 16, 17, 18] rfl (by decide +kernel)
set_option maxRecDepth 20000 in
theorem gX7_isBarred_X7_ofClimber : GoodIn wsX7_isBarred (wsV RX7 39 RX7 yX7_ofClimber wsX7_ofClimber) := goodIn_app (goodIn_of _ (by decide +kernel)) ggX7_isBarred_X7_ofClimber
theorem dX7_isBarred_0 : decode cX7_isBarred 0 = .ok (.aload_n 0, 1) := by decide +kernel
theorem dX7_isBarred_1 : decode cX7_isBarred 1 = .ok (.iload_n 1, 1) := by decide +kernel
theorem dX7_isBarred_2 : decode cX7_isBarred 2 = .ok (.iconst 2, 1) := by decide +kernel
theorem dX7_isBarred_3 : decode cX7_isBarred 3 = .ok (.invokevirtual 39, 3) := by decide +kernel
theorem dX7_isBarred_6 : decode cX7_isBarred 6 = .ok (.iload_n 2, 1) := by decide +kernel
theorem dX7_isBarred_7 : decode cX7_isBarred 7 = .ok (.if_icmp .lt 7, 3) := by decide +kernel
theorem dX7_isBarred_10 : decode cX7_isBarred 10 = .ok (.iconst 1, 1) := by decide +kernel
theorem dX7_isBarred_11 : decode cX7_isBarred 11 = .ok (.goto 4, 3) := by decide +kernel
theorem dX7_isBarred_14 : decode cX7_isBarred 14 = .ok (.iconst 0, 1) := by decide +kernel
theorem dX7_isBarred_15 : decode cX7_isBarred 15 = .ok (.ireturn, 1) := by decide +kernel
theorem dX7_limitOf_0 : decode cX7_limitOf 0 = .ok (.aload_n 0, 1) := by decide +kernel
theorem dX7_limitOf_1 : decode cX7_limitOf 1 = .ok (.getfield 7, 3) := by decide +kernel
theorem dX7_limitOf_4 : decode cX7_limitOf 4 = .ok (.bipush 10, 2) := by decide +kernel
theorem dX7_limitOf_6 : decode cX7_limitOf 6 = .ok (.iconst 2, 1) := by decide +kernel
theorem dX7_limitOf_7 : decode cX7_limitOf 7 = .ok (.iload_n 1, 1) := by decide +kernel
theorem dX7_limitOf_8 : decode cX7_limitOf 8 = .ok (.imul, 1) := by decide +kernel
theorem dX7_limitOf_9 : decode cX7_limitOf 9 = .ok (.iadd, 1) := by decide +kernel
theorem dX7_limitOf_10 : decode cX7_limitOf 10 = .ok (.iaload, 1) := by decide +kernel
theorem dX7_limitOf_11 : decode cX7_limitOf 11 = .ok (.ireturn, 1) := by decide +kernel
theorem dX7_bufferOf_0 : decode cX7_bufferOf 0 = .ok (.aload_n 0, 1) := by decide +kernel
theorem dX7_bufferOf_1 : decode cX7_bufferOf 1 = .ok (.getfield 7, 3) := by decide +kernel
theorem dX7_bufferOf_4 : decode cX7_bufferOf 4 = .ok (.bipush 10, 2) := by decide +kernel
theorem dX7_bufferOf_6 : decode cX7_bufferOf 6 = .ok (.iconst 2, 1) := by decide +kernel
theorem dX7_bufferOf_7 : decode cX7_bufferOf 7 = .ok (.iload_n 1, 1) := by decide +kernel
theorem dX7_bufferOf_8 : decode cX7_bufferOf 8 = .ok (.imul, 1) := by decide +kernel
theorem dX7_bufferOf_9 : decode cX7_bufferOf 9 = .ok (.iadd, 1) := by decide +kernel
theorem dX7_bufferOf_10 : decode cX7_bufferOf 10 = .ok (.iconst 1, 1) := by decide +kernel
theorem dX7_bufferOf_11 : decode cX7_bufferOf 11 = .ok (.iadd, 1) := by decide +kernel
theorem dX7_bufferOf_12 : decode cX7_bufferOf 12 = .ok (.iaload, 1) := by decide +kernel
theorem dX7_bufferOf_13 : decode cX7_bufferOf 13 = .ok (.ireturn, 1) := by decide +kernel
set_option maxRecDepth 20000 in
theorem ggX7_route_X7_in : GoodIn wsX7_route wsX7_in := goodIn_r _ [5] rfl (by decide +kernel)
set_option maxRecDepth 20000 in
theorem gX7_route_X7_in : GoodIn wsX7_route (va_wsS RX7 35 yX7_in wsX7_in) := goodIn_app (goodIn_of _ (by decide +kernel)) ggX7_route_X7_in
theorem dX7_route_0 : decode cX7_route 0 = .ok (.iload_n 1, 1) := by decide +kernel
theorem dX7_route_1 : decode cX7_route 1 = .ok (.iconst 1, 1) := by decide +kernel
theorem dX7_route_2 : decode cX7_route 2 = .ok (.bipush 12, 2) := by decide +kernel
theorem dX7_route_4 : decode cX7_route 4 = .ok (.invokestatic 35, 3) := by decide +kernel
theorem dX7_route_7 : decode cX7_route 7 = .ok (.ifCond .eq 12, 3) := by decide +kernel
theorem dX7_route_10 : decode cX7_route 10 = .ok (.iload_n 2, 1) := by decide +kernel
theorem dX7_route_11 : decode cX7_route 11 = .ok (.iconst 0, 1) := by decide +kernel
theorem dX7_route_12 : decode cX7_route 12 = .ok (.iload_n 1, 1) := by decide +kernel
theorem dX7_route_13 : decode cX7_route 13 = .ok (.invokestatic 35, 3) := by decide +kernel
theorem dX7_route_16 : decode cX7_route 16 = .ok (.ifCond .ne 6, 3) := by decide +kernel
theorem dX7_route_19 : decode cX7_route 19 = .ok (.bipush (-2), 2) := by decide +kernel
theorem dX7_route_21 : decode cX7_route 21 = .ok (.ireturn, 1) := by decide +kernel
theorem dX7_route_22 : decode cX7_route 22 = .ok (.aload_n 0, 1) := by decide +kernel
theorem dX7_route_23 : decode cX7_route 23 = .ok (.getfield 7, 3) := by decide +kernel
theorem dX7_route_26 : decode cX7_route 26 = .ok (.iconst 1, 1) := by decide +kernel
theorem dX7_route_27 : decode cX7_route 27 = .ok (.iaload, 1) := by decide +kernel
theorem dX7_route_28 : decode cX7_route 28 = .ok (.bipush 6, 2) := by decide +kernel
theorem dX7_route_30 : decode cX7_route 30 = .ok (.if_icmp .ne 6, 3) := by decide +kernel
theorem dX7_route_33 : decode cX7_route 33 = .ok (.bipush (-4), 2) := by decide +kernel
theorem dX7_route_35 : decode cX7_route 35 = .ok (.ireturn, 1) := by decide +kernel
theorem dX7_route_36 : decode cX7_route 36 = .ok (.aload_n 0, 1) := by decide +kernel
theorem dX7_route_37 : decode cX7_route 37 = .ok (.getfield 7, 3) := by decide +kernel
theorem dX7_route_40 : decode cX7_route 40 = .ok (.bipush 10, 2) := by decide +kernel
theorem dX7_route_42 : decode cX7_route 42 = .ok (.iconst 2, 1) := by decide +kernel
theorem dX7_route_43 : decode cX7_route 43 = .ok (.aload_n 0, 1) := by decide +kernel
theorem dX7_route_44 : decode cX7_route 44 = .ok (.getfield 7, 3) := by decide +kernel
theorem dX7_route_47 : decode cX7_route 47 = .ok (.iconst 1, 1) := by decide +kernel
theorem dX7_route_48 : decode cX7_route 48 = .ok (.iaload, 1) := by decide +kernel
theorem dX7_route_49 : decode cX7_route 49 = .ok (.imul, 1) := by decide +kernel
theorem dX7_route_50 : decode cX7_route 50 = .ok (.iadd, 1) := by decide +kernel
theorem dX7_route_51 : decode cX7_route 51 = .ok (.iload_n 1, 1) := by decide +kernel
theorem dX7_route_52 : decode cX7_route 52 = .ok (.iastore, 1) := by decide +kernel
theorem dX7_route_53 : decode cX7_route 53 = .ok (.aload_n 0, 1) := by decide +kernel
theorem dX7_route_54 : decode cX7_route 54 = .ok (.getfield 7, 3) := by decide +kernel
theorem dX7_route_57 : decode cX7_route 57 = .ok (.bipush 10, 2) := by decide +kernel
theorem dX7_route_59 : decode cX7_route 59 = .ok (.iconst 2, 1) := by decide +kernel
theorem dX7_route_60 : decode cX7_route 60 = .ok (.aload_n 0, 1) := by decide +kernel
theorem dX7_route_61 : decode cX7_route 61 = .ok (.getfield 7, 3) := by decide +kernel
theorem dX7_route_64 : decode cX7_route 64 = .ok (.iconst 1, 1) := by decide +kernel
theorem dX7_route_65 : decode cX7_route 65 = .ok (.iaload, 1) := by decide +kernel
theorem dX7_route_66 : decode cX7_route 66 = .ok (.imul, 1) := by decide +kernel
theorem dX7_route_67 : decode cX7_route 67 = .ok (.iadd, 1) := by decide +kernel
theorem dX7_route_68 : decode cX7_route 68 = .ok (.iconst 1, 1) := by decide +kernel
theorem dX7_route_69 : decode cX7_route 69 = .ok (.iadd, 1) := by decide +kernel
theorem dX7_route_70 : decode cX7_route 70 = .ok (.iload_n 2, 1) := by decide +kernel
theorem dX7_route_71 : decode cX7_route 71 = .ok (.iastore, 1) := by decide +kernel
theorem dX7_route_72 : decode cX7_route 72 = .ok (.aload_n 0, 1) := by decide +kernel
theorem dX7_route_73 : decode cX7_route 73 = .ok (.getfield 7, 3) := by decide +kernel
theorem dX7_route_76 : decode cX7_route 76 = .ok (.iconst 1, 1) := by decide +kernel
theorem dX7_route_77 : decode cX7_route 77 = .ok (.dup2, 1) := by decide +kernel
theorem dX7_route_78 : decode cX7_route 78 = .ok (.iaload, 1) := by decide +kernel
theorem dX7_route_79 : decode cX7_route 79 = .ok (.iconst 1, 1) := by decide +kernel
theorem dX7_route_80 : decode cX7_route 80 = .ok (.iadd, 1) := by decide +kernel
theorem dX7_route_81 : decode cX7_route 81 = .ok (.iastore, 1) := by decide +kernel
theorem dX7_route_82 : decode cX7_route 82 = .ok (.aload_n 0, 1) := by decide +kernel
theorem dX7_route_83 : decode cX7_route 83 = .ok (.getfield 7, 3) := by decide +kernel
theorem dX7_route_86 : decode cX7_route 86 = .ok (.iconst 1, 1) := by decide +kernel
theorem dX7_route_87 : decode cX7_route 87 = .ok (.iaload, 1) := by decide +kernel
theorem dX7_route_88 : decode cX7_route 88 = .ok (.iconst 1, 1) := by decide +kernel
theorem dX7_route_89 : decode cX7_route 89 = .ok (.isub, 1) := by decide +kernel
theorem dX7_route_90 : decode cX7_route 90 = .ok (.ireturn, 1) := by decide +kernel
set_option maxRecDepth 20000 in
theorem ggX7_buffer_X7_isRoute : GoodIn wsX7_buffer wsX7_isRoute := goodIn_r _ [6, 1, 7, 8, 5, 9, 18, 19, 20, 21, 22, 23, 24, 25, 26, 27, 28, 29] rfl (by decide +kernel)
set_option maxRecDepth 20000 in
theorem gX7_buffer_X7_isRoute : GoodIn wsX7_buffer (wsV RX7 43 RX7 yX7_isRoute wsX7_isRoute) := goodIn_app (goodIn_of _ (by decide +kernel)) ggX7_buffer_X7_isRoute
set_option maxRecDepth 20000 in
theorem ggX7_buffer_X7_limitOf : GoodIn wsX7_buffer wsX7_limitOf := goodIn_r _ [13, 1, 18, 19, 20, 21, 22, 23, 24, 25, 26, 27, 28, 29] rfl (by decide +kernel)
set_option maxRecDepth 20000 in
theorem gX7_buffer_X7_limitOf : GoodIn wsX7_buffer (wsV RX7 47 RX7 yX7_limitOf wsX7_limitOf) := goodIn_app (goodIn_of _ (by decide +kernel)) ggX7_buffer_X7_limitOf
set_option maxRecDepth 20000 in
theorem ggX7_buffer_X7_in : GoodIn wsX7_buffer wsX7_in := goodIn_r _ [9] rfl (by decide +kernel)
set_option maxRecDepth 20000 in
theorem gX7_buffer_X7_in : GoodIn wsX7_buffer (va_wsS RX7 35 yX7_in wsX7_in) := goodIn_app (goodIn_of _ (by decide +kernel)) ggX7_buffer_X7_in
set_option maxRecDepth 20000 in
theorem ggX7_buffer_X7_bufferOf : GoodIn wsX7_buffer wsX7_bufferOf := goodIn_r _ [17, 1, 18, 19, 20, 21, 22, 23, 24, 25, 26, 27, 28, 29] rfl (by decide +kernel)
set_option maxRecDepth 20000 in
theorem gX7_buffer_X7_bufferOf : GoodIn wsX7_buffer (wsV RX7 51 RX7 yX7_bufferOf wsX7_bufferOf) := goodIn_app (goodIn_of _ (by decide +kernel)) ggX7_buffer_X7_bufferOf
theorem dX7_buffer_0 : decode cX7_buffer 0 = .ok (.aload_n 0, 1) := by decide +kernel
theorem dX7_buffer_1 : decode cX7_buffer 1 = .ok (.iload_n 1, 1) := by decide +kernel
theorem dX7_buffer_2 : decode cX7_buffer 2 = .ok (.invokevirtual 43, 3) := by decide +kernel
theorem dX7_buffer_5 : decode cX7_buffer 5 = .ok (.ifCond .ne 5, 3) := by decide +kernel
theorem dX7_buffer_8 : decode cX7_buffer 8 = .ok (.iconst (-1), 1) := by decide +kernel
theorem dX7_buffer_9 : decode cX7_buffer 9 = .ok (.ireturn, 1) := by decide +kernel
theorem dX7_buffer_10 : decode cX7_buffer 10 = .ok (.iload_n 2, 1) := by decide +kernel
theorem dX7_buffer_11 : decode cX7_buffer 11 = .ok (.iconst 0, 1) := by decide +kernel
theorem dX7_buffer_12 : decode cX7_buffer 12 = .ok (.aload_n 0, 1) := by decide +kernel
theorem dX7_buffer_13 : decode cX7_buffer 13 = .ok (.iload_n 1, 1) := by decide +kernel
theorem dX7_buffer_14 : decode cX7_buffer 14 = .ok (.invokevirtual 47, 3) := by decide +kernel
theorem dX7_buffer_17 : decode cX7_buffer 17 = .ok (.invokestatic 35, 3) := by decide +kernel
theorem dX7_buffer_20 : decode cX7_buffer 20 = .ok (.ifCond .ne 6, 3) := by decide +kernel
theorem dX7_buffer_23 : decode cX7_buffer 23 = .ok (.bipush (-2), 2) := by decide +kernel
theorem dX7_buffer_25 : decode cX7_buffer 25 = .ok (.ireturn, 1) := by decide +kernel
theorem dX7_buffer_26 : decode cX7_buffer 26 = .ok (.aload_n 0, 1) := by decide +kernel
theorem dX7_buffer_27 : decode cX7_buffer 27 = .ok (.iload_n 1, 1) := by decide +kernel
theorem dX7_buffer_28 : decode cX7_buffer 28 = .ok (.invokevirtual 51, 3) := by decide +kernel
theorem dX7_buffer_31 : decode cX7_buffer 31 = .ok (.istore_n 3, 1) := by decide +kernel
theorem dX7_buffer_32 : decode cX7_buffer 32 = .ok (.aload_n 0, 1) := by decide +kernel
theorem dX7_buffer_33 : decode cX7_buffer 33 = .ok (.getfield 7, 3) := by decide +kernel
theorem dX7_buffer_36 : decode cX7_buffer 36 = .ok (.bipush 10, 2) := by decide +kernel
theorem dX7_buffer_38 : decode cX7_buffer 38 = .ok (.iconst 2, 1) := by decide +kernel
theorem dX7_buffer_39 : decode cX7_buffer 39 = .ok (.iload_n 1, 1) := by decide +kernel
theorem dX7_buffer_40 : decode cX7_buffer 40 = .ok (.imul, 1) := by decide +kernel
theorem dX7_buffer_41 : decode cX7_buffer 41 = .ok (.iadd, 1) := by decide +kernel
theorem dX7_buffer_42 : decode cX7_buffer 42 = .ok (.iconst 1, 1) := by decide +kernel
theorem dX7_buffer_43 : decode cX7_buffer 43 = .ok (.iadd, 1) := by decide +kernel
theorem dX7_buffer_44 : decode cX7_buffer 44 = .ok (.iload_n 2, 1) := by decide +kernel
theorem dX7_buffer_45 : decode cX7_buffer 45 = .ok (.iastore, 1) := by decide +kernel
theorem dX7_buffer_46 : decode cX7_buffer 46 = .ok (.iload_n 3, 1) := by decide +kernel
theorem dX7_buffer_47 : decode cX7_buffer 47 = .ok (.ireturn, 1) := by decide +kernel
set_option maxRecDepth 20000 in
theorem ggX7_join_X7_layClimber : GoodIn wsX7_join wsX7_layClimber := goodIn_r _ [6, 1, 7, 8, 9, 10, 11, 12, 13, 14, 15, 16, 17, 18] rfl (by decide +kernel)
set_option maxRecDepth 20000 in
theorem gX7_join_X7_layClimber : GoodIn wsX7_join (wsV RX7 54 RX7 yX7_layClimber wsX7_layClimber) := goodIn_app (goodIn_of _ (by decide +kernel)) ggX7_join_X7_layClimber
theorem dX7_join_0 : decode cX7_join 0 = .ok (.aload_n 0, 1) := by decide +kernel
theorem dX7_join_1 : decode cX7_join 1 = .ok (.getfield 7, 3) := by decide +kernel
theorem dX7_join_4 : decode cX7_join 4 = .ok (.iconst 2, 1) := by decide +kernel
theorem dX7_join_5 : decode cX7_join 5 = .ok (.iaload, 1) := by decide +kernel
theorem dX7_join_6 : decode cX7_join 6 = .ok (.bipush 12, 2) := by decide +kernel
theorem dX7_join_8 : decode cX7_join 8 = .ok (.if_icmp .ne 6, 3) := by decide +kernel
theorem dX7_join_11 : decode cX7_join 11 = .ok (.bipush (-4), 2) := by decide +kernel
theorem dX7_join_13 : decode cX7_join 13 = .ok (.ireturn, 1) := by decide +kernel
theorem dX7_join_14 : decode cX7_join 14 = .ok (.aload_n 0, 1) := by decide +kernel
theorem dX7_join_15 : decode cX7_join 15 = .ok (.getfield 7, 3) := by decide +kernel
theorem dX7_join_18 : decode cX7_join 18 = .ok (.iconst 2, 1) := by decide +kernel
theorem dX7_join_19 : decode cX7_join 19 = .ok (.iaload, 1) := by decide +kernel
theorem dX7_join_20 : decode cX7_join 20 = .ok (.istore_n 1, 1) := by decide +kernel
theorem dX7_join_21 : decode cX7_join 21 = .ok (.aload_n 0, 1) := by decide +kernel
theorem dX7_join_22 : decode cX7_join 22 = .ok (.iload_n 1, 1) := by decide +kernel
theorem dX7_join_23 : decode cX7_join 23 = .ok (.iconst 0, 1) := by decide +kernel
theorem dX7_join_24 : decode cX7_join 24 = .ok (.iconst 0, 1) := by decide +kernel
theorem dX7_join_25 : decode cX7_join 25 = .ok (.invokevirtual 54, 3) := by decide +kernel
theorem dX7_join_28 : decode cX7_join 28 = .ok (.aload_n 0, 1) := by decide +kernel
theorem dX7_join_29 : decode cX7_join 29 = .ok (.iload_n 1, 1) := by decide +kernel
theorem dX7_join_30 : decode cX7_join 30 = .ok (.iconst 1, 1) := by decide +kernel
theorem dX7_join_31 : decode cX7_join 31 = .ok (.iconst 0, 1) := by decide +kernel
theorem dX7_join_32 : decode cX7_join 32 = .ok (.invokevirtual 54, 3) := by decide +kernel
theorem dX7_join_35 : decode cX7_join 35 = .ok (.aload_n 0, 1) := by decide +kernel
theorem dX7_join_36 : decode cX7_join 36 = .ok (.iload_n 1, 1) := by decide +kernel
theorem dX7_join_37 : decode cX7_join 37 = .ok (.iconst 2, 1) := by decide +kernel
theorem dX7_join_38 : decode cX7_join 38 = .ok (.bipush (-6), 2) := by decide +kernel
theorem dX7_join_40 : decode cX7_join 40 = .ok (.invokevirtual 54, 3) := by decide +kernel
theorem dX7_join_43 : decode cX7_join 43 = .ok (.aload_n 0, 1) := by decide +kernel
theorem dX7_join_44 : decode cX7_join 44 = .ok (.getfield 7, 3) := by decide +kernel
theorem dX7_join_47 : decode cX7_join 47 = .ok (.iconst 2, 1) := by decide +kernel
theorem dX7_join_48 : decode cX7_join 48 = .ok (.dup2, 1) := by decide +kernel
theorem dX7_join_49 : decode cX7_join 49 = .ok (.iaload, 1) := by decide +kernel
theorem dX7_join_50 : decode cX7_join 50 = .ok (.iconst 1, 1) := by decide +kernel
theorem dX7_join_51 : decode cX7_join 51 = .ok (.iadd, 1) := by decide +kernel
theorem dX7_join_52 : decode cX7_join 52 = .ok (.iastore, 1) := by decide +kernel
theorem dX7_join_53 : decode cX7_join 53 = .ok (.iload_n 1, 1) := by decide +kernel
theorem dX7_join_54 : decode cX7_join 54 = .ok (.ireturn, 1) := by decide +kernel
set_option maxRecDepth 20000 in
theorem ggX7_takes_X7_in : GoodIn wsX7_takes wsX7_in := goodIn_r _ [5] rfl (by decide +kernel)
set_option maxRecDepth 20000 in
theorem gX7_takes_X7_in : GoodIn wsX7_takes (va_wsS RX7 35 yX7_in wsX7_in) := goodIn_app (goodIn_of _ (by decide +kernel)) ggX7_takes_X7_in
theorem dX7_takes_0 : decode cX7_takes 0 = .ok (.iload_n 0, 1) := by decide +kernel
theorem dX7_takes_1 : decode cX7_takes 1 = .ok (.tableswitch 75 0 4 #[35, 44, 52, 59, 67], 35) := by decide +kernel
theorem dX7_takes_36 : decode cX7_takes 36 = .ok (.iload_n 1, 1) := by decide +kernel
theorem dX7_takes_37 : decode cX7_takes 37 = .ok (.iconst 1, 1) := by decide +kernel
theorem dX7_takes_38 : decode cX7_takes 38 = .ok (.sipush 1000, 3) := by decide +kernel
theorem dX7_takes_41 : decode cX7_takes 41 = .ok (.invokestatic 35, 3) := by decide +kernel
theorem dX7_takes_44 : decode cX7_takes 44 = .ok (.ireturn, 1) := by decide +kernel
theorem dX7_takes_45 : decode cX7_takes 45 = .ok (.iload_n 1, 1) := by decide +kernel
theorem dX7_takes_46 : decode cX7_takes 46 = .ok (.iconst 0, 1) := by decide +kernel
theorem dX7_takes_47 : decode cX7_takes 47 = .ok (.bipush 9, 2) := by decide +kernel
theorem dX7_takes_49 : decode cX7_takes 49 = .ok (.invokestatic 35, 3) := by decide +kernel
theorem dX7_takes_52 : decode cX7_takes 52 = .ok (.ireturn, 1) := by decide +kernel
theorem dX7_takes_53 : decode cX7_takes 53 = .ok (.iload_n 1, 1) := by decide +kernel
theorem dX7_takes_54 : decode cX7_takes 54 = .ok (.iconst 1, 1) := by decide +kernel
theorem dX7_takes_55 : decode cX7_takes 55 = .ok (.iconst 5, 1) := by decide +kernel
theorem dX7_takes_56 : decode cX7_takes 56 = .ok (.invokestatic 35, 3) := by decide +kernel
theorem dX7_takes_59 : decode cX7_takes 59 = .ok (.ireturn, 1) := by decide +kernel
theorem dX7_takes_60 : decode cX7_takes 60 = .ok (.iload_n 1, 1) := by decide +kernel
theorem dX7_takes_61 : decode cX7_takes 61 = .ok (.iconst 0, 1) := by decide +kernel
theorem dX7_takes_62 : decode cX7_takes 62 = .ok (.bipush 30, 2) := by decide +kernel
theorem dX7_takes_64 : decode cX7_takes 64 = .ok (.invokestatic 35, 3) := by decide +kernel
theorem dX7_takes_67 : decode cX7_takes 67 = .ok (.ireturn, 1) := by decide +kernel
theorem dX7_takes_68 : decode cX7_takes 68 = .ok (.iload_n 1, 1) := by decide +kernel
theorem dX7_takes_69 : decode cX7_takes 69 = .ok (.iconst 0, 1) := by decide +kernel
theorem dX7_takes_70 : decode cX7_takes 70 = .ok (.bipush 10, 2) := by decide +kernel
theorem dX7_takes_72 : decode cX7_takes 72 = .ok (.invokestatic 35, 3) := by decide +kernel
theorem dX7_takes_75 : decode cX7_takes 75 = .ok (.ireturn, 1) := by decide +kernel
theorem dX7_takes_76 : decode cX7_takes 76 = .ok (.iload_n 0, 1) := by decide +kernel
theorem dX7_takes_77 : decode cX7_takes 77 = .ok (.iconst 5, 1) := by decide +kernel
theorem dX7_takes_78 : decode cX7_takes 78 = .ok (.if_icmp .ne 17, 3) := by decide +kernel
theorem dX7_takes_81 : decode cX7_takes 81 = .ok (.iload_n 1, 1) := by decide +kernel
theorem dX7_takes_82 : decode cX7_takes 82 = .ok (.iconst 0, 1) := by decide +kernel
theorem dX7_takes_83 : decode cX7_takes 83 = .ok (.ldc 58, 2) := by decide +kernel
theorem dX7_takes_85 : decode cX7_takes 85 = .ok (.invokestatic 35, 3) := by decide +kernel
theorem dX7_takes_88 : decode cX7_takes 88 = .ok (.ifCond .eq 7, 3) := by decide +kernel
theorem dX7_takes_91 : decode cX7_takes 91 = .ok (.iconst 1, 1) := by decide +kernel
theorem dX7_takes_92 : decode cX7_takes 92 = .ok (.goto 4, 3) := by decide +kernel
theorem dX7_takes_95 : decode cX7_takes 95 = .ok (.iconst 0, 1) := by decide +kernel
theorem dX7_takes_96 : decode cX7_takes 96 = .ok (.ireturn, 1) := by decide +kernel
set_option maxRecDepth 20000 in
theorem ggX7_set_X7_takes : GoodIn wsX7_set wsX7_takes := goodIn_r _ [5, 6, 7, 8, 4, 9] rfl (by decide +kernel)
set_option maxRecDepth 20000 in
theorem gX7_set_X7_takes : GoodIn wsX7_set (va_wsS RX7 59 yX7_takes wsX7_takes) := goodIn_app (goodIn_of _ (by decide +kernel)) ggX7_set_X7_takes
set_option maxRecDepth 20000 in
theorem ggX7_set_X7_setting : GoodIn wsX7_set wsX7_setting := goodIn_r _ [13, 1, 14, 15, 16, 17, 18, 19, 20, 21, 22, 23, 24, 25] rfl (by decide +kernel)
set_option maxRecDepth 20000 in
theorem gX7_set_X7_setting : GoodIn wsX7_set (wsV RX7 63 RX7 yX7_setting wsX7_setting) := goodIn_app (goodIn_of _ (by decide +kernel)) ggX7_set_X7_setting
theorem dX7_set_0 : decode cX7_set 0 = .ok (.iload_n 1, 1) := by decide +kernel
theorem dX7_set_1 : decode cX7_set 1 = .ok (.iload_n 2, 1) := by decide +kernel
theorem dX7_set_2 : decode cX7_set 2 = .ok (.invokestatic 59, 3) := by decide +kernel
theorem dX7_set_5 : decode cX7_set 5 = .ok (.ifCond .ne 6, 3) := by decide +kernel
theorem dX7_set_8 : decode cX7_set 8 = .ok (.bipush (-2), 2) := by decide +kernel
theorem dX7_set_10 : decode cX7_set 10 = .ok (.ireturn, 1) := by decide +kernel
theorem dX7_set_11 : decode cX7_set 11 = .ok (.aload_n 0, 1) := by decide +kernel
theorem dX7_set_12 : decode cX7_set 12 = .ok (.iload_n 1, 1) := by decide +kernel
theorem dX7_set_13 : decode cX7_set 13 = .ok (.invokevirtual 63, 3) := by decide +kernel
theorem dX7_set_16 : decode cX7_set 16 = .ok (.istore_n 3, 1) := by decide +kernel
theorem dX7_set_17 : decode cX7_set 17 = .ok (.aload_n 0, 1) := by decide +kernel
theorem dX7_set_18 : decode cX7_set 18 = .ok (.getfield 7, 3) := by decide +kernel
theorem dX7_set_21 : decode cX7_set 21 = .ok (.iconst 4, 1) := by decide +kernel
theorem dX7_set_22 : decode cX7_set 22 = .ok (.iload_n 1, 1) := by decide +kernel
theorem dX7_set_23 : decode cX7_set 23 = .ok (.iadd, 1) := by decide +kernel
theorem dX7_set_24 : decode cX7_set 24 = .ok (.iload_n 2, 1) := by decide +kernel
theorem dX7_set_25 : decode cX7_set 25 = .ok (.iastore, 1) := by decide +kernel
theorem dX7_set_26 : decode cX7_set 26 = .ok (.iload_n 3, 1) := by decide +kernel
theorem dX7_set_27 : decode cX7_set 27 = .ok (.ireturn, 1) := by decide +kernel
set_option maxRecDepth 20000 in
theorem ggX7_isOn_X7_of : GoodIn wsX7_isOn wsX7_of := goodIn_r _ [5, 6, 7, 8, 9, 10, 11, 12, 13, 14, 15, 16, 17, 18] rfl (by decide +kernel)
set_option maxRecDepth 20000 in
theorem gX7_isOn_X7_of : GoodIn wsX7_isOn (wsV RX7 66 RX7 yX7_of wsX7_of) := goodIn_app (goodIn_of _ (by decide +kernel)) ggX7_isOn_X7_of
theorem dX7_isOn_0 : decode cX7_isOn 0 = .ok (.aload_n 0, 1) := by decide +kernel
theorem dX7_isOn_1 : decode cX7_isOn 1 = .ok (.iload_n 1, 1) := by decide +kernel
theorem dX7_isOn_2 : decode cX7_isOn 2 = .ok (.iconst 1, 1) := by decide +kernel
theorem dX7_isOn_3 : decode cX7_isOn 3 = .ok (.invokevirtual 66, 3) := by decide +kernel
theorem dX7_isOn_6 : decode cX7_isOn 6 = .ok (.iload_n 2, 1) := by decide +kernel
theorem dX7_isOn_7 : decode cX7_isOn 7 = .ok (.if_icmp .ne 17, 3) := by decide +kernel
theorem dX7_isOn_10 : decode cX7_isOn 10 = .ok (.aload_n 0, 1) := by decide +kernel
theorem dX7_isOn_11 : decode cX7_isOn 11 = .ok (.iload_n 1, 1) := by decide +kernel
theorem dX7_isOn_12 : decode cX7_isOn 12 = .ok (.iconst 2, 1) := by decide +kernel
theorem dX7_isOn_13 : decode cX7_isOn 13 = .ok (.invokevirtual 66, 3) := by decide +kernel
theorem dX7_isOn_16 : decode cX7_isOn 16 = .ok (.iload_n 3, 1) := by decide +kernel
theorem dX7_isOn_17 : decode cX7_isOn 17 = .ok (.if_icmp .ne 7, 3) := by decide +kernel
theorem dX7_isOn_20 : decode cX7_isOn 20 = .ok (.iconst 1, 1) := by decide +kernel
theorem dX7_isOn_21 : decode cX7_isOn 21 = .ok (.goto 4, 3) := by decide +kernel
theorem dX7_isOn_24 : decode cX7_isOn 24 = .ok (.iconst 0, 1) := by decide +kernel
theorem dX7_isOn_25 : decode cX7_isOn 25 = .ok (.ireturn, 1) := by decide +kernel
set_option maxRecDepth 20000 in
theorem ggX7_taken_X7_of : GoodIn wsX7_taken wsX7_of := goodIn_r _ [6, 1, 11, 12, 13, 14, 15, 16, 17, 18, 19, 20, 21, 22] rfl (by decide +kernel)
set_option maxRecDepth 20000 in
theorem gX7_taken_X7_of : GoodIn wsX7_taken (wsV RX7 66 RX7 yX7_of wsX7_of) := goodIn_app (goodIn_of _ (by decide +kernel)) ggX7_taken_X7_of
set_option maxRecDepth 20000 in
theorem ggX7_taken_X7_isOn : GoodIn wsX7_taken wsX7_isOn := goodIn_r _ [10, 2, 3, 4, 5, 6, 1, 11, 12, 13, 14, 15, 16, 17, 18, 19, 20, 21, 22] rfl (by decide +kernel)
set_option maxRecDepth 20000 in
theorem gX7_taken_X7_isOn : GoodIn wsX7_taken (wsV RX7 69 RX7 yX7_isOn wsX7_isOn) := goodIn_app (goodIn_of _ (by decide +kernel)) ggX7_taken_X7_isOn
theorem dX7_taken_0 : decode cX7_taken 0 = .ok (.iconst 0, 1) := by decide +kernel
theorem dX7_taken_1 : decode cX7_taken 1 = .ok (.istore_n 3, 1) := by decide +kernel
theorem dX7_taken_2 : decode cX7_taken 2 = .ok (.iconst 0, 1) := by decide +kernel
theorem dX7_taken_3 : decode cX7_taken 3 = .ok (.istore 4, 2) := by decide +kernel
theorem dX7_taken_5 : decode cX7_taken 5 = .ok (.iload 4, 2) := by decide +kernel
theorem dX7_taken_7 : decode cX7_taken 7 = .ok (.aload_n 0, 1) := by decide +kernel
theorem dX7_taken_8 : decode cX7_taken 8 = .ok (.getfield 7, 3) := by decide +kernel
theorem dX7_taken_11 : decode cX7_taken 11 = .ok (.iconst 3, 1) := by decide +kernel
theorem dX7_taken_12 : decode cX7_taken 12 = .ok (.iaload, 1) := by decide +kernel
theorem dX7_taken_13 : decode cX7_taken 13 = .ok (.if_icmp .ge 74, 3) := by decide +kernel
theorem dX7_taken_16 : decode cX7_taken 16 = .ok (.aload_n 0, 1) := by decide +kernel
theorem dX7_taken_17 : decode cX7_taken 17 = .ok (.iload 4, 2) := by decide +kernel
theorem dX7_taken_19 : decode cX7_taken 19 = .ok (.iconst 4, 1) := by decide +kernel
theorem dX7_taken_20 : decode cX7_taken 20 = .ok (.invokevirtual 66, 3) := by decide +kernel
theorem dX7_taken_23 : decode cX7_taken 23 = .ok (.istore 5, 2) := by decide +kernel
theorem dX7_taken_25 : decode cX7_taken 25 = .ok (.iload 5, 2) := by decide +kernel
theorem dX7_taken_27 : decode cX7_taken 27 = .ok (.iconst 1, 1) := by decide +kernel
theorem dX7_taken_28 : decode cX7_taken 28 = .ok (.if_icmp .eq 16, 3) := by decide +kernel
theorem dX7_taken_31 : decode cX7_taken 31 = .ok (.iload 5, 2) := by decide +kernel
theorem dX7_taken_33 : decode cX7_taken 33 = .ok (.iconst 5, 1) := by decide +kernel
theorem dX7_taken_34 : decode cX7_taken 34 = .ok (.if_icmp .eq 10, 3) := by decide +kernel
theorem dX7_taken_37 : decode cX7_taken 37 = .ok (.iload 5, 2) := by decide +kernel
theorem dX7_taken_39 : decode cX7_taken 39 = .ok (.bipush 6, 2) := by decide +kernel
theorem dX7_taken_41 : decode cX7_taken 41 = .ok (.if_icmp .ne 7, 3) := by decide +kernel
theorem dX7_taken_44 : decode cX7_taken 44 = .ok (.iconst 1, 1) := by decide +kernel
theorem dX7_taken_45 : decode cX7_taken 45 = .ok (.goto 4, 3) := by decide +kernel
theorem dX7_taken_48 : decode cX7_taken 48 = .ok (.iconst 0, 1) := by decide +kernel
theorem dX7_taken_49 : decode cX7_taken 49 = .ok (.istore 6, 2) := by decide +kernel
theorem dX7_taken_51 : decode cX7_taken 51 = .ok (.iload_n 3, 1) := by decide +kernel
theorem dX7_taken_52 : decode cX7_taken 52 = .ok (.iload 6, 2) := by decide +kernel
theorem dX7_taken_54 : decode cX7_taken 54 = .ok (.ifCond .eq 24, 3) := by decide +kernel
theorem dX7_taken_57 : decode cX7_taken 57 = .ok (.aload_n 0, 1) := by decide +kernel
theorem dX7_taken_58 : decode cX7_taken 58 = .ok (.iload 4, 2) := by decide +kernel
theorem dX7_taken_60 : decode cX7_taken 60 = .ok (.iload_n 1, 1) := by decide +kernel
theorem dX7_taken_61 : decode cX7_taken 61 = .ok (.iload_n 2, 1) := by decide +kernel
theorem dX7_taken_62 : decode cX7_taken 62 = .ok (.invokevirtual 69, 3) := by decide +kernel
theorem dX7_taken_65 : decode cX7_taken 65 = .ok (.ifCond .eq 13, 3) := by decide +kernel
theorem dX7_taken_68 : decode cX7_taken 68 = .ok (.aload_n 0, 1) := by decide +kernel
theorem dX7_taken_69 : decode cX7_taken 69 = .ok (.iload 4, 2) := by decide +kernel
theorem dX7_taken_71 : decode cX7_taken 71 = .ok (.iconst 3, 1) := by decide +kernel
theorem dX7_taken_72 : decode cX7_taken 72 = .ok (.invokevirtual 66, 3) := by decide +kernel
theorem dX7_taken_75 : decode cX7_taken 75 = .ok (.goto 4, 3) := by decide +kernel
theorem dX7_taken_78 : decode cX7_taken 78 = .ok (.iconst 0, 1) := by decide +kernel
theorem dX7_taken_79 : decode cX7_taken 79 = .ok (.iadd, 1) := by decide +kernel
theorem dX7_taken_80 : decode cX7_taken 80 = .ok (.istore_n 3, 1) := by decide +kernel
theorem dX7_taken_81 : decode cX7_taken 81 = .ok (.iinc 4 1, 3) := by decide +kernel
theorem dX7_taken_84 : decode cX7_taken 84 = .ok (.goto (-79), 3) := by decide +kernel
theorem dX7_taken_87 : decode cX7_taken 87 = .ok (.iload_n 3, 1) := by decide +kernel
theorem dX7_taken_88 : decode cX7_taken 88 = .ok (.ireturn, 1) := by decide +kernel
set_option maxRecDepth 20000 in
theorem ggX7_left_X7_limitOf : GoodIn wsX7_left wsX7_limitOf := goodIn_r _ [5, 6, 23, 24, 25, 26, 27, 28, 29, 30, 31, 32, 33, 34] rfl (by decide +kernel)
set_option maxRecDepth 20000 in
theorem gX7_left_X7_limitOf : GoodIn wsX7_left (wsV RX7 47 RX7 yX7_limitOf wsX7_limitOf) := goodIn_app (goodIn_of _ (by decide +kernel)) ggX7_left_X7_limitOf
set_option maxRecDepth 20000 in
theorem ggX7_left_X7_bufferOf : GoodIn wsX7_left wsX7_bufferOf := goodIn_r _ [10, 6, 23, 24, 25, 26, 27, 28, 29, 30, 31, 32, 33, 34] rfl (by decide +kernel)
set_option maxRecDepth 20000 in
theorem gX7_left_X7_bufferOf : GoodIn wsX7_left (wsV RX7 51 RX7 yX7_bufferOf wsX7_bufferOf) := goodIn_app (goodIn_of _ (by decide +kernel)) ggX7_left_X7_bufferOf
set_option maxRecDepth 20000 in
theorem ggX7_left_X7_taken : GoodIn wsX7_left wsX7_taken := goodIn_r _ [14, 6, 15, 16, 17, 4, 18, 19, 20, 21, 22, 23, 24, 25, 26, 27, 28, 29, 30, 31, 32, 33, 34] rfl (by decide +kernel)
set_option maxRecDepth 20000 in
theorem gX7_left_X7_taken : GoodIn wsX7_left (wsV RX7 72 RX7 yX7_taken wsX7_taken) := goodIn_app (goodIn_of _ (by decide +kernel)) ggX7_left_X7_taken
theorem dX7_left_0 : decode cX7_left 0 = .ok (.aload_n 0, 1) := by decide +kernel
theorem dX7_left_1 : decode cX7_left 1 = .ok (.iload_n 1, 1) := by decide +kernel
theorem dX7_left_2 : decode cX7_left 2 = .ok (.invokevirtual 47, 3) := by decide +kernel
theorem dX7_left_5 : decode cX7_left 5 = .ok (.aload_n 0, 1) := by decide +kernel
theorem dX7_left_6 : decode cX7_left 6 = .ok (.iload_n 1, 1) := by decide +kernel
theorem dX7_left_7 : decode cX7_left 7 = .ok (.invokevirtual 51, 3) := by decide +kernel
theorem dX7_left_10 : decode cX7_left 10 = .ok (.isub, 1) := by decide +kernel
theorem dX7_left_11 : decode cX7_left 11 = .ok (.aload_n 0, 1) := by decide +kernel
theorem dX7_left_12 : decode cX7_left 12 = .ok (.iload_n 1, 1) := by decide +kernel
theorem dX7_left_13 : decode cX7_left 13 = .ok (.iload_n 2, 1) := by decide +kernel
theorem dX7_left_14 : decode cX7_left 14 = .ok (.invokevirtual 72, 3) := by decide +kernel
theorem dX7_left_17 : decode cX7_left 17 = .ok (.isub, 1) := by decide +kernel
theorem dX7_left_18 : decode cX7_left 18 = .ok (.ireturn, 1) := by decide +kernel
set_option maxRecDepth 20000 in
theorem ggX7_inState_X7_isOn : GoodIn wsX7_inState wsX7_isOn := goodIn_r _ [6, 7, 8, 9, 5, 10, 1, 11, 12, 13, 14, 15, 16, 17, 18, 19, 20, 21, 22] rfl (by decide +kernel)
set_option maxRecDepth 20000 in
theorem gX7_inState_X7_isOn : GoodIn wsX7_inState (wsV RX7 69 RX7 yX7_isOn wsX7_isOn) := goodIn_app (goodIn_of _ (by decide +kernel)) ggX7_inState_X7_isOn
set_option maxRecDepth 20000 in
theorem ggX7_inState_X7_of : GoodIn wsX7_inState wsX7_of := goodIn_r _ [10, 1, 11, 12, 13, 14, 15, 16, 17, 18, 19, 20, 21, 22] rfl (by decide +kernel)
set_option maxRecDepth 20000 in
theorem gX7_inState_X7_of : GoodIn wsX7_inState (wsV RX7 66 RX7 yX7_of wsX7_of) := goodIn_app (goodIn_of _ (by decide +kernel)) ggX7_inState_X7_of
theorem dX7_inState_0 : decode cX7_inState 0 = .ok (.iconst 0, 1) := by decide +kernel
theorem dX7_inState_1 : decode cX7_inState 1 = .ok (.istore 4, 2) := by decide +kernel
theorem dX7_inState_3 : decode cX7_inState 3 = .ok (.iconst 0, 1) := by decide +kernel
theorem dX7_inState_4 : decode cX7_inState 4 = .ok (.istore 5, 2) := by decide +kernel
theorem dX7_inState_6 : decode cX7_inState 6 = .ok (.iload 5, 2) := by decide +kernel
theorem dX7_inState_8 : decode cX7_inState 8 = .ok (.aload_n 0, 1) := by decide +kernel
theorem dX7_inState_9 : decode cX7_inState 9 = .ok (.getfield 7, 3) := by decide +kernel
theorem dX7_inState_12 : decode cX7_inState 12 = .ok (.iconst 3, 1) := by decide +kernel
theorem dX7_inState_13 : decode cX7_inState 13 = .ok (.iaload, 1) := by decide +kernel
theorem dX7_inState_14 : decode cX7_inState 14 = .ok (.if_icmp .ge 41, 3) := by decide +kernel
theorem dX7_inState_17 : decode cX7_inState 17 = .ok (.iload 4, 2) := by decide +kernel
theorem dX7_inState_19 : decode cX7_inState 19 = .ok (.aload_n 0, 1) := by decide +kernel
theorem dX7_inState_20 : decode cX7_inState 20 = .ok (.iload 5, 2) := by decide +kernel
theorem dX7_inState_22 : decode cX7_inState 22 = .ok (.iload_n 1, 1) := by decide +kernel
theorem dX7_inState_23 : decode cX7_inState 23 = .ok (.iload_n 2, 1) := by decide +kernel
theorem dX7_inState_24 : decode cX7_inState 24 = .ok (.invokevirtual 69, 3) := by decide +kernel
theorem dX7_inState_27 : decode cX7_inState 27 = .ok (.ifCond .eq 18, 3) := by decide +kernel
theorem dX7_inState_30 : decode cX7_inState 30 = .ok (.aload_n 0, 1) := by decide +kernel
theorem dX7_inState_31 : decode cX7_inState 31 = .ok (.iload 5, 2) := by decide +kernel
theorem dX7_inState_33 : decode cX7_inState 33 = .ok (.iconst 4, 1) := by decide +kernel
theorem dX7_inState_34 : decode cX7_inState 34 = .ok (.invokevirtual 66, 3) := by decide +kernel
theorem dX7_inState_37 : decode cX7_inState 37 = .ok (.iload_n 3, 1) := by decide +kernel
theorem dX7_inState_38 : decode cX7_inState 38 = .ok (.if_icmp .ne 7, 3) := by decide +kernel
theorem dX7_inState_41 : decode cX7_inState 41 = .ok (.iconst 1, 1) := by decide +kernel
theorem dX7_inState_42 : decode cX7_inState 42 = .ok (.goto 4, 3) := by decide +kernel
theorem dX7_inState_45 : decode cX7_inState 45 = .ok (.iconst 0, 1) := by decide +kernel
theorem dX7_inState_46 : decode cX7_inState 46 = .ok (.iadd, 1) := by decide +kernel
theorem dX7_inState_47 : decode cX7_inState 47 = .ok (.istore 4, 2) := by decide +kernel
theorem dX7_inState_49 : decode cX7_inState 49 = .ok (.iinc 5 1, 3) := by decide +kernel
theorem dX7_inState_52 : decode cX7_inState 52 = .ok (.goto (-46), 3) := by decide +kernel
theorem dX7_inState_55 : decode cX7_inState 55 = .ok (.iload 4, 2) := by decide +kernel
theorem dX7_inState_57 : decode cX7_inState 57 = .ok (.ireturn, 1) := by decide +kernel
set_option maxRecDepth 20000 in
theorem ggX7_permit_X7_setting : GoodIn wsX7_permit wsX7_setting := goodIn_r _ [5, 6, 15, 16, 17, 18, 19, 20, 21, 22, 23, 24, 25, 26] rfl (by decide +kernel)
set_option maxRecDepth 20000 in
theorem gX7_permit_X7_setting : GoodIn wsX7_permit (wsV RX7 63 RX7 yX7_setting wsX7_setting) := goodIn_app (goodIn_of _ (by decide +kernel)) ggX7_permit_X7_setting
set_option maxRecDepth 20000 in
theorem ggX7_permit_X7_of : GoodIn wsX7_permit wsX7_of := goodIn_r _ [10, 6, 15, 16, 17, 18, 19, 20, 21, 22, 23, 24, 25, 26] rfl (by decide +kernel)
set_option maxRecDepth 20000 in
theorem gX7_permit_X7_of : GoodIn wsX7_permit (wsV RX7 66 RX7 yX7_of wsX7_of) := goodIn_app (goodIn_of _ (by decide +kernel)) ggX7_permit_X7_of
set_option maxRecDepth 20000 in
theorem ggX7_permit_X7_lay : GoodIn wsX7_permit wsX7_lay := goodIn_r _ [14, 6, 15, 16, 17, 18, 19, 20, 21, 22, 23, 24, 25, 26] rfl (by decide +kernel)
set_option maxRecDepth 20000 in
theorem gX7_permit_X7_lay : GoodIn wsX7_permit (wsV RX7 75 RX7 yX7_lay wsX7_lay) := goodIn_app (goodIn_of _ (by decide +kernel)) ggX7_permit_X7_lay
theorem dX7_permit_0 : decode cX7_permit 0 = .ok (.aload_n 0, 1) := by decide +kernel
theorem dX7_permit_1 : decode cX7_permit 1 = .ok (.iconst 0, 1) := by decide +kernel
theorem dX7_permit_2 : decode cX7_permit 2 = .ok (.invokevirtual 63, 3) := by decide +kernel
theorem dX7_permit_5 : decode cX7_permit 5 = .ok (.aload_n 0, 1) := by decide +kernel
theorem dX7_permit_6 : decode cX7_permit 6 = .ok (.iload_n 1, 1) := by decide +kernel
theorem dX7_permit_7 : decode cX7_permit 7 = .ok (.iconst 3, 1) := by decide +kernel
theorem dX7_permit_8 : decode cX7_permit 8 = .ok (.invokevirtual 66, 3) := by decide +kernel
theorem dX7_permit_11 : decode cX7_permit 11 = .ok (.imul, 1) := by decide +kernel
theorem dX7_permit_12 : decode cX7_permit 12 = .ok (.istore_n 2, 1) := by decide +kernel
theorem dX7_permit_13 : decode cX7_permit 13 = .ok (.aload_n 0, 1) := by decide +kernel
theorem dX7_permit_14 : decode cX7_permit 14 = .ok (.iload_n 1, 1) := by decide +kernel
theorem dX7_permit_15 : decode cX7_permit 15 = .ok (.iconst 4, 1) := by decide +kernel
theorem dX7_permit_16 : decode cX7_permit 16 = .ok (.iconst 1, 1) := by decide +kernel
theorem dX7_permit_17 : decode cX7_permit 17 = .ok (.invokevirtual 75, 3) := by decide +kernel
theorem dX7_permit_20 : decode cX7_permit 20 = .ok (.aload_n 0, 1) := by decide +kernel
theorem dX7_permit_21 : decode cX7_permit 21 = .ok (.iload_n 1, 1) := by decide +kernel
theorem dX7_permit_22 : decode cX7_permit 22 = .ok (.iconst 5, 1) := by decide +kernel
theorem dX7_permit_23 : decode cX7_permit 23 = .ok (.aload_n 0, 1) := by decide +kernel
theorem dX7_permit_24 : decode cX7_permit 24 = .ok (.iload_n 1, 1) := by decide +kernel
theorem dX7_permit_25 : decode cX7_permit 25 = .ok (.iconst 5, 1) := by decide +kernel
theorem dX7_permit_26 : decode cX7_permit 26 = .ok (.invokevirtual 66, 3) := by decide +kernel
theorem dX7_permit_29 : decode cX7_permit 29 = .ok (.iload_n 2, 1) := by decide +kernel
theorem dX7_permit_30 : decode cX7_permit 30 = .ok (.iadd, 1) := by decide +kernel
theorem dX7_permit_31 : decode cX7_permit 31 = .ok (.invokevirtual 75, 3) := by decide +kernel
theorem dX7_permit_34 : decode cX7_permit 34 = .ok (.iload_n 2, 1) := by decide +kernel
theorem dX7_permit_35 : decode cX7_permit 35 = .ok (.ireturn, 1) := by decide +kernel
set_option maxRecDepth 20000 in
theorem ggX7_hasOne_X7_of : GoodIn wsX7_hasOne wsX7_of := goodIn_r _ [6, 1, 14, 15, 16, 17, 18, 19, 20, 21, 22, 23, 24, 25] rfl (by decide +kernel)
set_option maxRecDepth 20000 in
theorem gX7_hasOne_X7_of : GoodIn wsX7_hasOne (wsV RX7 66 RX7 yX7_of wsX7_of) := goodIn_app (goodIn_of _ (by decide +kernel)) ggX7_hasOne_X7_of
set_option maxRecDepth 20000 in
theorem ggX7_hasOne_X7_isOn : GoodIn wsX7_hasOne wsX7_isOn := goodIn_r _ [10, 2, 3, 4, 5, 6, 1, 14, 15, 16, 17, 18, 19, 20, 21, 22, 23, 24, 25] rfl (by decide +kernel)
set_option maxRecDepth 20000 in
theorem gX7_hasOne_X7_isOn : GoodIn wsX7_hasOne (wsV RX7 69 RX7 yX7_isOn wsX7_isOn) := goodIn_app (goodIn_of _ (by decide +kernel)) ggX7_hasOne_X7_isOn
set_option maxRecDepth 20000 in
theorem ggX7_hasOne_X7_in : GoodIn wsX7_hasOne wsX7_in := goodIn_r _ [13] rfl (by decide +kernel)
set_option maxRecDepth 20000 in
theorem gX7_hasOne_X7_in : GoodIn wsX7_hasOne (va_wsS RX7 35 yX7_in wsX7_in) := goodIn_app (goodIn_of _ (by decide +kernel)) ggX7_hasOne_X7_in
theorem dX7_hasOne_0 : decode cX7_hasOne 0 = .ok (.iconst 0, 1) := by decide +kernel
theorem dX7_hasOne_1 : decode cX7_hasOne 1 = .ok (.istore 4, 2) := by decide +kernel
theorem dX7_hasOne_3 : decode cX7_hasOne 3 = .ok (.iconst 0, 1) := by decide +kernel
theorem dX7_hasOne_4 : decode cX7_hasOne 4 = .ok (.istore 5, 2) := by decide +kernel
theorem dX7_hasOne_6 : decode cX7_hasOne 6 = .ok (.iload 5, 2) := by decide +kernel
theorem dX7_hasOne_8 : decode cX7_hasOne 8 = .ok (.aload_n 0, 1) := by decide +kernel
theorem dX7_hasOne_9 : decode cX7_hasOne 9 = .ok (.getfield 7, 3) := by decide +kernel
theorem dX7_hasOne_12 : decode cX7_hasOne 12 = .ok (.iconst 3, 1) := by decide +kernel
theorem dX7_hasOne_13 : decode cX7_hasOne 13 = .ok (.iaload, 1) := by decide +kernel
theorem dX7_hasOne_14 : decode cX7_hasOne 14 = .ok (.if_icmp .ge 58, 3) := by decide +kernel
theorem dX7_hasOne_17 : decode cX7_hasOne 17 = .ok (.iload 4, 2) := by decide +kernel
theorem dX7_hasOne_19 : decode cX7_hasOne 19 = .ok (.ifCond .ne 40, 3) := by decide +kernel
theorem dX7_hasOne_22 : decode cX7_hasOne 22 = .ok (.aload_n 0, 1) := by decide +kernel
theorem dX7_hasOne_23 : decode cX7_hasOne 23 = .ok (.iload 5, 2) := by decide +kernel
theorem dX7_hasOne_25 : decode cX7_hasOne 25 = .ok (.iconst 0, 1) := by decide +kernel
theorem dX7_hasOne_26 : decode cX7_hasOne 26 = .ok (.invokevirtual 66, 3) := by decide +kernel
theorem dX7_hasOne_29 : decode cX7_hasOne 29 = .ok (.iload_n 1, 1) := by decide +kernel
theorem dX7_hasOne_30 : decode cX7_hasOne 30 = .ok (.if_icmp .ne 33, 3) := by decide +kernel
theorem dX7_hasOne_33 : decode cX7_hasOne 33 = .ok (.aload_n 0, 1) := by decide +kernel
theorem dX7_hasOne_34 : decode cX7_hasOne 34 = .ok (.iload 5, 2) := by decide +kernel
theorem dX7_hasOne_36 : decode cX7_hasOne 36 = .ok (.iload_n 2, 1) := by decide +kernel
theorem dX7_hasOne_37 : decode cX7_hasOne 37 = .ok (.iload_n 3, 1) := by decide +kernel
theorem dX7_hasOne_38 : decode cX7_hasOne 38 = .ok (.invokevirtual 69, 3) := by decide +kernel
theorem dX7_hasOne_41 : decode cX7_hasOne 41 = .ok (.ifCond .eq 22, 3) := by decide +kernel
theorem dX7_hasOne_44 : decode cX7_hasOne 44 = .ok (.aload_n 0, 1) := by decide +kernel
theorem dX7_hasOne_45 : decode cX7_hasOne 45 = .ok (.iload 5, 2) := by decide +kernel
theorem dX7_hasOne_47 : decode cX7_hasOne 47 = .ok (.iconst 4, 1) := by decide +kernel
theorem dX7_hasOne_48 : decode cX7_hasOne 48 = .ok (.invokevirtual 66, 3) := by decide +kernel
theorem dX7_hasOne_51 : decode cX7_hasOne 51 = .ok (.iconst 0, 1) := by decide +kernel
theorem dX7_hasOne_52 : decode cX7_hasOne 52 = .ok (.iconst 2, 1) := by decide +kernel
theorem dX7_hasOne_53 : decode cX7_hasOne 53 = .ok (.invokestatic 35, 3) := by decide +kernel
theorem dX7_hasOne_56 : decode cX7_hasOne 56 = .ok (.ifCond .eq 7, 3) := by decide +kernel
theorem dX7_hasOne_59 : decode cX7_hasOne 59 = .ok (.iconst 1, 1) := by decide +kernel
theorem dX7_hasOne_60 : decode cX7_hasOne 60 = .ok (.goto 4, 3) := by decide +kernel
theorem dX7_hasOne_63 : decode cX7_hasOne 63 = .ok (.iconst 0, 1) := by decide +kernel
theorem dX7_hasOne_64 : decode cX7_hasOne 64 = .ok (.istore 4, 2) := by decide +kernel
theorem dX7_hasOne_66 : decode cX7_hasOne 66 = .ok (.iinc 5 1, 3) := by decide +kernel
theorem dX7_hasOne_69 : decode cX7_hasOne 69 = .ok (.goto (-63), 3) := by decide +kernel
theorem dX7_hasOne_72 : decode cX7_hasOne 72 = .ok (.iload 4, 2) := by decide +kernel
theorem dX7_hasOne_74 : decode cX7_hasOne 74 = .ok (.ireturn, 1) := by decide +kernel
set_option maxRecDepth 20000 in
theorem ggX7_apply_X7_isClimber : GoodIn wsX7_apply wsX7_isClimber := goodIn_r _ [6, 1, 7, 8, 5, 9, 45, 46, 47, 48, 49, 50, 51, 52, 53, 54, 55, 56] rfl (by decide +kernel)
set_option maxRecDepth 20000 in
theorem gX7_apply_X7_isClimber : GoodIn wsX7_apply (wsV RX7 78 RX7 yX7_isClimber wsX7_isClimber) := goodIn_app (goodIn_of _ (by decide +kernel)) ggX7_apply_X7_isClimber
set_option maxRecDepth 20000 in
theorem ggX7_apply_X7_isRoute : GoodIn wsX7_apply wsX7_isRoute := goodIn_r _ [13, 1, 7, 8, 5, 9, 45, 46, 47, 48, 49, 50, 51, 52, 53, 54, 55, 56] rfl (by decide +kernel)
set_option maxRecDepth 20000 in
theorem gX7_apply_X7_isRoute : GoodIn wsX7_apply (wsV RX7 43 RX7 yX7_isRoute wsX7_isRoute) := goodIn_app (goodIn_of _ (by decide +kernel)) ggX7_apply_X7_isRoute
set_option maxRecDepth 20000 in
theorem ggX7_apply_X7_isDay : GoodIn wsX7_apply wsX7_isDay := goodIn_r _ [16, 7, 8, 5, 9] rfl (by decide +kernel)
set_option maxRecDepth 20000 in
theorem gX7_apply_X7_isDay : GoodIn wsX7_apply (va_wsS RX7 81 yX7_isDay wsX7_isDay) := goodIn_app (goodIn_of _ (by decide +kernel)) ggX7_apply_X7_isDay
set_option maxRecDepth 20000 in
theorem ggX7_apply_X7_in : GoodIn wsX7_apply wsX7_in := goodIn_r _ [9] rfl (by decide +kernel)
set_option maxRecDepth 20000 in
theorem gX7_apply_X7_in : GoodIn wsX7_apply (va_wsS RX7 35 yX7_in wsX7_in) := goodIn_app (goodIn_of _ (by decide +kernel)) ggX7_apply_X7_in
set_option maxRecDepth 20000 in
theorem ggX7_apply_X7_isClosed : GoodIn wsX7_apply wsX7_isClosed := goodIn_r _ [20, 1, 45, 46, 47, 48, 49, 50, 51, 52, 53, 54, 55, 56] rfl (by decide +kernel)
set_option maxRecDepth 20000 in
theorem gX7_apply_X7_isClosed : GoodIn wsX7_apply (wsV RX7 84 RX7 yX7_isClosed wsX7_isClosed) := goodIn_app (goodIn_of _ (by decide +kernel)) ggX7_apply_X7_isClosed
set_option maxRecDepth 20000 in
theorem ggX7_apply_X7_hasOne : GoodIn wsX7_apply wsX7_hasOne := goodIn_r _ [24, 1, 25, 26, 27, 5, 28, 29, 30, 31, 32, 7, 8, 9, 45, 46, 47, 48, 49, 50, 51, 52, 53, 54, 55, 56] rfl (by decide +kernel)
set_option maxRecDepth 20000 in
theorem gX7_apply_X7_hasOne : GoodIn wsX7_apply (wsV RX7 87 RX7 yX7_hasOne wsX7_hasOne) := goodIn_app (goodIn_of _ (by decide +kernel)) ggX7_apply_X7_hasOne
set_option maxRecDepth 20000 in
theorem ggX7_apply_X7_isBarred : GoodIn wsX7_apply wsX7_isBarred := goodIn_r _ [36, 37, 38, 39, 5, 40, 1, 45, 46, 47, 48, 49, 50, 51, 52, 53, 54, 55, 56] rfl (by decide +kernel)
set_option maxRecDepth 20000 in
theorem gX7_apply_X7_isBarred : GoodIn wsX7_apply (wsV RX7 90 RX7 yX7_isBarred wsX7_isBarred) := goodIn_app (goodIn_of _ (by decide +kernel)) ggX7_apply_X7_isBarred
set_option maxRecDepth 20000 in
theorem ggX7_apply_X7_lay : GoodIn wsX7_apply wsX7_lay := goodIn_r _ [44, 1, 45, 46, 47, 48, 49, 50, 51, 52, 53, 54, 55, 56] rfl (by decide +kernel)
set_option maxRecDepth 20000 in
theorem gX7_apply_X7_lay : GoodIn wsX7_apply (wsV RX7 75 RX7 yX7_lay wsX7_lay) := goodIn_app (goodIn_of _ (by decide +kernel)) ggX7_apply_X7_lay
theorem dX7_apply_0 : decode cX7_apply 0 = .ok (.aload_n 0, 1) := by decide +kernel
theorem dX7_apply_1 : decode cX7_apply 1 = .ok (.iload_n 1, 1) := by decide +kernel
theorem dX7_apply_2 : decode cX7_apply 2 = .ok (.invokevirtual 78, 3) := by decide +kernel
theorem dX7_apply_5 : decode cX7_apply 5 = .ok (.ifCond .eq 18, 3) := by decide +kernel
theorem dX7_apply_8 : decode cX7_apply 8 = .ok (.aload_n 0, 1) := by decide +kernel
theorem dX7_apply_9 : decode cX7_apply 9 = .ok (.iload_n 2, 1) := by decide +kernel
theorem dX7_apply_10 : decode cX7_apply 10 = .ok (.invokevirtual 43, 3) := by decide +kernel
theorem dX7_apply_13 : decode cX7_apply 13 = .ok (.ifCond .eq 10, 3) := by decide +kernel
theorem dX7_apply_16 : decode cX7_apply 16 = .ok (.iload_n 3, 1) := by decide +kernel
theorem dX7_apply_17 : decode cX7_apply 17 = .ok (.invokestatic 81, 3) := by decide +kernel
theorem dX7_apply_20 : decode cX7_apply 20 = .ok (.ifCond .ne 5, 3) := by decide +kernel
theorem dX7_apply_23 : decode cX7_apply 23 = .ok (.iconst (-1), 1) := by decide +kernel
theorem dX7_apply_24 : decode cX7_apply 24 = .ok (.ireturn, 1) := by decide +kernel
theorem dX7_apply_25 : decode cX7_apply 25 = .ok (.iload 4, 2) := by decide +kernel
theorem dX7_apply_27 : decode cX7_apply 27 = .ok (.iconst 1, 1) := by decide +kernel
theorem dX7_apply_28 : decode cX7_apply 28 = .ok (.iconst 4, 1) := by decide +kernel
theorem dX7_apply_29 : decode cX7_apply 29 = .ok (.invokestatic 35, 3) := by decide +kernel
theorem dX7_apply_32 : decode cX7_apply 32 = .ok (.ifCond .ne 6, 3) := by decide +kernel
theorem dX7_apply_35 : decode cX7_apply 35 = .ok (.bipush (-2), 2) := by decide +kernel
theorem dX7_apply_37 : decode cX7_apply 37 = .ok (.ireturn, 1) := by decide +kernel
theorem dX7_apply_38 : decode cX7_apply 38 = .ok (.iload_n 3, 1) := by decide +kernel
theorem dX7_apply_39 : decode cX7_apply 39 = .ok (.aload_n 0, 1) := by decide +kernel
theorem dX7_apply_40 : decode cX7_apply 40 = .ok (.getfield 7, 3) := by decide +kernel
theorem dX7_apply_43 : decode cX7_apply 43 = .ok (.iconst 0, 1) := by decide +kernel
theorem dX7_apply_44 : decode cX7_apply 44 = .ok (.iaload, 1) := by decide +kernel
theorem dX7_apply_45 : decode cX7_apply 45 = .ok (.if_icmp .lt 30, 3) := by decide +kernel
theorem dX7_apply_48 : decode cX7_apply 48 = .ok (.aload_n 0, 1) := by decide +kernel
theorem dX7_apply_49 : decode cX7_apply 49 = .ok (.iload_n 3, 1) := by decide +kernel
theorem dX7_apply_50 : decode cX7_apply 50 = .ok (.invokevirtual 84, 3) := by decide +kernel
theorem dX7_apply_53 : decode cX7_apply 53 = .ok (.ifCond .ne 22, 3) := by decide +kernel
theorem dX7_apply_56 : decode cX7_apply 56 = .ok (.aload_n 0, 1) := by decide +kernel
theorem dX7_apply_57 : decode cX7_apply 57 = .ok (.iload_n 1, 1) := by decide +kernel
theorem dX7_apply_58 : decode cX7_apply 58 = .ok (.iload_n 2, 1) := by decide +kernel
theorem dX7_apply_59 : decode cX7_apply 59 = .ok (.iload_n 3, 1) := by decide +kernel
theorem dX7_apply_60 : decode cX7_apply 60 = .ok (.invokevirtual 87, 3) := by decide +kernel
theorem dX7_apply_63 : decode cX7_apply 63 = .ok (.ifCond .ne 12, 3) := by decide +kernel
theorem dX7_apply_66 : decode cX7_apply 66 = .ok (.aload_n 0, 1) := by decide +kernel
theorem dX7_apply_67 : decode cX7_apply 67 = .ok (.iload_n 1, 1) := by decide +kernel
theorem dX7_apply_68 : decode cX7_apply 68 = .ok (.iload_n 3, 1) := by decide +kernel
theorem dX7_apply_69 : decode cX7_apply 69 = .ok (.invokevirtual 90, 3) := by decide +kernel
theorem dX7_apply_72 : decode cX7_apply 72 = .ok (.ifCond .eq 6, 3) := by decide +kernel
theorem dX7_apply_75 : decode cX7_apply 75 = .ok (.bipush (-5), 2) := by decide +kernel
theorem dX7_apply_77 : decode cX7_apply 77 = .ok (.ireturn, 1) := by decide +kernel
theorem dX7_apply_78 : decode cX7_apply 78 = .ok (.aload_n 0, 1) := by decide +kernel
theorem dX7_apply_79 : decode cX7_apply 79 = .ok (.getfield 7, 3) := by decide +kernel
theorem dX7_apply_82 : decode cX7_apply 82 = .ok (.iconst 3, 1) := by decide +kernel
theorem dX7_apply_83 : decode cX7_apply 83 = .ok (.iaload, 1) := by decide +kernel
theorem dX7_apply_84 : decode cX7_apply 84 = .ok (.bipush 40, 2) := by decide +kernel
theorem dX7_apply_86 : decode cX7_apply 86 = .ok (.if_icmp .ne 6, 3) := by decide +kernel
theorem dX7_apply_89 : decode cX7_apply 89 = .ok (.bipush (-4), 2) := by decide +kernel
theorem dX7_apply_91 : decode cX7_apply 91 = .ok (.ireturn, 1) := by decide +kernel
theorem dX7_apply_92 : decode cX7_apply 92 = .ok (.aload_n 0, 1) := by decide +kernel
theorem dX7_apply_93 : decode cX7_apply 93 = .ok (.getfield 7, 3) := by decide +kernel
theorem dX7_apply_96 : decode cX7_apply 96 = .ok (.iconst 3, 1) := by decide +kernel
theorem dX7_apply_97 : decode cX7_apply 97 = .ok (.iaload, 1) := by decide +kernel
theorem dX7_apply_98 : decode cX7_apply 98 = .ok (.istore 5, 2) := by decide +kernel
theorem dX7_apply_100 : decode cX7_apply 100 = .ok (.aload_n 0, 1) := by decide +kernel
theorem dX7_apply_101 : decode cX7_apply 101 = .ok (.getfield 7, 3) := by decide +kernel
theorem dX7_apply_104 : decode cX7_apply 104 = .ok (.iconst 3, 1) := by decide +kernel
theorem dX7_apply_105 : decode cX7_apply 105 = .ok (.dup2, 1) := by decide +kernel
theorem dX7_apply_106 : decode cX7_apply 106 = .ok (.iaload, 1) := by decide +kernel
theorem dX7_apply_107 : decode cX7_apply 107 = .ok (.iconst 1, 1) := by decide +kernel
theorem dX7_apply_108 : decode cX7_apply 108 = .ok (.iadd, 1) := by decide +kernel
theorem dX7_apply_109 : decode cX7_apply 109 = .ok (.iastore, 1) := by decide +kernel
theorem dX7_apply_110 : decode cX7_apply 110 = .ok (.aload_n 0, 1) := by decide +kernel
theorem dX7_apply_111 : decode cX7_apply 111 = .ok (.iload 5, 2) := by decide +kernel
theorem dX7_apply_113 : decode cX7_apply 113 = .ok (.iconst 0, 1) := by decide +kernel
theorem dX7_apply_114 : decode cX7_apply 114 = .ok (.iload_n 1, 1) := by decide +kernel
theorem dX7_apply_115 : decode cX7_apply 115 = .ok (.invokevirtual 75, 3) := by decide +kernel
theorem dX7_apply_118 : decode cX7_apply 118 = .ok (.aload_n 0, 1) := by decide +kernel
theorem dX7_apply_119 : decode cX7_apply 119 = .ok (.iload 5, 2) := by decide +kernel
theorem dX7_apply_121 : decode cX7_apply 121 = .ok (.iconst 1, 1) := by decide +kernel
theorem dX7_apply_122 : decode cX7_apply 122 = .ok (.iload_n 2, 1) := by decide +kernel
theorem dX7_apply_123 : decode cX7_apply 123 = .ok (.invokevirtual 75, 3) := by decide +kernel
theorem dX7_apply_126 : decode cX7_apply 126 = .ok (.aload_n 0, 1) := by decide +kernel
theorem dX7_apply_127 : decode cX7_apply 127 = .ok (.iload 5, 2) := by decide +kernel
theorem dX7_apply_129 : decode cX7_apply 129 = .ok (.iconst 2, 1) := by decide +kernel
theorem dX7_apply_130 : decode cX7_apply 130 = .ok (.iload_n 3, 1) := by decide +kernel
theorem dX7_apply_131 : decode cX7_apply 131 = .ok (.invokevirtual 75, 3) := by decide +kernel
theorem dX7_apply_134 : decode cX7_apply 134 = .ok (.aload_n 0, 1) := by decide +kernel
theorem dX7_apply_135 : decode cX7_apply 135 = .ok (.iload 5, 2) := by decide +kernel
theorem dX7_apply_137 : decode cX7_apply 137 = .ok (.iconst 3, 1) := by decide +kernel
theorem dX7_apply_138 : decode cX7_apply 138 = .ok (.iload 4, 2) := by decide +kernel
theorem dX7_apply_140 : decode cX7_apply 140 = .ok (.invokevirtual 75, 3) := by decide +kernel
theorem dX7_apply_143 : decode cX7_apply 143 = .ok (.aload_n 0, 1) := by decide +kernel
theorem dX7_apply_144 : decode cX7_apply 144 = .ok (.iload 5, 2) := by decide +kernel
theorem dX7_apply_146 : decode cX7_apply 146 = .ok (.iconst 4, 1) := by decide +kernel
theorem dX7_apply_147 : decode cX7_apply 147 = .ok (.iconst 0, 1) := by decide +kernel
theorem dX7_apply_148 : decode cX7_apply 148 = .ok (.invokevirtual 75, 3) := by decide +kernel
theorem dX7_apply_151 : decode cX7_apply 151 = .ok (.aload_n 0, 1) := by decide +kernel
theorem dX7_apply_152 : decode cX7_apply 152 = .ok (.iload 5, 2) := by decide +kernel
theorem dX7_apply_154 : decode cX7_apply 154 = .ok (.iconst 5, 1) := by decide +kernel
theorem dX7_apply_155 : decode cX7_apply 155 = .ok (.iconst 0, 1) := by decide +kernel
theorem dX7_apply_156 : decode cX7_apply 156 = .ok (.invokevirtual 75, 3) := by decide +kernel
theorem dX7_apply_159 : decode cX7_apply 159 = .ok (.aload_n 0, 1) := by decide +kernel
theorem dX7_apply_160 : decode cX7_apply 160 = .ok (.iload 5, 2) := by decide +kernel
theorem dX7_apply_162 : decode cX7_apply 162 = .ok (.bipush 6, 2) := by decide +kernel
theorem dX7_apply_164 : decode cX7_apply 164 = .ok (.iconst 0, 1) := by decide +kernel
theorem dX7_apply_165 : decode cX7_apply 165 = .ok (.invokevirtual 75, 3) := by decide +kernel
theorem dX7_apply_168 : decode cX7_apply 168 = .ok (.aload_n 0, 1) := by decide +kernel
theorem dX7_apply_169 : decode cX7_apply 169 = .ok (.iload 5, 2) := by decide +kernel
theorem dX7_apply_171 : decode cX7_apply 171 = .ok (.bipush 7, 2) := by decide +kernel
theorem dX7_apply_173 : decode cX7_apply 173 = .ok (.iconst 0, 1) := by decide +kernel
theorem dX7_apply_174 : decode cX7_apply 174 = .ok (.invokevirtual 75, 3) := by decide +kernel
theorem dX7_apply_177 : decode cX7_apply 177 = .ok (.aload_n 0, 1) := by decide +kernel
theorem dX7_apply_178 : decode cX7_apply 178 = .ok (.iload 5, 2) := by decide +kernel
theorem dX7_apply_180 : decode cX7_apply 180 = .ok (.bipush 8, 2) := by decide +kernel
theorem dX7_apply_182 : decode cX7_apply 182 = .ok (.iload_n 3, 1) := by decide +kernel
theorem dX7_apply_183 : decode cX7_apply 183 = .ok (.invokevirtual 75, 3) := by decide +kernel
theorem dX7_apply_186 : decode cX7_apply 186 = .ok (.iload 5, 2) := by decide +kernel
theorem dX7_apply_188 : decode cX7_apply 188 = .ok (.ireturn, 1) := by decide +kernel
set_option maxRecDepth 20000 in
theorem ggX7_ticketsOf_X7_setting : GoodIn wsX7_ticketsOf wsX7_setting := goodIn_r _ [5, 6, 15, 16, 17, 18, 19, 20, 21, 22, 23, 24, 25, 26] rfl (by decide +kernel)
set_option maxRecDepth 20000 in
theorem gX7_ticketsOf_X7_setting : GoodIn wsX7_ticketsOf (wsV RX7 63 RX7 yX7_setting wsX7_setting) := goodIn_app (goodIn_of _ (by decide +kernel)) ggX7_ticketsOf_X7_setting
set_option maxRecDepth 20000 in
theorem ggX7_ticketsOf_X7_of : GoodIn wsX7_ticketsOf wsX7_of := goodIn_r _ [10, 6, 15, 16, 17, 18, 19, 20, 21, 22, 23, 24, 25, 26] rfl (by decide +kernel)
set_option maxRecDepth 20000 in
theorem gX7_ticketsOf_X7_of : GoodIn wsX7_ticketsOf (wsV RX7 66 RX7 yX7_of wsX7_of) := goodIn_app (goodIn_of _ (by decide +kernel)) ggX7_ticketsOf_X7_of
set_option maxRecDepth 20000 in
theorem ggX7_ticketsOf_X7_ofClimber : GoodIn wsX7_ticketsOf wsX7_ofClimber := goodIn_r _ [14, 6, 15, 16, 17, 18, 19, 20, 21, 22, 23, 24, 25, 26] rfl (by decide +kernel)
set_option maxRecDepth 20000 in
theorem gX7_ticketsOf_X7_ofClimber : GoodIn wsX7_ticketsOf (wsV RX7 39 RX7 yX7_ofClimber wsX7_ofClimber) := goodIn_app (goodIn_of _ (by decide +kernel)) ggX7_ticketsOf_X7_ofClimber
theorem dX7_ticketsOf_0 : decode cX7_ticketsOf 0 = .ok (.iconst 1, 1) := by decide +kernel
theorem dX7_ticketsOf_1 : decode cX7_ticketsOf 1 = .ok (.aload_n 0, 1) := by decide +kernel
theorem dX7_ticketsOf_2 : decode cX7_ticketsOf 2 = .ok (.iconst 1, 1) := by decide +kernel
theorem dX7_ticketsOf_3 : decode cX7_ticketsOf 3 = .ok (.invokevirtual 63, 3) := by decide +kernel
theorem dX7_ticketsOf_6 : decode cX7_ticketsOf 6 = .ok (.aload_n 0, 1) := by decide +kernel
theorem dX7_ticketsOf_7 : decode cX7_ticketsOf 7 = .ok (.aload_n 0, 1) := by decide +kernel
theorem dX7_ticketsOf_8 : decode cX7_ticketsOf 8 = .ok (.iload_n 1, 1) := by decide +kernel
theorem dX7_ticketsOf_9 : decode cX7_ticketsOf 9 = .ok (.iconst 0, 1) := by decide +kernel
theorem dX7_ticketsOf_10 : decode cX7_ticketsOf 10 = .ok (.invokevirtual 66, 3) := by decide +kernel
theorem dX7_ticketsOf_13 : decode cX7_ticketsOf 13 = .ok (.iconst 0, 1) := by decide +kernel
theorem dX7_ticketsOf_14 : decode cX7_ticketsOf 14 = .ok (.invokevirtual 39, 3) := by decide +kernel
theorem dX7_ticketsOf_17 : decode cX7_ticketsOf 17 = .ok (.imul, 1) := by decide +kernel
theorem dX7_ticketsOf_18 : decode cX7_ticketsOf 18 = .ok (.iadd, 1) := by decide +kernel
theorem dX7_ticketsOf_19 : decode cX7_ticketsOf 19 = .ok (.ireturn, 1) := by decide +kernel
set_option maxRecDepth 20000 in
theorem ggX7_enter_X7_isOn : GoodIn wsX7_enter wsX7_isOn := goodIn_r _ [8, 9, 10, 11, 7, 12, 1, 33, 34, 35, 36, 37, 38, 39, 40, 41, 42, 43, 44] rfl (by decide +kernel)
set_option maxRecDepth 20000 in
theorem gX7_enter_X7_isOn : GoodIn wsX7_enter (wsV RX7 69 RX7 yX7_isOn wsX7_isOn) := goodIn_app (goodIn_of _ (by decide +kernel)) ggX7_enter_X7_isOn
set_option maxRecDepth 20000 in
theorem ggX7_enter_X7_of : GoodIn wsX7_enter wsX7_of := goodIn_r _ [12, 1, 33, 34, 35, 36, 37, 38, 39, 40, 41, 42, 43, 44] rfl (by decide +kernel)
set_option maxRecDepth 20000 in
theorem gX7_enter_X7_of : GoodIn wsX7_enter (wsV RX7 66 RX7 yX7_of wsX7_of) := goodIn_app (goodIn_of _ (by decide +kernel)) ggX7_enter_X7_of
set_option maxRecDepth 20000 in
theorem ggX7_enter_X7_isBarred : GoodIn wsX7_enter wsX7_isBarred := goodIn_r _ [16, 17, 18, 19, 7, 20, 1, 33, 34, 35, 36, 37, 38, 39, 40, 41, 42, 43, 44] rfl (by decide +kernel)
set_option maxRecDepth 20000 in
theorem gX7_enter_X7_isBarred : GoodIn wsX7_enter (wsV RX7 90 RX7 yX7_isBarred wsX7_isBarred) := goodIn_app (goodIn_of _ (by decide +kernel)) ggX7_enter_X7_isBarred
set_option maxRecDepth 20000 in
theorem ggX7_enter_X7_ticketsOf : GoodIn wsX7_enter wsX7_ticketsOf := goodIn_r _ [24, 25, 26, 27, 7, 28, 1, 9, 10, 11, 12, 17, 18, 19, 20, 33, 34, 35, 36, 37, 38, 39, 40, 41, 42, 43, 44] rfl (by decide +kernel)
set_option maxRecDepth 20000 in
theorem gX7_enter_X7_ticketsOf : GoodIn wsX7_enter (wsV RX7 93 RX7 yX7_ticketsOf wsX7_ticketsOf) := goodIn_app (goodIn_of _ (by decide +kernel)) ggX7_enter_X7_ticketsOf
set_option maxRecDepth 20000 in
theorem ggX7_enter_X7_lay : GoodIn wsX7_enter wsX7_lay := goodIn_r _ [32, 1, 33, 34, 35, 36, 37, 38, 39, 40, 41, 42, 43, 44] rfl (by decide +kernel)
set_option maxRecDepth 20000 in
theorem gX7_enter_X7_lay : GoodIn wsX7_enter (wsV RX7 75 RX7 yX7_lay wsX7_lay) := goodIn_app (goodIn_of _ (by decide +kernel)) ggX7_enter_X7_lay
theorem dX7_enter_0 : decode cX7_enter 0 = .ok (.iconst 0, 1) := by decide +kernel
theorem dX7_enter_1 : decode cX7_enter 1 = .ok (.istore_n 3, 1) := by decide +kernel
theorem dX7_enter_2 : decode cX7_enter 2 = .ok (.iload_n 3, 1) := by decide +kernel
theorem dX7_enter_3 : decode cX7_enter 3 = .ok (.aload_n 0, 1) := by decide +kernel
theorem dX7_enter_4 : decode cX7_enter 4 = .ok (.getfield 7, 3) := by decide +kernel
theorem dX7_enter_7 : decode cX7_enter 7 = .ok (.iconst 3, 1) := by decide +kernel
theorem dX7_enter_8 : decode cX7_enter 8 = .ok (.iaload, 1) := by decide +kernel
theorem dX7_enter_9 : decode cX7_enter 9 = .ok (.if_icmp .ge 110, 3) := by decide +kernel
theorem dX7_enter_12 : decode cX7_enter 12 = .ok (.aload_n 0, 1) := by decide +kernel
theorem dX7_enter_13 : decode cX7_enter 13 = .ok (.iload_n 3, 1) := by decide +kernel
theorem dX7_enter_14 : decode cX7_enter 14 = .ok (.iload_n 1, 1) := by decide +kernel
theorem dX7_enter_15 : decode cX7_enter 15 = .ok (.iload_n 2, 1) := by decide +kernel
theorem dX7_enter_16 : decode cX7_enter 16 = .ok (.invokevirtual 69, 3) := by decide +kernel
theorem dX7_enter_19 : decode cX7_enter 19 = .ok (.ifCond .eq 16, 3) := by decide +kernel
theorem dX7_enter_22 : decode cX7_enter 22 = .ok (.aload_n 0, 1) := by decide +kernel
theorem dX7_enter_23 : decode cX7_enter 23 = .ok (.iload_n 3, 1) := by decide +kernel
theorem dX7_enter_24 : decode cX7_enter 24 = .ok (.iconst 4, 1) := by decide +kernel
theorem dX7_enter_25 : decode cX7_enter 25 = .ok (.invokevirtual 66, 3) := by decide +kernel
theorem dX7_enter_28 : decode cX7_enter 28 = .ok (.ifCond .ne 7, 3) := by decide +kernel
theorem dX7_enter_31 : decode cX7_enter 31 = .ok (.iconst 1, 1) := by decide +kernel
theorem dX7_enter_32 : decode cX7_enter 32 = .ok (.goto 4, 3) := by decide +kernel
theorem dX7_enter_35 : decode cX7_enter 35 = .ok (.iconst 0, 1) := by decide +kernel
theorem dX7_enter_36 : decode cX7_enter 36 = .ok (.istore 4, 2) := by decide +kernel
theorem dX7_enter_38 : decode cX7_enter 38 = .ok (.aload_n 0, 1) := by decide +kernel
theorem dX7_enter_39 : decode cX7_enter 39 = .ok (.getfield 29, 3) := by decide +kernel
theorem dX7_enter_42 : decode cX7_enter 42 = .ok (.iload_n 3, 1) := by decide +kernel
theorem dX7_enter_43 : decode cX7_enter 43 = .ok (.iload 4, 2) := by decide +kernel
theorem dX7_enter_45 : decode cX7_enter 45 = .ok (.ifCond .eq 21, 3) := by decide +kernel
theorem dX7_enter_48 : decode cX7_enter 48 = .ok (.aload_n 0, 1) := by decide +kernel
theorem dX7_enter_49 : decode cX7_enter 49 = .ok (.aload_n 0, 1) := by decide +kernel
theorem dX7_enter_50 : decode cX7_enter 50 = .ok (.iload_n 3, 1) := by decide +kernel
theorem dX7_enter_51 : decode cX7_enter 51 = .ok (.iconst 0, 1) := by decide +kernel
theorem dX7_enter_52 : decode cX7_enter 52 = .ok (.invokevirtual 66, 3) := by decide +kernel
theorem dX7_enter_55 : decode cX7_enter 55 = .ok (.iload_n 2, 1) := by decide +kernel
theorem dX7_enter_56 : decode cX7_enter 56 = .ok (.invokevirtual 90, 3) := by decide +kernel
theorem dX7_enter_59 : decode cX7_enter 59 = .ok (.ifCond .ne 7, 3) := by decide +kernel
theorem dX7_enter_62 : decode cX7_enter 62 = .ok (.iconst 1, 1) := by decide +kernel
theorem dX7_enter_63 : decode cX7_enter 63 = .ok (.goto 4, 3) := by decide +kernel
theorem dX7_enter_66 : decode cX7_enter 66 = .ok (.iconst 0, 1) := by decide +kernel
theorem dX7_enter_67 : decode cX7_enter 67 = .ok (.bastore, 1) := by decide +kernel
theorem dX7_enter_68 : decode cX7_enter 68 = .ok (.aload_n 0, 1) := by decide +kernel
theorem dX7_enter_69 : decode cX7_enter 69 = .ok (.getfield 26, 3) := by decide +kernel
theorem dX7_enter_72 : decode cX7_enter 72 = .ok (.iload_n 3, 1) := by decide +kernel
theorem dX7_enter_73 : decode cX7_enter 73 = .ok (.aload_n 0, 1) := by decide +kernel
theorem dX7_enter_74 : decode cX7_enter 74 = .ok (.getfield 29, 3) := by decide +kernel
theorem dX7_enter_77 : decode cX7_enter 77 = .ok (.iload_n 3, 1) := by decide +kernel
theorem dX7_enter_78 : decode cX7_enter 78 = .ok (.baload, 1) := by decide +kernel
theorem dX7_enter_79 : decode cX7_enter 79 = .ok (.ifCond .eq 11, 3) := by decide +kernel
theorem dX7_enter_82 : decode cX7_enter 82 = .ok (.aload_n 0, 1) := by decide +kernel
theorem dX7_enter_83 : decode cX7_enter 83 = .ok (.iload_n 3, 1) := by decide +kernel
theorem dX7_enter_84 : decode cX7_enter 84 = .ok (.invokevirtual 93, 3) := by decide +kernel
theorem dX7_enter_87 : decode cX7_enter 87 = .ok (.goto 4, 3) := by decide +kernel
theorem dX7_enter_90 : decode cX7_enter 90 = .ok (.iconst 0, 1) := by decide +kernel
theorem dX7_enter_91 : decode cX7_enter 91 = .ok (.iastore, 1) := by decide +kernel
theorem dX7_enter_92 : decode cX7_enter 92 = .ok (.iload 4, 2) := by decide +kernel
theorem dX7_enter_94 : decode cX7_enter 94 = .ok (.ifCond .eq 19, 3) := by decide +kernel
theorem dX7_enter_97 : decode cX7_enter 97 = .ok (.aload_n 0, 1) := by decide +kernel
theorem dX7_enter_98 : decode cX7_enter 98 = .ok (.getfield 29, 3) := by decide +kernel
theorem dX7_enter_101 : decode cX7_enter 101 = .ok (.iload_n 3, 1) := by decide +kernel
theorem dX7_enter_102 : decode cX7_enter 102 = .ok (.baload, 1) := by decide +kernel
theorem dX7_enter_103 : decode cX7_enter 103 = .ok (.ifCond .ne 10, 3) := by decide +kernel
theorem dX7_enter_106 : decode cX7_enter 106 = .ok (.aload_n 0, 1) := by decide +kernel
theorem dX7_enter_107 : decode cX7_enter 107 = .ok (.iload_n 3, 1) := by decide +kernel
theorem dX7_enter_108 : decode cX7_enter 108 = .ok (.iconst 4, 1) := by decide +kernel
theorem dX7_enter_109 : decode cX7_enter 109 = .ok (.iconst 2, 1) := by decide +kernel
theorem dX7_enter_110 : decode cX7_enter 110 = .ok (.invokevirtual 75, 3) := by decide +kernel
theorem dX7_enter_113 : decode cX7_enter 113 = .ok (.iinc 3 1, 3) := by decide +kernel
theorem dX7_enter_116 : decode cX7_enter 116 = .ok (.goto (-114), 3) := by decide +kernel
theorem dX7_enter_119 : decode cX7_enter 119 = .ok (.return_, 1) := by decide +kernel
theorem dX7_ticketsLeft_0 : decode cX7_ticketsLeft 0 = .ok (.iconst 0, 1) := by decide +kernel
theorem dX7_ticketsLeft_1 : decode cX7_ticketsLeft 1 = .ok (.istore_n 1, 1) := by decide +kernel
theorem dX7_ticketsLeft_2 : decode cX7_ticketsLeft 2 = .ok (.iconst 0, 1) := by decide +kernel
theorem dX7_ticketsLeft_3 : decode cX7_ticketsLeft 3 = .ok (.istore_n 2, 1) := by decide +kernel
theorem dX7_ticketsLeft_4 : decode cX7_ticketsLeft 4 = .ok (.iload_n 2, 1) := by decide +kernel
theorem dX7_ticketsLeft_5 : decode cX7_ticketsLeft 5 = .ok (.aload_n 0, 1) := by decide +kernel
theorem dX7_ticketsLeft_6 : decode cX7_ticketsLeft 6 = .ok (.getfield 7, 3) := by decide +kernel
theorem dX7_ticketsLeft_9 : decode cX7_ticketsLeft 9 = .ok (.iconst 3, 1) := by decide +kernel
theorem dX7_ticketsLeft_10 : decode cX7_ticketsLeft 10 = .ok (.iaload, 1) := by decide +kernel
theorem dX7_ticketsLeft_11 : decode cX7_ticketsLeft 11 = .ok (.if_icmp .ge 18, 3) := by decide +kernel
theorem dX7_ticketsLeft_14 : decode cX7_ticketsLeft 14 = .ok (.iload_n 1, 1) := by decide +kernel
theorem dX7_ticketsLeft_15 : decode cX7_ticketsLeft 15 = .ok (.aload_n 0, 1) := by decide +kernel
theorem dX7_ticketsLeft_16 : decode cX7_ticketsLeft 16 = .ok (.getfield 26, 3) := by decide +kernel
theorem dX7_ticketsLeft_19 : decode cX7_ticketsLeft 19 = .ok (.iload_n 2, 1) := by decide +kernel
theorem dX7_ticketsLeft_20 : decode cX7_ticketsLeft 20 = .ok (.iaload, 1) := by decide +kernel
theorem dX7_ticketsLeft_21 : decode cX7_ticketsLeft 21 = .ok (.iadd, 1) := by decide +kernel
theorem dX7_ticketsLeft_22 : decode cX7_ticketsLeft 22 = .ok (.istore_n 1, 1) := by decide +kernel
theorem dX7_ticketsLeft_23 : decode cX7_ticketsLeft 23 = .ok (.iinc 2 1, 3) := by decide +kernel
theorem dX7_ticketsLeft_26 : decode cX7_ticketsLeft 26 = .ok (.goto (-22), 3) := by decide +kernel
theorem dX7_ticketsLeft_29 : decode cX7_ticketsLeft 29 = .ok (.iload_n 1, 1) := by decide +kernel
theorem dX7_ticketsLeft_30 : decode cX7_ticketsLeft 30 = .ok (.ireturn, 1) := by decide +kernel
set_option maxRecDepth 20000 in
theorem ggX7_draw_X7_setting : GoodIn wsX7_draw wsX7_setting := goodIn_r _ [9, 2, 10, 11, 12, 13, 14, 15, 16, 17, 18, 19, 20, 21] rfl (by decide +kernel)
set_option maxRecDepth 20000 in
theorem gX7_draw_X7_setting : GoodIn wsX7_draw (wsV RX7 63 RX7 yX7_setting wsX7_setting) := goodIn_app (goodIn_of _ (by decide +kernel)) ggX7_draw_X7_setting
theorem dX7_draw_0 : decode cX7_draw 0 = .ok (.bipush 75, 2) := by decide +kernel
theorem dX7_draw_2 : decode cX7_draw 2 = .ok (.aload_n 0, 1) := by decide +kernel
theorem dX7_draw_3 : decode cX7_draw 3 = .ok (.iconst 5, 1) := by decide +kernel
theorem dX7_draw_4 : decode cX7_draw 4 = .ok (.invokevirtual 63, 3) := by decide +kernel
theorem dX7_draw_7 : decode cX7_draw 7 = .ok (.imul, 1) := by decide +kernel
theorem dX7_draw_8 : decode cX7_draw 8 = .ok (.bipush 74, 2) := by decide +kernel
theorem dX7_draw_10 : decode cX7_draw 10 = .ok (.iadd, 1) := by decide +kernel
theorem dX7_draw_11 : decode cX7_draw 11 = .ok (.ldc 96, 2) := by decide +kernel
theorem dX7_draw_13 : decode cX7_draw 13 = .ok (.irem, 1) := by decide +kernel
theorem dX7_draw_14 : decode cX7_draw 14 = .ok (.istore_n 2, 1) := by decide +kernel
theorem dX7_draw_15 : decode cX7_draw 15 = .ok (.aload_n 0, 1) := by decide +kernel
theorem dX7_draw_16 : decode cX7_draw 16 = .ok (.getfield 7, 3) := by decide +kernel
theorem dX7_draw_19 : decode cX7_draw 19 = .ok (.bipush 9, 2) := by decide +kernel
theorem dX7_draw_21 : decode cX7_draw 21 = .ok (.iload_n 2, 1) := by decide +kernel
theorem dX7_draw_22 : decode cX7_draw 22 = .ok (.ldc 97, 2) := by decide +kernel
theorem dX7_draw_24 : decode cX7_draw 24 = .ok (.if_icmp .ne 7, 3) := by decide +kernel
theorem dX7_draw_27 : decode cX7_draw 27 = .ok (.iconst 0, 1) := by decide +kernel
theorem dX7_draw_28 : decode cX7_draw 28 = .ok (.goto 4, 3) := by decide +kernel
theorem dX7_draw_31 : decode cX7_draw 31 = .ok (.iload_n 2, 1) := by decide +kernel
theorem dX7_draw_32 : decode cX7_draw 32 = .ok (.iastore, 1) := by decide +kernel
theorem dX7_draw_33 : decode cX7_draw 33 = .ok (.aload_n 0, 1) := by decide +kernel
theorem dX7_draw_34 : decode cX7_draw 34 = .ok (.iconst 5, 1) := by decide +kernel
theorem dX7_draw_35 : decode cX7_draw 35 = .ok (.invokevirtual 63, 3) := by decide +kernel
theorem dX7_draw_38 : decode cX7_draw 38 = .ok (.iload_n 1, 1) := by decide +kernel
theorem dX7_draw_39 : decode cX7_draw 39 = .ok (.irem, 1) := by decide +kernel
theorem dX7_draw_40 : decode cX7_draw 40 = .ok (.istore_n 3, 1) := by decide +kernel
theorem dX7_draw_41 : decode cX7_draw 41 = .ok (.iconst 0, 1) := by decide +kernel
theorem dX7_draw_42 : decode cX7_draw 42 = .ok (.istore 4, 2) := by decide +kernel
theorem dX7_draw_44 : decode cX7_draw 44 = .ok (.aload_n 0, 1) := by decide +kernel
theorem dX7_draw_45 : decode cX7_draw 45 = .ok (.getfield 26, 3) := by decide +kernel
theorem dX7_draw_48 : decode cX7_draw 48 = .ok (.iconst 0, 1) := by decide +kernel
theorem dX7_draw_49 : decode cX7_draw 49 = .ok (.iaload, 1) := by decide +kernel
theorem dX7_draw_50 : decode cX7_draw 50 = .ok (.istore 5, 2) := by decide +kernel
theorem dX7_draw_52 : decode cX7_draw 52 = .ok (.iload 5, 2) := by decide +kernel
theorem dX7_draw_54 : decode cX7_draw 54 = .ok (.iload_n 3, 1) := by decide +kernel
theorem dX7_draw_55 : decode cX7_draw 55 = .ok (.if_icmp .gt 21, 3) := by decide +kernel
theorem dX7_draw_58 : decode cX7_draw 58 = .ok (.iinc 4 1, 3) := by decide +kernel
theorem dX7_draw_61 : decode cX7_draw 61 = .ok (.iload 5, 2) := by decide +kernel
theorem dX7_draw_63 : decode cX7_draw 63 = .ok (.aload_n 0, 1) := by decide +kernel
theorem dX7_draw_64 : decode cX7_draw 64 = .ok (.getfield 26, 3) := by decide +kernel
theorem dX7_draw_67 : decode cX7_draw 67 = .ok (.iload 4, 2) := by decide +kernel
theorem dX7_draw_69 : decode cX7_draw 69 = .ok (.iaload, 1) := by decide +kernel
theorem dX7_draw_70 : decode cX7_draw 70 = .ok (.iadd, 1) := by decide +kernel
theorem dX7_draw_71 : decode cX7_draw 71 = .ok (.istore 5, 2) := by decide +kernel
theorem dX7_draw_73 : decode cX7_draw 73 = .ok (.goto (-21), 3) := by decide +kernel
theorem dX7_draw_76 : decode cX7_draw 76 = .ok (.iload 4, 2) := by decide +kernel
theorem dX7_draw_78 : decode cX7_draw 78 = .ok (.ireturn, 1) := by decide +kernel
set_option maxRecDepth 20000 in
theorem ggX7_remember_X7_of : GoodIn wsX7_remember wsX7_of := goodIn_r _ [7, 1, 16, 17, 18, 19, 20, 21, 22, 23, 24, 25, 26, 27] rfl (by decide +kernel)
set_option maxRecDepth 20000 in
theorem gX7_remember_X7_of : GoodIn wsX7_remember (wsV RX7 66 RX7 yX7_of wsX7_of) := goodIn_app (goodIn_of _ (by decide +kernel)) ggX7_remember_X7_of
set_option maxRecDepth 20000 in
theorem ggX7_remember_X7_ofClimber : GoodIn wsX7_remember wsX7_ofClimber := goodIn_r _ [11, 1, 16, 17, 18, 19, 20, 21, 22, 23, 24, 25, 26, 27] rfl (by decide +kernel)
set_option maxRecDepth 20000 in
theorem gX7_remember_X7_ofClimber : GoodIn wsX7_remember (wsV RX7 39 RX7 yX7_ofClimber wsX7_ofClimber) := goodIn_app (goodIn_of _ (by decide +kernel)) ggX7_remember_X7_ofClimber
set_option maxRecDepth 20000 in
theorem ggX7_remember_X7_layClimber : GoodIn wsX7_remember wsX7_layClimber := goodIn_r _ [15, 1, 16, 17, 18, 19, 20, 21, 22, 23, 24, 25, 26, 27] rfl (by decide +kernel)
set_option maxRecDepth 20000 in
theorem gX7_remember_X7_layClimber : GoodIn wsX7_remember (wsV RX7 54 RX7 yX7_layClimber wsX7_layClimber) := goodIn_app (goodIn_of _ (by decide +kernel)) ggX7_remember_X7_layClimber
theorem dX7_remember_0 : decode cX7_remember 0 = .ok (.iconst 0, 1) := by decide +kernel
theorem dX7_remember_1 : decode cX7_remember 1 = .ok (.istore_n 1, 1) := by decide +kernel
theorem dX7_remember_2 : decode cX7_remember 2 = .ok (.iload_n 1, 1) := by decide +kernel
theorem dX7_remember_3 : decode cX7_remember 3 = .ok (.aload_n 0, 1) := by decide +kernel
theorem dX7_remember_4 : decode cX7_remember 4 = .ok (.getfield 7, 3) := by decide +kernel
theorem dX7_remember_7 : decode cX7_remember 7 = .ok (.iconst 2, 1) := by decide +kernel
theorem dX7_remember_8 : decode cX7_remember 8 = .ok (.iaload, 1) := by decide +kernel
theorem dX7_remember_9 : decode cX7_remember 9 = .ok (.if_icmp .ge 132, 3) := by decide +kernel
theorem dX7_remember_12 : decode cX7_remember 12 = .ok (.iconst 0, 1) := by decide +kernel
theorem dX7_remember_13 : decode cX7_remember 13 = .ok (.istore_n 2, 1) := by decide +kernel
theorem dX7_remember_14 : decode cX7_remember 14 = .ok (.iconst 0, 1) := by decide +kernel
theorem dX7_remember_15 : decode cX7_remember 15 = .ok (.istore_n 3, 1) := by decide +kernel
theorem dX7_remember_16 : decode cX7_remember 16 = .ok (.iconst 0, 1) := by decide +kernel
theorem dX7_remember_17 : decode cX7_remember 17 = .ok (.istore 4, 2) := by decide +kernel
theorem dX7_remember_19 : decode cX7_remember 19 = .ok (.iload 4, 2) := by decide +kernel
theorem dX7_remember_21 : decode cX7_remember 21 = .ok (.aload_n 0, 1) := by decide +kernel
theorem dX7_remember_22 : decode cX7_remember 22 = .ok (.getfield 7, 3) := by decide +kernel
theorem dX7_remember_25 : decode cX7_remember 25 = .ok (.iconst 3, 1) := by decide +kernel
theorem dX7_remember_26 : decode cX7_remember 26 = .ok (.iaload, 1) := by decide +kernel
theorem dX7_remember_27 : decode cX7_remember 27 = .ok (.if_icmp .ge 82, 3) := by decide +kernel
theorem dX7_remember_30 : decode cX7_remember 30 = .ok (.iload_n 2, 1) := by decide +kernel
theorem dX7_remember_31 : decode cX7_remember 31 = .ok (.ifCond .ne 24, 3) := by decide +kernel
theorem dX7_remember_34 : decode cX7_remember 34 = .ok (.aload_n 0, 1) := by decide +kernel
theorem dX7_remember_35 : decode cX7_remember 35 = .ok (.getfield 29, 3) := by decide +kernel
theorem dX7_remember_38 : decode cX7_remember 38 = .ok (.iload 4, 2) := by decide +kernel
theorem dX7_remember_40 : decode cX7_remember 40 = .ok (.baload, 1) := by decide +kernel
theorem dX7_remember_41 : decode cX7_remember 41 = .ok (.ifCond .eq 18, 3) := by decide +kernel
theorem dX7_remember_44 : decode cX7_remember 44 = .ok (.aload_n 0, 1) := by decide +kernel
theorem dX7_remember_45 : decode cX7_remember 45 = .ok (.iload 4, 2) := by decide +kernel
theorem dX7_remember_47 : decode cX7_remember 47 = .ok (.iconst 0, 1) := by decide +kernel
theorem dX7_remember_48 : decode cX7_remember 48 = .ok (.invokevirtual 66, 3) := by decide +kernel
theorem dX7_remember_51 : decode cX7_remember 51 = .ok (.iload_n 1, 1) := by decide +kernel
theorem dX7_remember_52 : decode cX7_remember 52 = .ok (.if_icmp .ne 7, 3) := by decide +kernel
theorem dX7_remember_55 : decode cX7_remember 55 = .ok (.iconst 1, 1) := by decide +kernel
theorem dX7_remember_56 : decode cX7_remember 56 = .ok (.goto 4, 3) := by decide +kernel
theorem dX7_remember_59 : decode cX7_remember 59 = .ok (.iconst 0, 1) := by decide +kernel
theorem dX7_remember_60 : decode cX7_remember 60 = .ok (.istore_n 2, 1) := by decide +kernel
theorem dX7_remember_61 : decode cX7_remember 61 = .ok (.iload_n 3, 1) := by decide +kernel
theorem dX7_remember_62 : decode cX7_remember 62 = .ok (.ifCond .ne 35, 3) := by decide +kernel
theorem dX7_remember_65 : decode cX7_remember 65 = .ok (.aload_n 0, 1) := by decide +kernel
theorem dX7_remember_66 : decode cX7_remember 66 = .ok (.getfield 29, 3) := by decide +kernel
theorem dX7_remember_69 : decode cX7_remember 69 = .ok (.iload 4, 2) := by decide +kernel
theorem dX7_remember_71 : decode cX7_remember 71 = .ok (.baload, 1) := by decide +kernel
theorem dX7_remember_72 : decode cX7_remember 72 = .ok (.ifCond .eq 29, 3) := by decide +kernel
theorem dX7_remember_75 : decode cX7_remember 75 = .ok (.aload_n 0, 1) := by decide +kernel
theorem dX7_remember_76 : decode cX7_remember 76 = .ok (.iload 4, 2) := by decide +kernel
theorem dX7_remember_78 : decode cX7_remember 78 = .ok (.iconst 0, 1) := by decide +kernel
theorem dX7_remember_79 : decode cX7_remember 79 = .ok (.invokevirtual 66, 3) := by decide +kernel
theorem dX7_remember_82 : decode cX7_remember 82 = .ok (.iload_n 1, 1) := by decide +kernel
theorem dX7_remember_83 : decode cX7_remember 83 = .ok (.if_icmp .ne 18, 3) := by decide +kernel
theorem dX7_remember_86 : decode cX7_remember 86 = .ok (.aload_n 0, 1) := by decide +kernel
theorem dX7_remember_87 : decode cX7_remember 87 = .ok (.iload 4, 2) := by decide +kernel
theorem dX7_remember_89 : decode cX7_remember 89 = .ok (.iconst 4, 1) := by decide +kernel
theorem dX7_remember_90 : decode cX7_remember 90 = .ok (.invokevirtual 66, 3) := by decide +kernel
theorem dX7_remember_93 : decode cX7_remember 93 = .ok (.iconst 1, 1) := by decide +kernel
theorem dX7_remember_94 : decode cX7_remember 94 = .ok (.if_icmp .ne 7, 3) := by decide +kernel
theorem dX7_remember_97 : decode cX7_remember 97 = .ok (.iconst 1, 1) := by decide +kernel
theorem dX7_remember_98 : decode cX7_remember 98 = .ok (.goto 4, 3) := by decide +kernel
theorem dX7_remember_101 : decode cX7_remember 101 = .ok (.iconst 0, 1) := by decide +kernel
theorem dX7_remember_102 : decode cX7_remember 102 = .ok (.istore_n 3, 1) := by decide +kernel
theorem dX7_remember_103 : decode cX7_remember 103 = .ok (.iinc 4 1, 3) := by decide +kernel
theorem dX7_remember_106 : decode cX7_remember 106 = .ok (.goto (-87), 3) := by decide +kernel
theorem dX7_remember_109 : decode cX7_remember 109 = .ok (.iload_n 2, 1) := by decide +kernel
theorem dX7_remember_110 : decode cX7_remember 110 = .ok (.ifCond .eq 25, 3) := by decide +kernel
theorem dX7_remember_113 : decode cX7_remember 113 = .ok (.aload_n 0, 1) := by decide +kernel
theorem dX7_remember_114 : decode cX7_remember 114 = .ok (.iload_n 1, 1) := by decide +kernel
theorem dX7_remember_115 : decode cX7_remember 115 = .ok (.iconst 0, 1) := by decide +kernel
theorem dX7_remember_116 : decode cX7_remember 116 = .ok (.iload_n 3, 1) := by decide +kernel
theorem dX7_remember_117 : decode cX7_remember 117 = .ok (.ifCond .eq 7, 3) := by decide +kernel
theorem dX7_remember_120 : decode cX7_remember 120 = .ok (.iconst 0, 1) := by decide +kernel
theorem dX7_remember_121 : decode cX7_remember 121 = .ok (.goto 11, 3) := by decide +kernel
theorem dX7_remember_124 : decode cX7_remember 124 = .ok (.aload_n 0, 1) := by decide +kernel
theorem dX7_remember_125 : decode cX7_remember 125 = .ok (.iload_n 1, 1) := by decide +kernel
theorem dX7_remember_126 : decode cX7_remember 126 = .ok (.iconst 0, 1) := by decide +kernel
theorem dX7_remember_127 : decode cX7_remember 127 = .ok (.invokevirtual 39, 3) := by decide +kernel
theorem dX7_remember_130 : decode cX7_remember 130 = .ok (.iconst 1, 1) := by decide +kernel
theorem dX7_remember_131 : decode cX7_remember 131 = .ok (.iadd, 1) := by decide +kernel
theorem dX7_remember_132 : decode cX7_remember 132 = .ok (.invokevirtual 54, 3) := by decide +kernel
theorem dX7_remember_135 : decode cX7_remember 135 = .ok (.iinc 1 1, 3) := by decide +kernel
theorem dX7_remember_138 : decode cX7_remember 138 = .ok (.goto (-136), 3) := by decide +kernel
theorem dX7_remember_141 : decode cX7_remember 141 = .ok (.return_, 1) := by decide +kernel
set_option maxRecDepth 20000 in
theorem ggX7_hold_X7_enter : GoodIn wsX7_hold wsX7_enter := goodIn_r _ [6, 7, 8, 1, 9, 10, 11, 5, 12, 13, 14, 15, 16, 17, 18, 19, 20, 21, 22, 23, 24, 25, 26, 27, 28, 29, 30, 31, 32, 33, 34, 35, 36, 75, 76, 77, 78, 79, 80, 81, 82, 83, 84, 85, 86] rfl (by decide +kernel)
set_option maxRecDepth 20000 in
theorem gX7_hold_X7_enter : GoodIn wsX7_hold (wsV RX7 98 RX7 yX7_enter wsX7_enter) := goodIn_app (goodIn_of _ (by decide +kernel)) ggX7_hold_X7_enter
set_option maxRecDepth 20000 in
theorem ggX7_hold_X7_ticketsLeft : GoodIn wsX7_hold wsX7_ticketsLeft := goodIn_r _ [40, 7, 1, 75, 76, 77, 78, 79, 80, 81, 82, 83, 84, 85, 86] rfl (by decide +kernel)
set_option maxRecDepth 20000 in
theorem gX7_hold_X7_ticketsLeft : GoodIn wsX7_hold (wsV RX7 102 RX7 yX7_ticketsLeft wsX7_ticketsLeft) := goodIn_app (goodIn_of _ (by decide +kernel)) ggX7_hold_X7_ticketsLeft
set_option maxRecDepth 20000 in
theorem ggX7_hold_X7_draw : GoodIn wsX7_hold wsX7_draw := goodIn_r _ [44, 45, 7, 46, 1, 29, 30, 31, 5, 32, 75, 76, 77, 78, 79, 80, 81, 82, 83, 84, 85, 86] rfl (by decide +kernel)
set_option maxRecDepth 20000 in
theorem gX7_hold_X7_draw : GoodIn wsX7_hold (wsV RX7 106 RX7 yX7_draw wsX7_draw) := goodIn_app (goodIn_of _ (by decide +kernel)) ggX7_hold_X7_draw
set_option maxRecDepth 20000 in
theorem ggX7_hold_X7_of : GoodIn wsX7_hold wsX7_of := goodIn_r _ [16, 7, 75, 76, 77, 78, 79, 80, 81, 82, 83, 84, 85, 86] rfl (by decide +kernel)
set_option maxRecDepth 20000 in
theorem gX7_hold_X7_of : GoodIn wsX7_hold (wsV RX7 66 RX7 yX7_of wsX7_of) := goodIn_app (goodIn_of _ (by decide +kernel)) ggX7_hold_X7_of
set_option maxRecDepth 20000 in
theorem ggX7_hold_X7_left : GoodIn wsX7_hold wsX7_left := goodIn_r _ [50, 51, 52, 53, 5, 54, 7, 55, 56, 57, 58, 59, 60, 61, 62, 13, 14, 15, 16, 9, 10, 11, 12, 75, 76, 77, 78, 79, 80, 81, 82, 83, 84, 85, 86] rfl (by decide +kernel)
set_option maxRecDepth 20000 in
theorem gX7_hold_X7_left : GoodIn wsX7_hold (wsV RX7 109 RX7 yX7_left wsX7_left) := goodIn_app (goodIn_of _ (by decide +kernel)) ggX7_hold_X7_left
set_option maxRecDepth 20000 in
theorem ggX7_hold_X7_permit : GoodIn wsX7_hold wsX7_permit := goodIn_r _ [66, 29, 30, 31, 5, 32, 7, 13, 14, 15, 16, 33, 34, 35, 36, 75, 76, 77, 78, 79, 80, 81, 82, 83, 84, 85, 86] rfl (by decide +kernel)
set_option maxRecDepth 20000 in
theorem gX7_hold_X7_permit : GoodIn wsX7_hold (wsV RX7 112 RX7 yX7_permit wsX7_permit) := goodIn_app (goodIn_of _ (by decide +kernel)) ggX7_hold_X7_permit
set_option maxRecDepth 20000 in
theorem ggX7_hold_X7_lay : GoodIn wsX7_hold wsX7_lay := goodIn_r _ [36, 7, 75, 76, 77, 78, 79, 80, 81, 82, 83, 84, 85, 86] rfl (by decide +kernel)
set_option maxRecDepth 20000 in
theorem gX7_hold_X7_lay : GoodIn wsX7_hold (wsV RX7 75 RX7 yX7_lay wsX7_lay) := goodIn_app (goodIn_of _ (by decide +kernel)) ggX7_hold_X7_lay
set_option maxRecDepth 20000 in
theorem ggX7_hold_X7_remember : GoodIn wsX7_hold wsX7_remember := goodIn_r _ [70, 7, 8, 13, 14, 15, 5, 16, 21, 22, 23, 24, 71, 72, 73, 74, 75, 76, 77, 78, 79, 80, 81, 82, 83, 84, 85, 86] rfl (by decide +kernel)
set_option maxRecDepth 20000 in
theorem gX7_hold_X7_remember : GoodIn wsX7_hold (wsV RX7 115 RX7 yX7_remember wsX7_remember) := goodIn_app (goodIn_of _ (by decide +kernel)) ggX7_hold_X7_remember
theorem dX7_hold_0 : decode cX7_hold 0 = .ok (.aload_n 0, 1) := by decide +kernel
theorem dX7_hold_1 : decode cX7_hold 1 = .ok (.iload_n 1, 1) := by decide +kernel
theorem dX7_hold_2 : decode cX7_hold 2 = .ok (.iload_n 2, 1) := by decide +kernel
theorem dX7_hold_3 : decode cX7_hold 3 = .ok (.invokevirtual 98, 3) := by decide +kernel
theorem dX7_hold_6 : decode cX7_hold 6 = .ok (.iconst 0, 1) := by decide +kernel
theorem dX7_hold_7 : decode cX7_hold 7 = .ok (.istore_n 3, 1) := by decide +kernel
theorem dX7_hold_8 : decode cX7_hold 8 = .ok (.aload_n 0, 1) := by decide +kernel
theorem dX7_hold_9 : decode cX7_hold 9 = .ok (.invokevirtual 102, 3) := by decide +kernel
theorem dX7_hold_12 : decode cX7_hold 12 = .ok (.istore 4, 2) := by decide +kernel
theorem dX7_hold_14 : decode cX7_hold 14 = .ok (.iload 4, 2) := by decide +kernel
theorem dX7_hold_16 : decode cX7_hold 16 = .ok (.ifCond .le 82, 3) := by decide +kernel
theorem dX7_hold_19 : decode cX7_hold 19 = .ok (.aload_n 0, 1) := by decide +kernel
theorem dX7_hold_20 : decode cX7_hold 20 = .ok (.iload 4, 2) := by decide +kernel
theorem dX7_hold_22 : decode cX7_hold 22 = .ok (.invokevirtual 106, 3) := by decide +kernel
theorem dX7_hold_25 : decode cX7_hold 25 = .ok (.istore 5, 2) := by decide +kernel
theorem dX7_hold_27 : decode cX7_hold 27 = .ok (.aload_n 0, 1) := by decide +kernel
theorem dX7_hold_28 : decode cX7_hold 28 = .ok (.iload 5, 2) := by decide +kernel
theorem dX7_hold_30 : decode cX7_hold 30 = .ok (.iconst 3, 1) := by decide +kernel
theorem dX7_hold_31 : decode cX7_hold 31 = .ok (.invokevirtual 66, 3) := by decide +kernel
theorem dX7_hold_34 : decode cX7_hold 34 = .ok (.aload_n 0, 1) := by decide +kernel
theorem dX7_hold_35 : decode cX7_hold 35 = .ok (.iload_n 1, 1) := by decide +kernel
theorem dX7_hold_36 : decode cX7_hold 36 = .ok (.iload_n 2, 1) := by decide +kernel
theorem dX7_hold_37 : decode cX7_hold 37 = .ok (.invokevirtual 109, 3) := by decide +kernel
theorem dX7_hold_40 : decode cX7_hold 40 = .ok (.if_icmp .gt 27, 3) := by decide +kernel
theorem dX7_hold_43 : decode cX7_hold 43 = .ok (.aload_n 0, 1) := by decide +kernel
theorem dX7_hold_44 : decode cX7_hold 44 = .ok (.iload 5, 2) := by decide +kernel
theorem dX7_hold_46 : decode cX7_hold 46 = .ok (.invokevirtual 112, 3) := by decide +kernel
theorem dX7_hold_49 : decode cX7_hold 49 = .ok (.istore 6, 2) := by decide +kernel
theorem dX7_hold_51 : decode cX7_hold 51 = .ok (.iload_n 3, 1) := by decide +kernel
theorem dX7_hold_52 : decode cX7_hold 52 = .ok (.iload 6, 2) := by decide +kernel
theorem dX7_hold_54 : decode cX7_hold 54 = .ok (.ifCond .le 7, 3) := by decide +kernel
theorem dX7_hold_57 : decode cX7_hold 57 = .ok (.iconst 1, 1) := by decide +kernel
theorem dX7_hold_58 : decode cX7_hold 58 = .ok (.goto 4, 3) := by decide +kernel
theorem dX7_hold_61 : decode cX7_hold 61 = .ok (.iconst 0, 1) := by decide +kernel
theorem dX7_hold_62 : decode cX7_hold 62 = .ok (.iadd, 1) := by decide +kernel
theorem dX7_hold_63 : decode cX7_hold 63 = .ok (.istore_n 3, 1) := by decide +kernel
theorem dX7_hold_64 : decode cX7_hold 64 = .ok (.goto 11, 3) := by decide +kernel
theorem dX7_hold_67 : decode cX7_hold 67 = .ok (.aload_n 0, 1) := by decide +kernel
theorem dX7_hold_68 : decode cX7_hold 68 = .ok (.iload 5, 2) := by decide +kernel
theorem dX7_hold_70 : decode cX7_hold 70 = .ok (.iconst 4, 1) := by decide +kernel
theorem dX7_hold_71 : decode cX7_hold 71 = .ok (.iconst 2, 1) := by decide +kernel
theorem dX7_hold_72 : decode cX7_hold 72 = .ok (.invokevirtual 75, 3) := by decide +kernel
theorem dX7_hold_75 : decode cX7_hold 75 = .ok (.iload 4, 2) := by decide +kernel
theorem dX7_hold_77 : decode cX7_hold 77 = .ok (.aload_n 0, 1) := by decide +kernel
theorem dX7_hold_78 : decode cX7_hold 78 = .ok (.getfield 26, 3) := by decide +kernel
theorem dX7_hold_81 : decode cX7_hold 81 = .ok (.iload 5, 2) := by decide +kernel
theorem dX7_hold_83 : decode cX7_hold 83 = .ok (.iaload, 1) := by decide +kernel
theorem dX7_hold_84 : decode cX7_hold 84 = .ok (.isub, 1) := by decide +kernel
theorem dX7_hold_85 : decode cX7_hold 85 = .ok (.istore 4, 2) := by decide +kernel
theorem dX7_hold_87 : decode cX7_hold 87 = .ok (.aload_n 0, 1) := by decide +kernel
theorem dX7_hold_88 : decode cX7_hold 88 = .ok (.getfield 26, 3) := by decide +kernel
theorem dX7_hold_91 : decode cX7_hold 91 = .ok (.iload 5, 2) := by decide +kernel
theorem dX7_hold_93 : decode cX7_hold 93 = .ok (.iconst 0, 1) := by decide +kernel
theorem dX7_hold_94 : decode cX7_hold 94 = .ok (.iastore, 1) := by decide +kernel
theorem dX7_hold_95 : decode cX7_hold 95 = .ok (.goto (-81), 3) := by decide +kernel
theorem dX7_hold_98 : decode cX7_hold 98 = .ok (.aload_n 0, 1) := by decide +kernel
theorem dX7_hold_99 : decode cX7_hold 99 = .ok (.invokevirtual 115, 3) := by decide +kernel
theorem dX7_hold_102 : decode cX7_hold 102 = .ok (.iload_n 3, 1) := by decide +kernel
theorem dX7_hold_103 : decode cX7_hold 103 = .ok (.ireturn, 1) := by decide +kernel
set_option maxRecDepth 20000 in
theorem ggX7_lottery_X7_isRoute : GoodIn wsX7_lottery wsX7_isRoute := goodIn_r _ [6, 1, 7, 8, 5, 9, 97, 98, 99, 100, 101, 102, 103, 104, 105, 106, 107, 108] rfl (by decide +kernel)
set_option maxRecDepth 20000 in
theorem gX7_lottery_X7_isRoute : GoodIn wsX7_lottery (wsV RX7 43 RX7 yX7_isRoute wsX7_isRoute) := goodIn_app (goodIn_of _ (by decide +kernel)) ggX7_lottery_X7_isRoute
set_option maxRecDepth 20000 in
theorem ggX7_lottery_X7_isDay : GoodIn wsX7_lottery wsX7_isDay := goodIn_r _ [12, 7, 8, 5, 9] rfl (by decide +kernel)
set_option maxRecDepth 20000 in
theorem gX7_lottery_X7_isDay : GoodIn wsX7_lottery (va_wsS RX7 81 yX7_isDay wsX7_isDay) := goodIn_app (goodIn_of _ (by decide +kernel)) ggX7_lottery_X7_isDay
set_option maxRecDepth 20000 in
theorem ggX7_lottery_X7_isClosed : GoodIn wsX7_lottery wsX7_isClosed := goodIn_r _ [16, 1, 97, 98, 99, 100, 101, 102, 103, 104, 105, 106, 107, 108] rfl (by decide +kernel)
set_option maxRecDepth 20000 in
theorem gX7_lottery_X7_isClosed : GoodIn wsX7_lottery (wsV RX7 84 RX7 yX7_isClosed wsX7_isClosed) := goodIn_app (goodIn_of _ (by decide +kernel)) ggX7_lottery_X7_isClosed
set_option maxRecDepth 20000 in
theorem ggX7_lottery_X7_inState : GoodIn wsX7_lottery wsX7_inState := goodIn_r _ [20, 1, 21, 22, 23, 5, 24, 25, 26, 27, 28, 97, 98, 99, 100, 101, 102, 103, 104, 105, 106, 107, 108] rfl (by decide +kernel)
set_option maxRecDepth 20000 in
theorem gX7_lottery_X7_inState : GoodIn wsX7_lottery (wsV RX7 118 RX7 yX7_inState wsX7_inState) := goodIn_app (goodIn_of _ (by decide +kernel)) ggX7_lottery_X7_inState
set_option maxRecDepth 20000 in
theorem ggX7_lottery_X7_hold : GoodIn wsX7_lottery wsX7_hold := goodIn_r _ [32, 33, 34, 35, 36, 5, 37, 1, 38, 21, 22, 23, 24, 25, 26, 27, 28, 39, 40, 41, 42, 43, 44, 45, 46, 47, 48, 49, 50, 51, 52, 53, 54, 55, 56, 57, 58, 59, 60, 61, 62, 63, 64, 65, 66, 67, 68, 69, 70, 71, 72, 73, 74, 75, 76, 77, 78, 79, 80, 81, 82, 83, 84, 85, 86, 87, 88, 89, 90, 91, 92, 93, 94, 95, 96, 97, 98, 99, 100, 101, 102, 103, 104, 105, 106, 107, 108] rfl (by decide +kernel)
set_option maxRecDepth 20000 in
theorem gX7_lottery_X7_hold : GoodIn wsX7_lottery (wsV RX7 122 RX7 yX7_hold wsX7_hold) := goodIn_app (goodIn_of _ (by decide +kernel)) ggX7_lottery_X7_hold
theorem dX7_lottery_0 : decode cX7_lottery 0 = .ok (.aload_n 0, 1) := by decide +kernel
theorem dX7_lottery_1 : decode cX7_lottery 1 = .ok (.iload_n 1, 1) := by decide +kernel
theorem dX7_lottery_2 : decode cX7_lottery 2 = .ok (.invokevirtual 43, 3) := by decide +kernel
theorem dX7_lottery_5 : decode cX7_lottery 5 = .ok (.ifCond .eq 10, 3) := by decide +kernel
theorem dX7_lottery_8 : decode cX7_lottery 8 = .ok (.iload_n 2, 1) := by decide +kernel
theorem dX7_lottery_9 : decode cX7_lottery 9 = .ok (.invokestatic 81, 3) := by decide +kernel
theorem dX7_lottery_12 : decode cX7_lottery 12 = .ok (.ifCond .ne 5, 3) := by decide +kernel
theorem dX7_lottery_15 : decode cX7_lottery 15 = .ok (.iconst (-1), 1) := by decide +kernel
theorem dX7_lottery_16 : decode cX7_lottery 16 = .ok (.ireturn, 1) := by decide +kernel
theorem dX7_lottery_17 : decode cX7_lottery 17 = .ok (.iload_n 2, 1) := by decide +kernel
theorem dX7_lottery_18 : decode cX7_lottery 18 = .ok (.aload_n 0, 1) := by decide +kernel
theorem dX7_lottery_19 : decode cX7_lottery 19 = .ok (.getfield 7, 3) := by decide +kernel
theorem dX7_lottery_22 : decode cX7_lottery 22 = .ok (.iconst 0, 1) := by decide +kernel
theorem dX7_lottery_23 : decode cX7_lottery 23 = .ok (.iaload, 1) := by decide +kernel
theorem dX7_lottery_24 : decode cX7_lottery 24 = .ok (.if_icmp .lt 21, 3) := by decide +kernel
theorem dX7_lottery_27 : decode cX7_lottery 27 = .ok (.aload_n 0, 1) := by decide +kernel
theorem dX7_lottery_28 : decode cX7_lottery 28 = .ok (.iload_n 2, 1) := by decide +kernel
theorem dX7_lottery_29 : decode cX7_lottery 29 = .ok (.invokevirtual 84, 3) := by decide +kernel
theorem dX7_lottery_32 : decode cX7_lottery 32 = .ok (.ifCond .ne 13, 3) := by decide +kernel
theorem dX7_lottery_35 : decode cX7_lottery 35 = .ok (.aload_n 0, 1) := by decide +kernel
theorem dX7_lottery_36 : decode cX7_lottery 36 = .ok (.iload_n 1, 1) := by decide +kernel
theorem dX7_lottery_37 : decode cX7_lottery 37 = .ok (.iload_n 2, 1) := by decide +kernel
theorem dX7_lottery_38 : decode cX7_lottery 38 = .ok (.iconst 0, 1) := by decide +kernel
theorem dX7_lottery_39 : decode cX7_lottery 39 = .ok (.invokevirtual 118, 3) := by decide +kernel
theorem dX7_lottery_42 : decode cX7_lottery 42 = .ok (.ifCond .ne 6, 3) := by decide +kernel
theorem dX7_lottery_45 : decode cX7_lottery 45 = .ok (.bipush (-5), 2) := by decide +kernel
theorem dX7_lottery_47 : decode cX7_lottery 47 = .ok (.ireturn, 1) := by decide +kernel
theorem dX7_lottery_48 : decode cX7_lottery 48 = .ok (.aload_n 0, 1) := by decide +kernel
theorem dX7_lottery_49 : decode cX7_lottery 49 = .ok (.iload_n 1, 1) := by decide +kernel
theorem dX7_lottery_50 : decode cX7_lottery 50 = .ok (.iload_n 2, 1) := by decide +kernel
theorem dX7_lottery_51 : decode cX7_lottery 51 = .ok (.invokevirtual 122, 3) := by decide +kernel
theorem dX7_lottery_54 : decode cX7_lottery 54 = .ok (.ireturn, 1) := by decide +kernel
set_option maxRecDepth 20000 in
theorem ggX7_firstWaiting_X7_of : GoodIn wsX7_firstWaiting wsX7_of := goodIn_r _ [6, 1, 23, 24, 25, 26, 27, 28, 29, 30, 31, 32, 33, 34] rfl (by decide +kernel)
set_option maxRecDepth 20000 in
theorem gX7_firstWaiting_X7_of : GoodIn wsX7_firstWaiting (wsV RX7 66 RX7 yX7_of wsX7_of) := goodIn_app (goodIn_of _ (by decide +kernel)) ggX7_firstWaiting_X7_of
set_option maxRecDepth 20000 in
theorem ggX7_firstWaiting_X7_ofClimber : GoodIn wsX7_firstWaiting wsX7_ofClimber := goodIn_r _ [10, 1, 23, 24, 25, 26, 27, 28, 29, 30, 31, 32, 33, 34] rfl (by decide +kernel)
set_option maxRecDepth 20000 in
theorem gX7_firstWaiting_X7_ofClimber : GoodIn wsX7_firstWaiting (wsV RX7 39 RX7 yX7_ofClimber wsX7_ofClimber) := goodIn_app (goodIn_of _ (by decide +kernel)) ggX7_firstWaiting_X7_ofClimber
set_option maxRecDepth 20000 in
theorem ggX7_firstWaiting_X7_isOn : GoodIn wsX7_firstWaiting wsX7_isOn := goodIn_r _ [14, 2, 3, 4, 5, 6, 1, 23, 24, 25, 26, 27, 28, 29, 30, 31, 32, 33, 34] rfl (by decide +kernel)
set_option maxRecDepth 20000 in
theorem gX7_firstWaiting_X7_isOn : GoodIn wsX7_firstWaiting (wsV RX7 69 RX7 yX7_isOn wsX7_isOn) := goodIn_app (goodIn_of _ (by decide +kernel)) ggX7_firstWaiting_X7_isOn
set_option maxRecDepth 20000 in
theorem ggX7_firstWaiting_X7_isBarred : GoodIn wsX7_firstWaiting wsX7_isBarred := goodIn_r _ [18, 7, 8, 9, 5, 10, 1, 23, 24, 25, 26, 27, 28, 29, 30, 31, 32, 33, 34] rfl (by decide +kernel)
set_option maxRecDepth 20000 in
theorem gX7_firstWaiting_X7_isBarred : GoodIn wsX7_firstWaiting (wsV RX7 90 RX7 yX7_isBarred wsX7_isBarred) := goodIn_app (goodIn_of _ (by decide +kernel)) ggX7_firstWaiting_X7_isBarred
set_option maxRecDepth 20000 in
theorem ggX7_firstWaiting_X7_isClosed : GoodIn wsX7_firstWaiting wsX7_isClosed := goodIn_r _ [22, 1, 23, 24, 25, 26, 27, 28, 29, 30, 31, 32, 33, 34] rfl (by decide +kernel)
set_option maxRecDepth 20000 in
theorem gX7_firstWaiting_X7_isClosed : GoodIn wsX7_firstWaiting (wsV RX7 84 RX7 yX7_isClosed wsX7_isClosed) := goodIn_app (goodIn_of _ (by decide +kernel)) ggX7_firstWaiting_X7_isClosed
theorem dX7_firstWaiting_0 : decode cX7_firstWaiting 0 = .ok (.bipush (-6), 2) := by decide +kernel
theorem dX7_firstWaiting_2 : decode cX7_firstWaiting 2 = .ok (.istore 4, 2) := by decide +kernel
theorem dX7_firstWaiting_4 : decode cX7_firstWaiting 4 = .ok (.iconst 0, 1) := by decide +kernel
theorem dX7_firstWaiting_5 : decode cX7_firstWaiting 5 = .ok (.istore 5, 2) := by decide +kernel
theorem dX7_firstWaiting_7 : decode cX7_firstWaiting 7 = .ok (.iload 5, 2) := by decide +kernel
theorem dX7_firstWaiting_9 : decode cX7_firstWaiting 9 = .ok (.aload_n 0, 1) := by decide +kernel
theorem dX7_firstWaiting_10 : decode cX7_firstWaiting 10 = .ok (.getfield 7, 3) := by decide +kernel
theorem dX7_firstWaiting_13 : decode cX7_firstWaiting 13 = .ok (.iconst 3, 1) := by decide +kernel
theorem dX7_firstWaiting_14 : decode cX7_firstWaiting 14 = .ok (.iaload, 1) := by decide +kernel
theorem dX7_firstWaiting_15 : decode cX7_firstWaiting 15 = .ok (.if_icmp .ge 114, 3) := by decide +kernel
theorem dX7_firstWaiting_18 : decode cX7_firstWaiting 18 = .ok (.aload_n 0, 1) := by decide +kernel
theorem dX7_firstWaiting_19 : decode cX7_firstWaiting 19 = .ok (.aload_n 0, 1) := by decide +kernel
theorem dX7_firstWaiting_20 : decode cX7_firstWaiting 20 = .ok (.iload 5, 2) := by decide +kernel
theorem dX7_firstWaiting_22 : decode cX7_firstWaiting 22 = .ok (.iconst 0, 1) := by decide +kernel
theorem dX7_firstWaiting_23 : decode cX7_firstWaiting 23 = .ok (.invokevirtual 66, 3) := by decide +kernel
theorem dX7_firstWaiting_26 : decode cX7_firstWaiting 26 = .ok (.iconst 0, 1) := by decide +kernel
theorem dX7_firstWaiting_27 : decode cX7_firstWaiting 27 = .ok (.invokevirtual 39, 3) := by decide +kernel
theorem dX7_firstWaiting_30 : decode cX7_firstWaiting 30 = .ok (.istore 6, 2) := by decide +kernel
theorem dX7_firstWaiting_32 : decode cX7_firstWaiting 32 = .ok (.aload_n 0, 1) := by decide +kernel
theorem dX7_firstWaiting_33 : decode cX7_firstWaiting 33 = .ok (.iload 5, 2) := by decide +kernel
theorem dX7_firstWaiting_35 : decode cX7_firstWaiting 35 = .ok (.iload_n 1, 1) := by decide +kernel
theorem dX7_firstWaiting_36 : decode cX7_firstWaiting 36 = .ok (.iload_n 2, 1) := by decide +kernel
theorem dX7_firstWaiting_37 : decode cX7_firstWaiting 37 = .ok (.invokevirtual 69, 3) := by decide +kernel
theorem dX7_firstWaiting_40 : decode cX7_firstWaiting 40 = .ok (.ifCond .eq 44, 3) := by decide +kernel
theorem dX7_firstWaiting_43 : decode cX7_firstWaiting 43 = .ok (.aload_n 0, 1) := by decide +kernel
theorem dX7_firstWaiting_44 : decode cX7_firstWaiting 44 = .ok (.iload 5, 2) := by decide +kernel
theorem dX7_firstWaiting_46 : decode cX7_firstWaiting 46 = .ok (.iconst 4, 1) := by decide +kernel
theorem dX7_firstWaiting_47 : decode cX7_firstWaiting 47 = .ok (.invokevirtual 66, 3) := by decide +kernel
theorem dX7_firstWaiting_50 : decode cX7_firstWaiting 50 = .ok (.iconst 2, 1) := by decide +kernel
theorem dX7_firstWaiting_51 : decode cX7_firstWaiting 51 = .ok (.if_icmp .ne 33, 3) := by decide +kernel
theorem dX7_firstWaiting_54 : decode cX7_firstWaiting 54 = .ok (.aload_n 0, 1) := by decide +kernel
theorem dX7_firstWaiting_55 : decode cX7_firstWaiting 55 = .ok (.iload 5, 2) := by decide +kernel
theorem dX7_firstWaiting_57 : decode cX7_firstWaiting 57 = .ok (.iconst 3, 1) := by decide +kernel
theorem dX7_firstWaiting_58 : decode cX7_firstWaiting 58 = .ok (.invokevirtual 66, 3) := by decide +kernel
theorem dX7_firstWaiting_61 : decode cX7_firstWaiting 61 = .ok (.iload_n 3, 1) := by decide +kernel
theorem dX7_firstWaiting_62 : decode cX7_firstWaiting 62 = .ok (.if_icmp .gt 22, 3) := by decide +kernel
theorem dX7_firstWaiting_65 : decode cX7_firstWaiting 65 = .ok (.aload_n 0, 1) := by decide +kernel
theorem dX7_firstWaiting_66 : decode cX7_firstWaiting 66 = .ok (.aload_n 0, 1) := by decide +kernel
theorem dX7_firstWaiting_67 : decode cX7_firstWaiting 67 = .ok (.iload 5, 2) := by decide +kernel
theorem dX7_firstWaiting_69 : decode cX7_firstWaiting 69 = .ok (.iconst 0, 1) := by decide +kernel
theorem dX7_firstWaiting_70 : decode cX7_firstWaiting 70 = .ok (.invokevirtual 66, 3) := by decide +kernel
theorem dX7_firstWaiting_73 : decode cX7_firstWaiting 73 = .ok (.iload_n 2, 1) := by decide +kernel
theorem dX7_firstWaiting_74 : decode cX7_firstWaiting 74 = .ok (.invokevirtual 90, 3) := by decide +kernel
theorem dX7_firstWaiting_77 : decode cX7_firstWaiting 77 = .ok (.ifCond .ne 7, 3) := by decide +kernel
theorem dX7_firstWaiting_80 : decode cX7_firstWaiting 80 = .ok (.iconst 1, 1) := by decide +kernel
theorem dX7_firstWaiting_81 : decode cX7_firstWaiting 81 = .ok (.goto 4, 3) := by decide +kernel
theorem dX7_firstWaiting_84 : decode cX7_firstWaiting 84 = .ok (.iconst 0, 1) := by decide +kernel
theorem dX7_firstWaiting_85 : decode cX7_firstWaiting 85 = .ok (.istore 7, 2) := by decide +kernel
theorem dX7_firstWaiting_87 : decode cX7_firstWaiting 87 = .ok (.iload 7, 2) := by decide +kernel
theorem dX7_firstWaiting_89 : decode cX7_firstWaiting 89 = .ok (.ifCond .eq 30, 3) := by decide +kernel
theorem dX7_firstWaiting_92 : decode cX7_firstWaiting 92 = .ok (.iload 4, 2) := by decide +kernel
theorem dX7_firstWaiting_94 : decode cX7_firstWaiting 94 = .ok (.ifCond .lt 20, 3) := by decide +kernel
theorem dX7_firstWaiting_97 : decode cX7_firstWaiting 97 = .ok (.iload 6, 2) := by decide +kernel
theorem dX7_firstWaiting_99 : decode cX7_firstWaiting 99 = .ok (.aload_n 0, 1) := by decide +kernel
theorem dX7_firstWaiting_100 : decode cX7_firstWaiting 100 = .ok (.aload_n 0, 1) := by decide +kernel
theorem dX7_firstWaiting_101 : decode cX7_firstWaiting 101 = .ok (.iload 4, 2) := by decide +kernel
theorem dX7_firstWaiting_103 : decode cX7_firstWaiting 103 = .ok (.iconst 0, 1) := by decide +kernel
theorem dX7_firstWaiting_104 : decode cX7_firstWaiting 104 = .ok (.invokevirtual 66, 3) := by decide +kernel
theorem dX7_firstWaiting_107 : decode cX7_firstWaiting 107 = .ok (.iconst 0, 1) := by decide +kernel
theorem dX7_firstWaiting_108 : decode cX7_firstWaiting 108 = .ok (.invokevirtual 39, 3) := by decide +kernel
theorem dX7_firstWaiting_111 : decode cX7_firstWaiting 111 = .ok (.if_icmp .le 8, 3) := by decide +kernel
theorem dX7_firstWaiting_114 : decode cX7_firstWaiting 114 = .ok (.iload 5, 2) := by decide +kernel
theorem dX7_firstWaiting_116 : decode cX7_firstWaiting 116 = .ok (.goto 5, 3) := by decide +kernel
theorem dX7_firstWaiting_119 : decode cX7_firstWaiting 119 = .ok (.iload 4, 2) := by decide +kernel
theorem dX7_firstWaiting_121 : decode cX7_firstWaiting 121 = .ok (.istore 4, 2) := by decide +kernel
theorem dX7_firstWaiting_123 : decode cX7_firstWaiting 123 = .ok (.iinc 5 1, 3) := by decide +kernel
theorem dX7_firstWaiting_126 : decode cX7_firstWaiting 126 = .ok (.goto (-119), 3) := by decide +kernel
theorem dX7_firstWaiting_129 : decode cX7_firstWaiting 129 = .ok (.aload_n 0, 1) := by decide +kernel
theorem dX7_firstWaiting_130 : decode cX7_firstWaiting 130 = .ok (.iload_n 2, 1) := by decide +kernel
theorem dX7_firstWaiting_131 : decode cX7_firstWaiting 131 = .ok (.invokevirtual 84, 3) := by decide +kernel
theorem dX7_firstWaiting_134 : decode cX7_firstWaiting 134 = .ok (.ifCond .eq 8, 3) := by decide +kernel
theorem dX7_firstWaiting_137 : decode cX7_firstWaiting 137 = .ok (.bipush (-6), 2) := by decide +kernel
theorem dX7_firstWaiting_139 : decode cX7_firstWaiting 139 = .ok (.goto 5, 3) := by decide +kernel
theorem dX7_firstWaiting_142 : decode cX7_firstWaiting 142 = .ok (.iload 4, 2) := by decide +kernel
theorem dX7_firstWaiting_144 : decode cX7_firstWaiting 144 = .ok (.ireturn, 1) := by decide +kernel
set_option maxRecDepth 20000 in
theorem ggX7_goOn_X7_left : GoodIn wsX7_goOn wsX7_left := goodIn_r _ [6, 7, 8, 9, 5, 10, 1, 11, 12, 13, 14, 15, 16, 17, 18, 19, 20, 21, 22, 23, 24, 25, 26, 55, 56, 57, 58, 59, 60, 61, 62, 63, 64, 65, 66] rfl (by decide +kernel)
set_option maxRecDepth 20000 in
theorem gX7_goOn_X7_left : GoodIn wsX7_goOn (wsV RX7 109 RX7 yX7_left wsX7_left) := goodIn_app (goodIn_of _ (by decide +kernel)) ggX7_goOn_X7_left
set_option maxRecDepth 20000 in
theorem ggX7_goOn_X7_firstWaiting : GoodIn wsX7_goOn wsX7_firstWaiting := goodIn_r _ [30, 1, 19, 20, 21, 5, 22, 31, 32, 33, 34, 23, 24, 25, 26, 35, 36, 37, 38, 39, 40, 41, 42, 55, 56, 57, 58, 59, 60, 61, 62, 63, 64, 65, 66] rfl (by decide +kernel)
set_option maxRecDepth 20000 in
theorem gX7_goOn_X7_firstWaiting : GoodIn wsX7_goOn (wsV RX7 125 RX7 yX7_firstWaiting wsX7_firstWaiting) := goodIn_app (goodIn_of _ (by decide +kernel)) ggX7_goOn_X7_firstWaiting
set_option maxRecDepth 20000 in
theorem ggX7_goOn_X7_of : GoodIn wsX7_goOn wsX7_of := goodIn_r _ [22, 1, 55, 56, 57, 58, 59, 60, 61, 62, 63, 64, 65, 66] rfl (by decide +kernel)
set_option maxRecDepth 20000 in
theorem gX7_goOn_X7_of : GoodIn wsX7_goOn (wsV RX7 66 RX7 yX7_of wsX7_of) := goodIn_app (goodIn_of _ (by decide +kernel)) ggX7_goOn_X7_of
set_option maxRecDepth 20000 in
theorem ggX7_goOn_X7_permit : GoodIn wsX7_goOn wsX7_permit := goodIn_r _ [46, 47, 48, 49, 5, 50, 1, 19, 20, 21, 22, 51, 52, 53, 54, 55, 56, 57, 58, 59, 60, 61, 62, 63, 64, 65, 66] rfl (by decide +kernel)
set_option maxRecDepth 20000 in
theorem gX7_goOn_X7_permit : GoodIn wsX7_goOn (wsV RX7 112 RX7 yX7_permit wsX7_permit) := goodIn_app (goodIn_of _ (by decide +kernel)) ggX7_goOn_X7_permit
set_option maxRecDepth 20000 in
theorem ggX7_goOn_X7_ofClimber : GoodIn wsX7_goOn wsX7_ofClimber := goodIn_r _ [34, 1, 55, 56, 57, 58, 59, 60, 61, 62, 63, 64, 65, 66] rfl (by decide +kernel)
set_option maxRecDepth 20000 in
theorem gX7_goOn_X7_ofClimber : GoodIn wsX7_goOn (wsV RX7 39 RX7 yX7_ofClimber wsX7_ofClimber) := goodIn_app (goodIn_of _ (by decide +kernel)) ggX7_goOn_X7_ofClimber
theorem dX7_goOn_0 : decode cX7_goOn 0 = .ok (.aload_n 0, 1) := by decide +kernel
theorem dX7_goOn_1 : decode cX7_goOn 1 = .ok (.iload_n 1, 1) := by decide +kernel
theorem dX7_goOn_2 : decode cX7_goOn 2 = .ok (.iload_n 2, 1) := by decide +kernel
theorem dX7_goOn_3 : decode cX7_goOn 3 = .ok (.aload_n 0, 1) := by decide +kernel
theorem dX7_goOn_4 : decode cX7_goOn 4 = .ok (.iload_n 1, 1) := by decide +kernel
theorem dX7_goOn_5 : decode cX7_goOn 5 = .ok (.iload_n 2, 1) := by decide +kernel
theorem dX7_goOn_6 : decode cX7_goOn 6 = .ok (.invokevirtual 109, 3) := by decide +kernel
theorem dX7_goOn_9 : decode cX7_goOn 9 = .ok (.invokevirtual 125, 3) := by decide +kernel
theorem dX7_goOn_12 : decode cX7_goOn 12 = .ok (.istore_n 3, 1) := by decide +kernel
theorem dX7_goOn_13 : decode cX7_goOn 13 = .ok (.iload_n 3, 1) := by decide +kernel
theorem dX7_goOn_14 : decode cX7_goOn 14 = .ok (.ifCond .lt 63, 3) := by decide +kernel
theorem dX7_goOn_17 : decode cX7_goOn 17 = .ok (.aload_n 0, 1) := by decide +kernel
theorem dX7_goOn_18 : decode cX7_goOn 18 = .ok (.getfield 7, 3) := by decide +kernel
theorem dX7_goOn_21 : decode cX7_goOn 21 = .ok (.bipush 82, 2) := by decide +kernel
theorem dX7_goOn_23 : decode cX7_goOn 23 = .ok (.iconst 3, 1) := by decide +kernel
theorem dX7_goOn_24 : decode cX7_goOn 24 = .ok (.aload_n 0, 1) := by decide +kernel
theorem dX7_goOn_25 : decode cX7_goOn 25 = .ok (.iload_n 3, 1) := by decide +kernel
theorem dX7_goOn_26 : decode cX7_goOn 26 = .ok (.iconst 0, 1) := by decide +kernel
theorem dX7_goOn_27 : decode cX7_goOn 27 = .ok (.invokevirtual 66, 3) := by decide +kernel
theorem dX7_goOn_30 : decode cX7_goOn 30 = .ok (.imul, 1) := by decide +kernel
theorem dX7_goOn_31 : decode cX7_goOn 31 = .ok (.iadd, 1) := by decide +kernel
theorem dX7_goOn_32 : decode cX7_goOn 32 = .ok (.iconst 0, 1) := by decide +kernel
theorem dX7_goOn_33 : decode cX7_goOn 33 = .ok (.iadd, 1) := by decide +kernel
theorem dX7_goOn_34 : decode cX7_goOn 34 = .ok (.dup2, 1) := by decide +kernel
theorem dX7_goOn_35 : decode cX7_goOn 35 = .ok (.iaload, 1) := by decide +kernel
theorem dX7_goOn_36 : decode cX7_goOn 36 = .ok (.aload_n 0, 1) := by decide +kernel
theorem dX7_goOn_37 : decode cX7_goOn 37 = .ok (.iload_n 3, 1) := by decide +kernel
theorem dX7_goOn_38 : decode cX7_goOn 38 = .ok (.invokevirtual 112, 3) := by decide +kernel
theorem dX7_goOn_41 : decode cX7_goOn 41 = .ok (.ifCond .le 17, 3) := by decide +kernel
theorem dX7_goOn_44 : decode cX7_goOn 44 = .ok (.aload_n 0, 1) := by decide +kernel
theorem dX7_goOn_45 : decode cX7_goOn 45 = .ok (.aload_n 0, 1) := by decide +kernel
theorem dX7_goOn_46 : decode cX7_goOn 46 = .ok (.iload_n 3, 1) := by decide +kernel
theorem dX7_goOn_47 : decode cX7_goOn 47 = .ok (.iconst 0, 1) := by decide +kernel
theorem dX7_goOn_48 : decode cX7_goOn 48 = .ok (.invokevirtual 66, 3) := by decide +kernel
theorem dX7_goOn_51 : decode cX7_goOn 51 = .ok (.iconst 0, 1) := by decide +kernel
theorem dX7_goOn_52 : decode cX7_goOn 52 = .ok (.invokevirtual 39, 3) := by decide +kernel
theorem dX7_goOn_55 : decode cX7_goOn 55 = .ok (.goto 4, 3) := by decide +kernel
theorem dX7_goOn_58 : decode cX7_goOn 58 = .ok (.iconst 0, 1) := by decide +kernel
theorem dX7_goOn_59 : decode cX7_goOn 59 = .ok (.isub, 1) := by decide +kernel
theorem dX7_goOn_60 : decode cX7_goOn 60 = .ok (.iastore, 1) := by decide +kernel
theorem dX7_goOn_61 : decode cX7_goOn 61 = .ok (.aload_n 0, 1) := by decide +kernel
theorem dX7_goOn_62 : decode cX7_goOn 62 = .ok (.iload_n 1, 1) := by decide +kernel
theorem dX7_goOn_63 : decode cX7_goOn 63 = .ok (.iload_n 2, 1) := by decide +kernel
theorem dX7_goOn_64 : decode cX7_goOn 64 = .ok (.aload_n 0, 1) := by decide +kernel
theorem dX7_goOn_65 : decode cX7_goOn 65 = .ok (.iload_n 1, 1) := by decide +kernel
theorem dX7_goOn_66 : decode cX7_goOn 66 = .ok (.iload_n 2, 1) := by decide +kernel
theorem dX7_goOn_67 : decode cX7_goOn 67 = .ok (.invokevirtual 109, 3) := by decide +kernel
theorem dX7_goOn_70 : decode cX7_goOn 70 = .ok (.invokevirtual 125, 3) := by decide +kernel
theorem dX7_goOn_73 : decode cX7_goOn 73 = .ok (.istore_n 3, 1) := by decide +kernel
theorem dX7_goOn_74 : decode cX7_goOn 74 = .ok (.goto (-61), 3) := by decide +kernel
theorem dX7_goOn_77 : decode cX7_goOn 77 = .ok (.return_, 1) := by decide +kernel
set_option maxRecDepth 20000 in
theorem ggX7_cancel_X7_isApplication : GoodIn wsX7_cancel wsX7_isApplication := goodIn_r _ [6, 1, 7, 8, 5, 9, 66, 67, 68, 69, 70, 71, 72, 73, 74, 75, 76, 77] rfl (by decide +kernel)
set_option maxRecDepth 20000 in
theorem gX7_cancel_X7_isApplication : GoodIn wsX7_cancel (wsV RX7 128 RX7 yX7_isApplication wsX7_isApplication) := goodIn_app (goodIn_of _ (by decide +kernel)) ggX7_cancel_X7_isApplication
set_option maxRecDepth 20000 in
theorem ggX7_cancel_X7_of : GoodIn wsX7_cancel wsX7_of := goodIn_r _ [13, 1, 66, 67, 68, 69, 70, 71, 72, 73, 74, 75, 76, 77] rfl (by decide +kernel)
set_option maxRecDepth 20000 in
theorem gX7_cancel_X7_of : GoodIn wsX7_cancel (wsV RX7 66 RX7 yX7_of wsX7_of) := goodIn_app (goodIn_of _ (by decide +kernel)) ggX7_cancel_X7_of
set_option maxRecDepth 20000 in
theorem ggX7_cancel_X7_in : GoodIn wsX7_cancel wsX7_in := goodIn_r _ [9] rfl (by decide +kernel)
set_option maxRecDepth 20000 in
theorem gX7_cancel_X7_in : GoodIn wsX7_cancel (va_wsS RX7 35 yX7_in wsX7_in) := goodIn_app (goodIn_of _ (by decide +kernel)) ggX7_cancel_X7_in
set_option maxRecDepth 20000 in
theorem ggX7_cancel_X7_lay : GoodIn wsX7_cancel wsX7_lay := goodIn_r _ [17, 1, 66, 67, 68, 69, 70, 71, 72, 73, 74, 75, 76, 77] rfl (by decide +kernel)
set_option maxRecDepth 20000 in
theorem gX7_cancel_X7_lay : GoodIn wsX7_cancel (wsV RX7 75 RX7 yX7_lay wsX7_lay) := goodIn_app (goodIn_of _ (by decide +kernel)) ggX7_cancel_X7_lay
set_option maxRecDepth 20000 in
theorem ggX7_cancel_X7_goOn : GoodIn wsX7_cancel wsX7_goOn := goodIn_r _ [21, 1, 22, 23, 24, 5, 25, 26, 27, 28, 29, 30, 31, 32, 33, 34, 35, 36, 37, 10, 11, 12, 13, 38, 39, 40, 41, 42, 43, 44, 45, 46, 47, 48, 49, 50, 51, 52, 53, 54, 55, 56, 57, 58, 59, 60, 61, 62, 63, 64, 65, 14, 15, 16, 17, 66, 67, 68, 69, 70, 71, 72, 73, 74, 75, 76, 77] rfl (by decide +kernel)
set_option maxRecDepth 20000 in
theorem gX7_cancel_X7_goOn : GoodIn wsX7_cancel (wsV RX7 131 RX7 yX7_goOn wsX7_goOn) := goodIn_app (goodIn_of _ (by decide +kernel)) ggX7_cancel_X7_goOn
theorem dX7_cancel_0 : decode cX7_cancel 0 = .ok (.aload_n 0, 1) := by decide +kernel
theorem dX7_cancel_1 : decode cX7_cancel 1 = .ok (.iload_n 1, 1) := by decide +kernel
theorem dX7_cancel_2 : decode cX7_cancel 2 = .ok (.invokevirtual 128, 3) := by decide +kernel
theorem dX7_cancel_5 : decode cX7_cancel 5 = .ok (.ifCond .ne 5, 3) := by decide +kernel
theorem dX7_cancel_8 : decode cX7_cancel 8 = .ok (.iconst (-1), 1) := by decide +kernel
theorem dX7_cancel_9 : decode cX7_cancel 9 = .ok (.ireturn, 1) := by decide +kernel
theorem dX7_cancel_10 : decode cX7_cancel 10 = .ok (.aload_n 0, 1) := by decide +kernel
theorem dX7_cancel_11 : decode cX7_cancel 11 = .ok (.iload_n 1, 1) := by decide +kernel
theorem dX7_cancel_12 : decode cX7_cancel 12 = .ok (.iconst 4, 1) := by decide +kernel
theorem dX7_cancel_13 : decode cX7_cancel 13 = .ok (.invokevirtual 66, 3) := by decide +kernel
theorem dX7_cancel_16 : decode cX7_cancel 16 = .ok (.istore_n 2, 1) := by decide +kernel
theorem dX7_cancel_17 : decode cX7_cancel 17 = .ok (.iload_n 2, 1) := by decide +kernel
theorem dX7_cancel_18 : decode cX7_cancel 18 = .ok (.iconst 0, 1) := by decide +kernel
theorem dX7_cancel_19 : decode cX7_cancel 19 = .ok (.iconst 2, 1) := by decide +kernel
theorem dX7_cancel_20 : decode cX7_cancel 20 = .ok (.invokestatic 35, 3) := by decide +kernel
theorem dX7_cancel_23 : decode cX7_cancel 23 = .ok (.ifCond .ne 6, 3) := by decide +kernel
theorem dX7_cancel_26 : decode cX7_cancel 26 = .ok (.bipush (-5), 2) := by decide +kernel
theorem dX7_cancel_28 : decode cX7_cancel 28 = .ok (.ireturn, 1) := by decide +kernel
theorem dX7_cancel_29 : decode cX7_cancel 29 = .ok (.aload_n 0, 1) := by decide +kernel
theorem dX7_cancel_30 : decode cX7_cancel 30 = .ok (.iload_n 1, 1) := by decide +kernel
theorem dX7_cancel_31 : decode cX7_cancel 31 = .ok (.iconst 4, 1) := by decide +kernel
theorem dX7_cancel_32 : decode cX7_cancel 32 = .ok (.iconst 3, 1) := by decide +kernel
theorem dX7_cancel_33 : decode cX7_cancel 33 = .ok (.invokevirtual 75, 3) := by decide +kernel
theorem dX7_cancel_36 : decode cX7_cancel 36 = .ok (.iload_n 2, 1) := by decide +kernel
theorem dX7_cancel_37 : decode cX7_cancel 37 = .ok (.iconst 1, 1) := by decide +kernel
theorem dX7_cancel_38 : decode cX7_cancel 38 = .ok (.if_icmp .eq 5, 3) := by decide +kernel
theorem dX7_cancel_41 : decode cX7_cancel 41 = .ok (.iconst 0, 1) := by decide +kernel
theorem dX7_cancel_42 : decode cX7_cancel 42 = .ok (.ireturn, 1) := by decide +kernel
theorem dX7_cancel_43 : decode cX7_cancel 43 = .ok (.aload_n 0, 1) := by decide +kernel
theorem dX7_cancel_44 : decode cX7_cancel 44 = .ok (.iload_n 1, 1) := by decide +kernel
theorem dX7_cancel_45 : decode cX7_cancel 45 = .ok (.iconst 2, 1) := by decide +kernel
theorem dX7_cancel_46 : decode cX7_cancel 46 = .ok (.invokevirtual 66, 3) := by decide +kernel
theorem dX7_cancel_49 : decode cX7_cancel 49 = .ok (.aload_n 0, 1) := by decide +kernel
theorem dX7_cancel_50 : decode cX7_cancel 50 = .ok (.getfield 7, 3) := by decide +kernel
theorem dX7_cancel_53 : decode cX7_cancel 53 = .ok (.iconst 0, 1) := by decide +kernel
theorem dX7_cancel_54 : decode cX7_cancel 54 = .ok (.iaload, 1) := by decide +kernel
theorem dX7_cancel_55 : decode cX7_cancel 55 = .ok (.isub, 1) := by decide +kernel
theorem dX7_cancel_56 : decode cX7_cancel 56 = .ok (.istore_n 3, 1) := by decide +kernel
theorem dX7_cancel_57 : decode cX7_cancel 57 = .ok (.iload_n 3, 1) := by decide +kernel
theorem dX7_cancel_58 : decode cX7_cancel 58 = .ok (.bipush 7, 2) := by decide +kernel
theorem dX7_cancel_60 : decode cX7_cancel 60 = .ok (.if_icmp .lt 12, 3) := by decide +kernel
theorem dX7_cancel_63 : decode cX7_cancel 63 = .ok (.aload_n 0, 1) := by decide +kernel
theorem dX7_cancel_64 : decode cX7_cancel 64 = .ok (.iload_n 1, 1) := by decide +kernel
theorem dX7_cancel_65 : decode cX7_cancel 65 = .ok (.iconst 5, 1) := by decide +kernel
theorem dX7_cancel_66 : decode cX7_cancel 66 = .ok (.invokevirtual 66, 3) := by decide +kernel
theorem dX7_cancel_69 : decode cX7_cancel 69 = .ok (.goto 20, 3) := by decide +kernel
theorem dX7_cancel_72 : decode cX7_cancel 72 = .ok (.iload_n 3, 1) := by decide +kernel
theorem dX7_cancel_73 : decode cX7_cancel 73 = .ok (.iconst 3, 1) := by decide +kernel
theorem dX7_cancel_74 : decode cX7_cancel 74 = .ok (.if_icmp .lt 14, 3) := by decide +kernel
theorem dX7_cancel_77 : decode cX7_cancel 77 = .ok (.aload_n 0, 1) := by decide +kernel
theorem dX7_cancel_78 : decode cX7_cancel 78 = .ok (.iload_n 1, 1) := by decide +kernel
theorem dX7_cancel_79 : decode cX7_cancel 79 = .ok (.iconst 5, 1) := by decide +kernel
theorem dX7_cancel_80 : decode cX7_cancel 80 = .ok (.invokevirtual 66, 3) := by decide +kernel
theorem dX7_cancel_83 : decode cX7_cancel 83 = .ok (.iconst 2, 1) := by decide +kernel
theorem dX7_cancel_84 : decode cX7_cancel 84 = .ok (.idiv, 1) := by decide +kernel
theorem dX7_cancel_85 : decode cX7_cancel 85 = .ok (.goto 4, 3) := by decide +kernel
theorem dX7_cancel_88 : decode cX7_cancel 88 = .ok (.iconst 0, 1) := by decide +kernel
theorem dX7_cancel_89 : decode cX7_cancel 89 = .ok (.istore 4, 2) := by decide +kernel
theorem dX7_cancel_91 : decode cX7_cancel 91 = .ok (.aload_n 0, 1) := by decide +kernel
theorem dX7_cancel_92 : decode cX7_cancel 92 = .ok (.iload_n 1, 1) := by decide +kernel
theorem dX7_cancel_93 : decode cX7_cancel 93 = .ok (.bipush 6, 2) := by decide +kernel
theorem dX7_cancel_95 : decode cX7_cancel 95 = .ok (.aload_n 0, 1) := by decide +kernel
theorem dX7_cancel_96 : decode cX7_cancel 96 = .ok (.iload_n 1, 1) := by decide +kernel
theorem dX7_cancel_97 : decode cX7_cancel 97 = .ok (.bipush 6, 2) := by decide +kernel
theorem dX7_cancel_99 : decode cX7_cancel 99 = .ok (.invokevirtual 66, 3) := by decide +kernel
theorem dX7_cancel_102 : decode cX7_cancel 102 = .ok (.iload 4, 2) := by decide +kernel
theorem dX7_cancel_104 : decode cX7_cancel 104 = .ok (.iadd, 1) := by decide +kernel
theorem dX7_cancel_105 : decode cX7_cancel 105 = .ok (.invokevirtual 75, 3) := by decide +kernel
theorem dX7_cancel_108 : decode cX7_cancel 108 = .ok (.aload_n 0, 1) := by decide +kernel
theorem dX7_cancel_109 : decode cX7_cancel 109 = .ok (.aload_n 0, 1) := by decide +kernel
theorem dX7_cancel_110 : decode cX7_cancel 110 = .ok (.iload_n 1, 1) := by decide +kernel
theorem dX7_cancel_111 : decode cX7_cancel 111 = .ok (.iconst 1, 1) := by decide +kernel
theorem dX7_cancel_112 : decode cX7_cancel 112 = .ok (.invokevirtual 66, 3) := by decide +kernel
theorem dX7_cancel_115 : decode cX7_cancel 115 = .ok (.aload_n 0, 1) := by decide +kernel
theorem dX7_cancel_116 : decode cX7_cancel 116 = .ok (.iload_n 1, 1) := by decide +kernel
theorem dX7_cancel_117 : decode cX7_cancel 117 = .ok (.iconst 2, 1) := by decide +kernel
theorem dX7_cancel_118 : decode cX7_cancel 118 = .ok (.invokevirtual 66, 3) := by decide +kernel
theorem dX7_cancel_121 : decode cX7_cancel 121 = .ok (.invokevirtual 131, 3) := by decide +kernel
theorem dX7_cancel_124 : decode cX7_cancel 124 = .ok (.iload 4, 2) := by decide +kernel
theorem dX7_cancel_126 : decode cX7_cancel 126 = .ok (.ireturn, 1) := by decide +kernel
set_option maxRecDepth 20000 in
theorem ggX7_laterDay_X7_of : GoodIn wsX7_laterDay wsX7_of := goodIn_r _ [5, 6, 27, 28, 29, 30, 31, 32, 33, 34, 35, 36, 37, 38] rfl (by decide +kernel)
set_option maxRecDepth 20000 in
theorem gX7_laterDay_X7_of : GoodIn wsX7_laterDay (wsV RX7 66 RX7 yX7_of wsX7_of) := goodIn_app (goodIn_of _ (by decide +kernel)) ggX7_laterDay_X7_of
set_option maxRecDepth 20000 in
theorem ggX7_laterDay_X7_setting : GoodIn wsX7_laterDay wsX7_setting := goodIn_r _ [10, 6, 27, 28, 29, 30, 31, 32, 33, 34, 35, 36, 37, 38] rfl (by decide +kernel)
set_option maxRecDepth 20000 in
theorem gX7_laterDay_X7_setting : GoodIn wsX7_laterDay (wsV RX7 63 RX7 yX7_setting wsX7_setting) := goodIn_app (goodIn_of _ (by decide +kernel)) ggX7_laterDay_X7_setting
set_option maxRecDepth 20000 in
theorem ggX7_laterDay_X7_isClosed : GoodIn wsX7_laterDay wsX7_isClosed := goodIn_r _ [14, 6, 27, 28, 29, 30, 31, 32, 33, 34, 35, 36, 37, 38] rfl (by decide +kernel)
set_option maxRecDepth 20000 in
theorem gX7_laterDay_X7_isClosed : GoodIn wsX7_laterDay (wsV RX7 84 RX7 yX7_isClosed wsX7_isClosed) := goodIn_app (goodIn_of _ (by decide +kernel)) ggX7_laterDay_X7_isClosed
set_option maxRecDepth 20000 in
theorem ggX7_laterDay_X7_limitOf : GoodIn wsX7_laterDay wsX7_limitOf := goodIn_r _ [18, 6, 27, 28, 29, 30, 31, 32, 33, 34, 35, 36, 37, 38] rfl (by decide +kernel)
set_option maxRecDepth 20000 in
theorem gX7_laterDay_X7_limitOf : GoodIn wsX7_laterDay (wsV RX7 47 RX7 yX7_limitOf wsX7_limitOf) := goodIn_app (goodIn_of _ (by decide +kernel)) ggX7_laterDay_X7_limitOf
set_option maxRecDepth 20000 in
theorem ggX7_laterDay_X7_taken : GoodIn wsX7_laterDay wsX7_taken := goodIn_r _ [22, 6, 1, 2, 3, 4, 5, 23, 24, 25, 26, 27, 28, 29, 30, 31, 32, 33, 34, 35, 36, 37, 38] rfl (by decide +kernel)
set_option maxRecDepth 20000 in
theorem gX7_laterDay_X7_taken : GoodIn wsX7_laterDay (wsV RX7 72 RX7 yX7_taken wsX7_taken) := goodIn_app (goodIn_of _ (by decide +kernel)) ggX7_laterDay_X7_taken
theorem dX7_laterDay_0 : decode cX7_laterDay 0 = .ok (.aload_n 0, 1) := by decide +kernel
theorem dX7_laterDay_1 : decode cX7_laterDay 1 = .ok (.iload_n 1, 1) := by decide +kernel
theorem dX7_laterDay_2 : decode cX7_laterDay 2 = .ok (.iconst 1, 1) := by decide +kernel
theorem dX7_laterDay_3 : decode cX7_laterDay 3 = .ok (.invokevirtual 66, 3) := by decide +kernel
theorem dX7_laterDay_6 : decode cX7_laterDay 6 = .ok (.istore_n 2, 1) := by decide +kernel
theorem dX7_laterDay_7 : decode cX7_laterDay 7 = .ok (.aload_n 0, 1) := by decide +kernel
theorem dX7_laterDay_8 : decode cX7_laterDay 8 = .ok (.iload_n 1, 1) := by decide +kernel
theorem dX7_laterDay_9 : decode cX7_laterDay 9 = .ok (.iconst 2, 1) := by decide +kernel
theorem dX7_laterDay_10 : decode cX7_laterDay 10 = .ok (.invokevirtual 66, 3) := by decide +kernel
theorem dX7_laterDay_13 : decode cX7_laterDay 13 = .ok (.istore_n 3, 1) := by decide +kernel
theorem dX7_laterDay_14 : decode cX7_laterDay 14 = .ok (.iload_n 3, 1) := by decide +kernel
theorem dX7_laterDay_15 : decode cX7_laterDay 15 = .ok (.aload_n 0, 1) := by decide +kernel
theorem dX7_laterDay_16 : decode cX7_laterDay 16 = .ok (.iconst 4, 1) := by decide +kernel
theorem dX7_laterDay_17 : decode cX7_laterDay 17 = .ok (.invokevirtual 63, 3) := by decide +kernel
theorem dX7_laterDay_20 : decode cX7_laterDay 20 = .ok (.iadd, 1) := by decide +kernel
theorem dX7_laterDay_21 : decode cX7_laterDay 21 = .ok (.bipush 60, 2) := by decide +kernel
theorem dX7_laterDay_23 : decode cX7_laterDay 23 = .ok (.if_icmp .ge 13, 3) := by decide +kernel
theorem dX7_laterDay_26 : decode cX7_laterDay 26 = .ok (.iload_n 3, 1) := by decide +kernel
theorem dX7_laterDay_27 : decode cX7_laterDay 27 = .ok (.aload_n 0, 1) := by decide +kernel
theorem dX7_laterDay_28 : decode cX7_laterDay 28 = .ok (.iconst 4, 1) := by decide +kernel
theorem dX7_laterDay_29 : decode cX7_laterDay 29 = .ok (.invokevirtual 63, 3) := by decide +kernel
theorem dX7_laterDay_32 : decode cX7_laterDay 32 = .ok (.iadd, 1) := by decide +kernel
theorem dX7_laterDay_33 : decode cX7_laterDay 33 = .ok (.goto 5, 3) := by decide +kernel
theorem dX7_laterDay_36 : decode cX7_laterDay 36 = .ok (.bipush 59, 2) := by decide +kernel
theorem dX7_laterDay_38 : decode cX7_laterDay 38 = .ok (.istore 4, 2) := by decide +kernel
theorem dX7_laterDay_40 : decode cX7_laterDay 40 = .ok (.iload_n 3, 1) := by decide +kernel
theorem dX7_laterDay_41 : decode cX7_laterDay 41 = .ok (.iconst 1, 1) := by decide +kernel
theorem dX7_laterDay_42 : decode cX7_laterDay 42 = .ok (.iadd, 1) := by decide +kernel
theorem dX7_laterDay_43 : decode cX7_laterDay 43 = .ok (.istore 5, 2) := by decide +kernel
theorem dX7_laterDay_45 : decode cX7_laterDay 45 = .ok (.iload 5, 2) := by decide +kernel
theorem dX7_laterDay_47 : decode cX7_laterDay 47 = .ok (.iload 4, 2) := by decide +kernel
theorem dX7_laterDay_49 : decode cX7_laterDay 49 = .ok (.if_icmp .gt 43, 3) := by decide +kernel
theorem dX7_laterDay_52 : decode cX7_laterDay 52 = .ok (.aload_n 0, 1) := by decide +kernel
theorem dX7_laterDay_53 : decode cX7_laterDay 53 = .ok (.iload 5, 2) := by decide +kernel
theorem dX7_laterDay_55 : decode cX7_laterDay 55 = .ok (.invokevirtual 84, 3) := by decide +kernel
theorem dX7_laterDay_58 : decode cX7_laterDay 58 = .ok (.ifCond .ne 28, 3) := by decide +kernel
theorem dX7_laterDay_61 : decode cX7_laterDay 61 = .ok (.aload_n 0, 1) := by decide +kernel
theorem dX7_laterDay_62 : decode cX7_laterDay 62 = .ok (.iload_n 1, 1) := by decide +kernel
theorem dX7_laterDay_63 : decode cX7_laterDay 63 = .ok (.iconst 3, 1) := by decide +kernel
theorem dX7_laterDay_64 : decode cX7_laterDay 64 = .ok (.invokevirtual 66, 3) := by decide +kernel
theorem dX7_laterDay_67 : decode cX7_laterDay 67 = .ok (.aload_n 0, 1) := by decide +kernel
theorem dX7_laterDay_68 : decode cX7_laterDay 68 = .ok (.iload_n 2, 1) := by decide +kernel
theorem dX7_laterDay_69 : decode cX7_laterDay 69 = .ok (.invokevirtual 47, 3) := by decide +kernel
theorem dX7_laterDay_72 : decode cX7_laterDay 72 = .ok (.aload_n 0, 1) := by decide +kernel
theorem dX7_laterDay_73 : decode cX7_laterDay 73 = .ok (.iload_n 2, 1) := by decide +kernel
theorem dX7_laterDay_74 : decode cX7_laterDay 74 = .ok (.iload 5, 2) := by decide +kernel
theorem dX7_laterDay_76 : decode cX7_laterDay 76 = .ok (.invokevirtual 72, 3) := by decide +kernel
theorem dX7_laterDay_79 : decode cX7_laterDay 79 = .ok (.isub, 1) := by decide +kernel
theorem dX7_laterDay_80 : decode cX7_laterDay 80 = .ok (.if_icmp .gt 6, 3) := by decide +kernel
theorem dX7_laterDay_83 : decode cX7_laterDay 83 = .ok (.iload 5, 2) := by decide +kernel
theorem dX7_laterDay_85 : decode cX7_laterDay 85 = .ok (.ireturn, 1) := by decide +kernel
theorem dX7_laterDay_86 : decode cX7_laterDay 86 = .ok (.iinc 5 1, 3) := by decide +kernel
theorem dX7_laterDay_89 : decode cX7_laterDay 89 = .ok (.goto (-44), 3) := by decide +kernel
theorem dX7_laterDay_92 : decode cX7_laterDay 92 = .ok (.bipush (-6), 2) := by decide +kernel
theorem dX7_laterDay_94 : decode cX7_laterDay 94 = .ok (.ireturn, 1) := by decide +kernel
set_option maxRecDepth 20000 in
theorem ggX7_refund_X7_of : GoodIn wsX7_refund wsX7_of := goodIn_r _ [5, 6, 19, 20, 21, 22, 23, 24, 25, 26, 27, 28, 29, 30] rfl (by decide +kernel)
set_option maxRecDepth 20000 in
theorem gX7_refund_X7_of : GoodIn wsX7_refund (wsV RX7 66 RX7 yX7_of wsX7_of) := goodIn_app (goodIn_of _ (by decide +kernel)) ggX7_refund_X7_of
set_option maxRecDepth 20000 in
theorem ggX7_refund_X7_lay : GoodIn wsX7_refund wsX7_lay := goodIn_r _ [10, 6, 19, 20, 21, 22, 23, 24, 25, 26, 27, 28, 29, 30] rfl (by decide +kernel)
set_option maxRecDepth 20000 in
theorem gX7_refund_X7_lay : GoodIn wsX7_refund (wsV RX7 75 RX7 yX7_lay wsX7_lay) := goodIn_app (goodIn_of _ (by decide +kernel)) ggX7_refund_X7_lay
set_option maxRecDepth 20000 in
theorem ggX7_refund_X7_ofClimber : GoodIn wsX7_refund wsX7_ofClimber := goodIn_r _ [14, 6, 19, 20, 21, 22, 23, 24, 25, 26, 27, 28, 29, 30] rfl (by decide +kernel)
set_option maxRecDepth 20000 in
theorem gX7_refund_X7_ofClimber : GoodIn wsX7_refund (wsV RX7 39 RX7 yX7_ofClimber wsX7_ofClimber) := goodIn_app (goodIn_of _ (by decide +kernel)) ggX7_refund_X7_ofClimber
set_option maxRecDepth 20000 in
theorem ggX7_refund_X7_layClimber : GoodIn wsX7_refund wsX7_layClimber := goodIn_r _ [18, 6, 19, 20, 21, 22, 23, 24, 25, 26, 27, 28, 29, 30] rfl (by decide +kernel)
set_option maxRecDepth 20000 in
theorem gX7_refund_X7_layClimber : GoodIn wsX7_refund (wsV RX7 54 RX7 yX7_layClimber wsX7_layClimber) := goodIn_app (goodIn_of _ (by decide +kernel)) ggX7_refund_X7_layClimber
theorem dX7_refund_0 : decode cX7_refund 0 = .ok (.aload_n 0, 1) := by decide +kernel
theorem dX7_refund_1 : decode cX7_refund 1 = .ok (.iload_n 1, 1) := by decide +kernel
theorem dX7_refund_2 : decode cX7_refund 2 = .ok (.iconst 0, 1) := by decide +kernel
theorem dX7_refund_3 : decode cX7_refund 3 = .ok (.invokevirtual 66, 3) := by decide +kernel
theorem dX7_refund_6 : decode cX7_refund 6 = .ok (.istore_n 2, 1) := by decide +kernel
theorem dX7_refund_7 : decode cX7_refund 7 = .ok (.aload_n 0, 1) := by decide +kernel
theorem dX7_refund_8 : decode cX7_refund 8 = .ok (.iload_n 1, 1) := by decide +kernel
theorem dX7_refund_9 : decode cX7_refund 9 = .ok (.iconst 4, 1) := by decide +kernel
theorem dX7_refund_10 : decode cX7_refund 10 = .ok (.iconst 4, 1) := by decide +kernel
theorem dX7_refund_11 : decode cX7_refund 11 = .ok (.invokevirtual 75, 3) := by decide +kernel
theorem dX7_refund_14 : decode cX7_refund 14 = .ok (.aload_n 0, 1) := by decide +kernel
theorem dX7_refund_15 : decode cX7_refund 15 = .ok (.iload_n 1, 1) := by decide +kernel
theorem dX7_refund_16 : decode cX7_refund 16 = .ok (.bipush 6, 2) := by decide +kernel
theorem dX7_refund_18 : decode cX7_refund 18 = .ok (.aload_n 0, 1) := by decide +kernel
theorem dX7_refund_19 : decode cX7_refund 19 = .ok (.iload_n 1, 1) := by decide +kernel
theorem dX7_refund_20 : decode cX7_refund 20 = .ok (.iconst 5, 1) := by decide +kernel
theorem dX7_refund_21 : decode cX7_refund 21 = .ok (.invokevirtual 66, 3) := by decide +kernel
theorem dX7_refund_24 : decode cX7_refund 24 = .ok (.invokevirtual 75, 3) := by decide +kernel
theorem dX7_refund_27 : decode cX7_refund 27 = .ok (.aload_n 0, 1) := by decide +kernel
theorem dX7_refund_28 : decode cX7_refund 28 = .ok (.iload_n 2, 1) := by decide +kernel
theorem dX7_refund_29 : decode cX7_refund 29 = .ok (.iconst 0, 1) := by decide +kernel
theorem dX7_refund_30 : decode cX7_refund 30 = .ok (.aload_n 0, 1) := by decide +kernel
theorem dX7_refund_31 : decode cX7_refund 31 = .ok (.iload_n 2, 1) := by decide +kernel
theorem dX7_refund_32 : decode cX7_refund 32 = .ok (.iconst 0, 1) := by decide +kernel
theorem dX7_refund_33 : decode cX7_refund 33 = .ok (.invokevirtual 39, 3) := by decide +kernel
theorem dX7_refund_36 : decode cX7_refund 36 = .ok (.iconst 2, 1) := by decide +kernel
theorem dX7_refund_37 : decode cX7_refund 37 = .ok (.iadd, 1) := by decide +kernel
theorem dX7_refund_38 : decode cX7_refund 38 = .ok (.invokevirtual 54, 3) := by decide +kernel
theorem dX7_refund_41 : decode cX7_refund 41 = .ok (.return_, 1) := by decide +kernel
set_option maxRecDepth 20000 in
theorem ggX7_lose_X7_of : GoodIn wsX7_lose wsX7_of := goodIn_r _ [6, 1, 11, 12, 13, 14, 15, 16, 17, 18, 19, 20, 21, 22] rfl (by decide +kernel)
set_option maxRecDepth 20000 in
theorem gX7_lose_X7_of : GoodIn wsX7_lose (wsV RX7 66 RX7 yX7_of wsX7_of) := goodIn_app (goodIn_of _ (by decide +kernel)) ggX7_lose_X7_of
set_option maxRecDepth 20000 in
theorem ggX7_lose_X7_lay : GoodIn wsX7_lose wsX7_lay := goodIn_r _ [10, 1, 11, 12, 13, 14, 15, 16, 17, 18, 19, 20, 21, 22] rfl (by decide +kernel)
set_option maxRecDepth 20000 in
theorem gX7_lose_X7_lay : GoodIn wsX7_lose (wsV RX7 75 RX7 yX7_lay wsX7_lay) := goodIn_app (goodIn_of _ (by decide +kernel)) ggX7_lose_X7_lay
theorem dX7_lose_0 : decode cX7_lose 0 = .ok (.iconst 0, 1) := by decide +kernel
theorem dX7_lose_1 : decode cX7_lose 1 = .ok (.istore_n 2, 1) := by decide +kernel
theorem dX7_lose_2 : decode cX7_lose 2 = .ok (.iload_n 2, 1) := by decide +kernel
theorem dX7_lose_3 : decode cX7_lose 3 = .ok (.aload_n 0, 1) := by decide +kernel
theorem dX7_lose_4 : decode cX7_lose 4 = .ok (.getfield 7, 3) := by decide +kernel
theorem dX7_lose_7 : decode cX7_lose 7 = .ok (.iconst 3, 1) := by decide +kernel
theorem dX7_lose_8 : decode cX7_lose 8 = .ok (.iaload, 1) := by decide +kernel
theorem dX7_lose_9 : decode cX7_lose 9 = .ok (.if_icmp .ge 35, 3) := by decide +kernel
theorem dX7_lose_12 : decode cX7_lose 12 = .ok (.aload_n 0, 1) := by decide +kernel
theorem dX7_lose_13 : decode cX7_lose 13 = .ok (.iload_n 2, 1) := by decide +kernel
theorem dX7_lose_14 : decode cX7_lose 14 = .ok (.iconst 2, 1) := by decide +kernel
theorem dX7_lose_15 : decode cX7_lose 15 = .ok (.invokevirtual 66, 3) := by decide +kernel
theorem dX7_lose_18 : decode cX7_lose 18 = .ok (.iload_n 1, 1) := by decide +kernel
theorem dX7_lose_19 : decode cX7_lose 19 = .ok (.if_icmp .ne 19, 3) := by decide +kernel
theorem dX7_lose_22 : decode cX7_lose 22 = .ok (.aload_n 0, 1) := by decide +kernel
theorem dX7_lose_23 : decode cX7_lose 23 = .ok (.iload_n 2, 1) := by decide +kernel
theorem dX7_lose_24 : decode cX7_lose 24 = .ok (.iconst 4, 1) := by decide +kernel
theorem dX7_lose_25 : decode cX7_lose 25 = .ok (.invokevirtual 66, 3) := by decide +kernel
theorem dX7_lose_28 : decode cX7_lose 28 = .ok (.ifCond .ne 10, 3) := by decide +kernel
theorem dX7_lose_31 : decode cX7_lose 31 = .ok (.aload_n 0, 1) := by decide +kernel
theorem dX7_lose_32 : decode cX7_lose 32 = .ok (.iload_n 2, 1) := by decide +kernel
theorem dX7_lose_33 : decode cX7_lose 33 = .ok (.iconst 4, 1) := by decide +kernel
theorem dX7_lose_34 : decode cX7_lose 34 = .ok (.iconst 2, 1) := by decide +kernel
theorem dX7_lose_35 : decode cX7_lose 35 = .ok (.invokevirtual 75, 3) := by decide +kernel
theorem dX7_lose_38 : decode cX7_lose 38 = .ok (.iinc 2 1, 3) := by decide +kernel
theorem dX7_lose_41 : decode cX7_lose 41 = .ok (.goto (-39), 3) := by decide +kernel
theorem dX7_lose_44 : decode cX7_lose 44 = .ok (.return_, 1) := by decide +kernel
set_option maxRecDepth 20000 in
theorem ggX7_close_X7_isDay : GoodIn wsX7_close wsX7_isDay := goodIn_r _ [5, 6, 7, 4, 8] rfl (by decide +kernel)
set_option maxRecDepth 20000 in
theorem gX7_close_X7_isDay : GoodIn wsX7_close (va_wsS RX7 81 yX7_isDay wsX7_isDay) := goodIn_app (goodIn_of _ (by decide +kernel)) ggX7_close_X7_isDay
set_option maxRecDepth 20000 in
theorem ggX7_close_X7_isClosed : GoodIn wsX7_close wsX7_isClosed := goodIn_r _ [12, 1, 57, 58, 59, 60, 61, 62, 63, 64, 65, 66, 67, 68] rfl (by decide +kernel)
set_option maxRecDepth 20000 in
theorem gX7_close_X7_isClosed : GoodIn wsX7_close (wsV RX7 84 RX7 yX7_isClosed wsX7_isClosed) := goodIn_app (goodIn_of _ (by decide +kernel)) ggX7_close_X7_isClosed
set_option maxRecDepth 20000 in
theorem ggX7_close_X7_of : GoodIn wsX7_close wsX7_of := goodIn_r _ [16, 1, 57, 58, 59, 60, 61, 62, 63, 64, 65, 66, 67, 68] rfl (by decide +kernel)
set_option maxRecDepth 20000 in
theorem gX7_close_X7_of : GoodIn wsX7_close (wsV RX7 66 RX7 yX7_of wsX7_of) := goodIn_app (goodIn_of _ (by decide +kernel)) ggX7_close_X7_of
set_option maxRecDepth 20000 in
theorem ggX7_close_X7_laterDay : GoodIn wsX7_close wsX7_laterDay := goodIn_r _ [20, 13, 14, 15, 4, 16, 1, 21, 22, 23, 24, 9, 10, 11, 12, 25, 26, 27, 28, 29, 30, 31, 32, 33, 34, 35, 36, 57, 58, 59, 60, 61, 62, 63, 64, 65, 66, 67, 68] rfl (by decide +kernel)
set_option maxRecDepth 20000 in
theorem gX7_close_X7_laterDay : GoodIn wsX7_close (wsV RX7 134 RX7 yX7_laterDay wsX7_laterDay) := goodIn_app (goodIn_of _ (by decide +kernel)) ggX7_close_X7_laterDay
set_option maxRecDepth 20000 in
theorem ggX7_close_X7_lay : GoodIn wsX7_close wsX7_lay := goodIn_r _ [40, 1, 57, 58, 59, 60, 61, 62, 63, 64, 65, 66, 67, 68] rfl (by decide +kernel)
set_option maxRecDepth 20000 in
theorem gX7_close_X7_lay : GoodIn wsX7_close (wsV RX7 75 RX7 yX7_lay wsX7_lay) := goodIn_app (goodIn_of _ (by decide +kernel)) ggX7_close_X7_lay
set_option maxRecDepth 20000 in
theorem ggX7_close_X7_refund : GoodIn wsX7_close wsX7_refund := goodIn_r _ [44, 13, 14, 15, 4, 16, 1, 37, 38, 39, 40, 45, 46, 47, 48, 49, 50, 51, 52, 57, 58, 59, 60, 61, 62, 63, 64, 65, 66, 67, 68] rfl (by decide +kernel)
set_option maxRecDepth 20000 in
theorem gX7_close_X7_refund : GoodIn wsX7_close (wsV RX7 137 RX7 yX7_refund wsX7_refund) := goodIn_app (goodIn_of _ (by decide +kernel)) ggX7_close_X7_refund
set_option maxRecDepth 20000 in
theorem ggX7_close_X7_lose : GoodIn wsX7_close wsX7_lose := goodIn_r _ [56, 1, 13, 14, 15, 4, 16, 37, 38, 39, 40, 57, 58, 59, 60, 61, 62, 63, 64, 65, 66, 67, 68] rfl (by decide +kernel)
set_option maxRecDepth 20000 in
theorem gX7_close_X7_lose : GoodIn wsX7_close (wsV RX7 141 RX7 yX7_lose wsX7_lose) := goodIn_app (goodIn_of _ (by decide +kernel)) ggX7_close_X7_lose
theorem dX7_close_0 : decode cX7_close 0 = .ok (.iload_n 1, 1) := by decide +kernel
theorem dX7_close_1 : decode cX7_close 1 = .ok (.invokestatic 81, 3) := by decide +kernel
theorem dX7_close_4 : decode cX7_close 4 = .ok (.ifCond .ne 5, 3) := by decide +kernel
theorem dX7_close_7 : decode cX7_close 7 = .ok (.iconst (-1), 1) := by decide +kernel
theorem dX7_close_8 : decode cX7_close 8 = .ok (.ireturn, 1) := by decide +kernel
theorem dX7_close_9 : decode cX7_close 9 = .ok (.iload_n 1, 1) := by decide +kernel
theorem dX7_close_10 : decode cX7_close 10 = .ok (.aload_n 0, 1) := by decide +kernel
theorem dX7_close_11 : decode cX7_close 11 = .ok (.getfield 7, 3) := by decide +kernel
theorem dX7_close_14 : decode cX7_close 14 = .ok (.iconst 0, 1) := by decide +kernel
theorem dX7_close_15 : decode cX7_close 15 = .ok (.iaload, 1) := by decide +kernel
theorem dX7_close_16 : decode cX7_close 16 = .ok (.if_icmp .lt 11, 3) := by decide +kernel
theorem dX7_close_19 : decode cX7_close 19 = .ok (.aload_n 0, 1) := by decide +kernel
theorem dX7_close_20 : decode cX7_close 20 = .ok (.iload_n 1, 1) := by decide +kernel
theorem dX7_close_21 : decode cX7_close 21 = .ok (.invokevirtual 84, 3) := by decide +kernel
theorem dX7_close_24 : decode cX7_close 24 = .ok (.ifCond .eq 6, 3) := by decide +kernel
theorem dX7_close_27 : decode cX7_close 27 = .ok (.bipush (-5), 2) := by decide +kernel
theorem dX7_close_29 : decode cX7_close 29 = .ok (.ireturn, 1) := by decide +kernel
theorem dX7_close_30 : decode cX7_close 30 = .ok (.aload_n 0, 1) := by decide +kernel
theorem dX7_close_31 : decode cX7_close 31 = .ok (.getfield 7, 3) := by decide +kernel
theorem dX7_close_34 : decode cX7_close 34 = .ok (.bipush 22, 2) := by decide +kernel
theorem dX7_close_36 : decode cX7_close 36 = .ok (.iload_n 1, 1) := by decide +kernel
theorem dX7_close_37 : decode cX7_close 37 = .ok (.iadd, 1) := by decide +kernel
theorem dX7_close_38 : decode cX7_close 38 = .ok (.iconst 1, 1) := by decide +kernel
theorem dX7_close_39 : decode cX7_close 39 = .ok (.iastore, 1) := by decide +kernel
theorem dX7_close_40 : decode cX7_close 40 = .ok (.iconst 0, 1) := by decide +kernel
theorem dX7_close_41 : decode cX7_close 41 = .ok (.istore_n 2, 1) := by decide +kernel
theorem dX7_close_42 : decode cX7_close 42 = .ok (.iconst 0, 1) := by decide +kernel
theorem dX7_close_43 : decode cX7_close 43 = .ok (.istore_n 3, 1) := by decide +kernel
theorem dX7_close_44 : decode cX7_close 44 = .ok (.iload_n 3, 1) := by decide +kernel
theorem dX7_close_45 : decode cX7_close 45 = .ok (.aload_n 0, 1) := by decide +kernel
theorem dX7_close_46 : decode cX7_close 46 = .ok (.getfield 7, 3) := by decide +kernel
theorem dX7_close_49 : decode cX7_close 49 = .ok (.iconst 3, 1) := by decide +kernel
theorem dX7_close_50 : decode cX7_close 50 = .ok (.iaload, 1) := by decide +kernel
theorem dX7_close_51 : decode cX7_close 51 = .ok (.if_icmp .ge 68, 3) := by decide +kernel
theorem dX7_close_54 : decode cX7_close 54 = .ok (.aload_n 0, 1) := by decide +kernel
theorem dX7_close_55 : decode cX7_close 55 = .ok (.iload_n 3, 1) := by decide +kernel
theorem dX7_close_56 : decode cX7_close 56 = .ok (.iconst 2, 1) := by decide +kernel
theorem dX7_close_57 : decode cX7_close 57 = .ok (.invokevirtual 66, 3) := by decide +kernel
theorem dX7_close_60 : decode cX7_close 60 = .ok (.iload_n 1, 1) := by decide +kernel
theorem dX7_close_61 : decode cX7_close 61 = .ok (.if_icmp .ne 52, 3) := by decide +kernel
theorem dX7_close_64 : decode cX7_close 64 = .ok (.aload_n 0, 1) := by decide +kernel
theorem dX7_close_65 : decode cX7_close 65 = .ok (.iload_n 3, 1) := by decide +kernel
theorem dX7_close_66 : decode cX7_close 66 = .ok (.iconst 4, 1) := by decide +kernel
theorem dX7_close_67 : decode cX7_close 67 = .ok (.invokevirtual 66, 3) := by decide +kernel
theorem dX7_close_70 : decode cX7_close 70 = .ok (.iconst 1, 1) := by decide +kernel
theorem dX7_close_71 : decode cX7_close 71 = .ok (.if_icmp .ne 42, 3) := by decide +kernel
theorem dX7_close_74 : decode cX7_close 74 = .ok (.aload_n 0, 1) := by decide +kernel
theorem dX7_close_75 : decode cX7_close 75 = .ok (.iload_n 3, 1) := by decide +kernel
theorem dX7_close_76 : decode cX7_close 76 = .ok (.invokevirtual 134, 3) := by decide +kernel
theorem dX7_close_79 : decode cX7_close 79 = .ok (.istore 4, 2) := by decide +kernel
theorem dX7_close_81 : decode cX7_close 81 = .ok (.iload 4, 2) := by decide +kernel
theorem dX7_close_83 : decode cX7_close 83 = .ok (.ifCond .lt 25, 3) := by decide +kernel
theorem dX7_close_86 : decode cX7_close 86 = .ok (.aload_n 0, 1) := by decide +kernel
theorem dX7_close_87 : decode cX7_close 87 = .ok (.iload_n 3, 1) := by decide +kernel
theorem dX7_close_88 : decode cX7_close 88 = .ok (.iconst 2, 1) := by decide +kernel
theorem dX7_close_89 : decode cX7_close 89 = .ok (.iload 4, 2) := by decide +kernel
theorem dX7_close_91 : decode cX7_close 91 = .ok (.invokevirtual 75, 3) := by decide +kernel
theorem dX7_close_94 : decode cX7_close 94 = .ok (.aload_n 0, 1) := by decide +kernel
theorem dX7_close_95 : decode cX7_close 95 = .ok (.iload_n 3, 1) := by decide +kernel
theorem dX7_close_96 : decode cX7_close 96 = .ok (.bipush 7, 2) := by decide +kernel
theorem dX7_close_98 : decode cX7_close 98 = .ok (.iconst 0, 1) := by decide +kernel
theorem dX7_close_99 : decode cX7_close 99 = .ok (.invokevirtual 75, 3) := by decide +kernel
theorem dX7_close_102 : decode cX7_close 102 = .ok (.iinc 2 1, 3) := by decide +kernel
theorem dX7_close_105 : decode cX7_close 105 = .ok (.goto 8, 3) := by decide +kernel
theorem dX7_close_108 : decode cX7_close 108 = .ok (.aload_n 0, 1) := by decide +kernel
theorem dX7_close_109 : decode cX7_close 109 = .ok (.iload_n 3, 1) := by decide +kernel
theorem dX7_close_110 : decode cX7_close 110 = .ok (.invokevirtual 137, 3) := by decide +kernel
theorem dX7_close_113 : decode cX7_close 113 = .ok (.iinc 3 1, 3) := by decide +kernel
theorem dX7_close_116 : decode cX7_close 116 = .ok (.goto (-72), 3) := by decide +kernel
theorem dX7_close_119 : decode cX7_close 119 = .ok (.aload_n 0, 1) := by decide +kernel
theorem dX7_close_120 : decode cX7_close 120 = .ok (.iload_n 1, 1) := by decide +kernel
theorem dX7_close_121 : decode cX7_close 121 = .ok (.invokevirtual 141, 3) := by decide +kernel
theorem dX7_close_124 : decode cX7_close 124 = .ok (.iload_n 2, 1) := by decide +kernel
theorem dX7_close_125 : decode cX7_close 125 = .ok (.ireturn, 1) := by decide +kernel
set_option maxRecDepth 20000 in
theorem ggX7_isOfToday_X7_of : GoodIn wsX7_isOfToday wsX7_of := goodIn_r _ [6, 1, 7, 8, 9, 10, 11, 12, 13, 14, 15, 16, 17, 18] rfl (by decide +kernel)
set_option maxRecDepth 20000 in
theorem gX7_isOfToday_X7_of : GoodIn wsX7_isOfToday (wsV RX7 66 RX7 yX7_of wsX7_of) := goodIn_app (goodIn_of _ (by decide +kernel)) ggX7_isOfToday_X7_of
theorem dX7_isOfToday_0 : decode cX7_isOfToday 0 = .ok (.aload_n 0, 1) := by decide +kernel
theorem dX7_isOfToday_1 : decode cX7_isOfToday 1 = .ok (.iload_n 1, 1) := by decide +kernel
theorem dX7_isOfToday_2 : decode cX7_isOfToday 2 = .ok (.iconst 2, 1) := by decide +kernel
theorem dX7_isOfToday_3 : decode cX7_isOfToday 3 = .ok (.invokevirtual 66, 3) := by decide +kernel
theorem dX7_isOfToday_6 : decode cX7_isOfToday 6 = .ok (.aload_n 0, 1) := by decide +kernel
theorem dX7_isOfToday_7 : decode cX7_isOfToday 7 = .ok (.getfield 7, 3) := by decide +kernel
theorem dX7_isOfToday_10 : decode cX7_isOfToday 10 = .ok (.iconst 0, 1) := by decide +kernel
theorem dX7_isOfToday_11 : decode cX7_isOfToday 11 = .ok (.iaload, 1) := by decide +kernel
theorem dX7_isOfToday_12 : decode cX7_isOfToday 12 = .ok (.if_icmp .ne 7, 3) := by decide +kernel
theorem dX7_isOfToday_15 : decode cX7_isOfToday 15 = .ok (.iconst 1, 1) := by decide +kernel
theorem dX7_isOfToday_16 : decode cX7_isOfToday 16 = .ok (.goto 4, 3) := by decide +kernel
theorem dX7_isOfToday_19 : decode cX7_isOfToday 19 = .ok (.iconst 0, 1) := by decide +kernel
theorem dX7_isOfToday_20 : decode cX7_isOfToday 20 = .ok (.ireturn, 1) := by decide +kernel
set_option maxRecDepth 20000 in
theorem ggX7_standby_X7_isApplication : GoodIn wsX7_standby wsX7_isApplication := goodIn_r _ [6, 1, 7, 8, 5, 9, 54, 55, 56, 57, 58, 59, 60, 61, 62, 63, 64, 65] rfl (by decide +kernel)
set_option maxRecDepth 20000 in
theorem gX7_standby_X7_isApplication : GoodIn wsX7_standby (wsV RX7 128 RX7 yX7_isApplication wsX7_isApplication) := goodIn_app (goodIn_of _ (by decide +kernel)) ggX7_standby_X7_isApplication
set_option maxRecDepth 20000 in
theorem ggX7_standby_X7_of : GoodIn wsX7_standby wsX7_of := goodIn_r _ [13, 1, 54, 55, 56, 57, 58, 59, 60, 61, 62, 63, 64, 65] rfl (by decide +kernel)
set_option maxRecDepth 20000 in
theorem gX7_standby_X7_of : GoodIn wsX7_standby (wsV RX7 66 RX7 yX7_of wsX7_of) := goodIn_app (goodIn_of _ (by decide +kernel)) ggX7_standby_X7_of
set_option maxRecDepth 20000 in
theorem ggX7_standby_X7_isOfToday : GoodIn wsX7_standby wsX7_isOfToday := goodIn_r _ [17, 1, 10, 11, 12, 5, 13, 54, 55, 56, 57, 58, 59, 60, 61, 62, 63, 64, 65] rfl (by decide +kernel)
set_option maxRecDepth 20000 in
theorem gX7_standby_X7_isOfToday : GoodIn wsX7_standby (wsV RX7 144 RX7 yX7_isOfToday wsX7_isOfToday) := goodIn_app (goodIn_of _ (by decide +kernel)) ggX7_standby_X7_isOfToday
set_option maxRecDepth 20000 in
theorem ggX7_standby_X7_isClosed : GoodIn wsX7_standby wsX7_isClosed := goodIn_r _ [21, 1, 54, 55, 56, 57, 58, 59, 60, 61, 62, 63, 64, 65] rfl (by decide +kernel)
set_option maxRecDepth 20000 in
theorem gX7_standby_X7_isClosed : GoodIn wsX7_standby (wsV RX7 84 RX7 yX7_isClosed wsX7_isClosed) := goodIn_app (goodIn_of _ (by decide +kernel)) ggX7_standby_X7_isClosed
set_option maxRecDepth 20000 in
theorem ggX7_standby_X7_isBarred : GoodIn wsX7_standby wsX7_isBarred := goodIn_r _ [25, 26, 27, 28, 5, 29, 1, 54, 55, 56, 57, 58, 59, 60, 61, 62, 63, 64, 65] rfl (by decide +kernel)
set_option maxRecDepth 20000 in
theorem gX7_standby_X7_isBarred : GoodIn wsX7_standby (wsV RX7 90 RX7 yX7_isBarred wsX7_isBarred) := goodIn_app (goodIn_of _ (by decide +kernel)) ggX7_standby_X7_isBarred
set_option maxRecDepth 20000 in
theorem ggX7_standby_X7_limitOf : GoodIn wsX7_standby wsX7_limitOf := goodIn_r _ [33, 1, 54, 55, 56, 57, 58, 59, 60, 61, 62, 63, 64, 65] rfl (by decide +kernel)
set_option maxRecDepth 20000 in
theorem gX7_standby_X7_limitOf : GoodIn wsX7_standby (wsV RX7 47 RX7 yX7_limitOf wsX7_limitOf) := goodIn_app (goodIn_of _ (by decide +kernel)) ggX7_standby_X7_limitOf
set_option maxRecDepth 20000 in
theorem ggX7_standby_X7_taken : GoodIn wsX7_standby wsX7_taken := goodIn_r _ [37, 1, 10, 11, 12, 5, 13, 38, 39, 40, 41, 54, 55, 56, 57, 58, 59, 60, 61, 62, 63, 64, 65] rfl (by decide +kernel)
set_option maxRecDepth 20000 in
theorem gX7_standby_X7_taken : GoodIn wsX7_standby (wsV RX7 72 RX7 yX7_taken wsX7_taken) := goodIn_app (goodIn_of _ (by decide +kernel)) ggX7_standby_X7_taken
set_option maxRecDepth 20000 in
theorem ggX7_standby_X7_permit : GoodIn wsX7_standby wsX7_permit := goodIn_r _ [45, 46, 47, 48, 5, 49, 1, 10, 11, 12, 13, 50, 51, 52, 53, 54, 55, 56, 57, 58, 59, 60, 61, 62, 63, 64, 65] rfl (by decide +kernel)
set_option maxRecDepth 20000 in
theorem gX7_standby_X7_permit : GoodIn wsX7_standby (wsV RX7 112 RX7 yX7_permit wsX7_permit) := goodIn_app (goodIn_of _ (by decide +kernel)) ggX7_standby_X7_permit
theorem dX7_standby_0 : decode cX7_standby 0 = .ok (.aload_n 0, 1) := by decide +kernel
theorem dX7_standby_1 : decode cX7_standby 1 = .ok (.iload_n 1, 1) := by decide +kernel
theorem dX7_standby_2 : decode cX7_standby 2 = .ok (.invokevirtual 128, 3) := by decide +kernel
theorem dX7_standby_5 : decode cX7_standby 5 = .ok (.ifCond .ne 5, 3) := by decide +kernel
theorem dX7_standby_8 : decode cX7_standby 8 = .ok (.iconst (-1), 1) := by decide +kernel
theorem dX7_standby_9 : decode cX7_standby 9 = .ok (.ireturn, 1) := by decide +kernel
theorem dX7_standby_10 : decode cX7_standby 10 = .ok (.aload_n 0, 1) := by decide +kernel
theorem dX7_standby_11 : decode cX7_standby 11 = .ok (.iload_n 1, 1) := by decide +kernel
theorem dX7_standby_12 : decode cX7_standby 12 = .ok (.iconst 1, 1) := by decide +kernel
theorem dX7_standby_13 : decode cX7_standby 13 = .ok (.invokevirtual 66, 3) := by decide +kernel
theorem dX7_standby_16 : decode cX7_standby 16 = .ok (.istore_n 2, 1) := by decide +kernel
theorem dX7_standby_17 : decode cX7_standby 17 = .ok (.aload_n 0, 1) := by decide +kernel
theorem dX7_standby_18 : decode cX7_standby 18 = .ok (.getfield 7, 3) := by decide +kernel
theorem dX7_standby_21 : decode cX7_standby 21 = .ok (.iconst 0, 1) := by decide +kernel
theorem dX7_standby_22 : decode cX7_standby 22 = .ok (.iaload, 1) := by decide +kernel
theorem dX7_standby_23 : decode cX7_standby 23 = .ok (.istore_n 3, 1) := by decide +kernel
theorem dX7_standby_24 : decode cX7_standby 24 = .ok (.aload_n 0, 1) := by decide +kernel
theorem dX7_standby_25 : decode cX7_standby 25 = .ok (.iload_n 1, 1) := by decide +kernel
theorem dX7_standby_26 : decode cX7_standby 26 = .ok (.iconst 4, 1) := by decide +kernel
theorem dX7_standby_27 : decode cX7_standby 27 = .ok (.invokevirtual 66, 3) := by decide +kernel
theorem dX7_standby_30 : decode cX7_standby 30 = .ok (.iconst 2, 1) := by decide +kernel
theorem dX7_standby_31 : decode cX7_standby 31 = .ok (.if_icmp .ne 37, 3) := by decide +kernel
theorem dX7_standby_34 : decode cX7_standby 34 = .ok (.aload_n 0, 1) := by decide +kernel
theorem dX7_standby_35 : decode cX7_standby 35 = .ok (.iload_n 1, 1) := by decide +kernel
theorem dX7_standby_36 : decode cX7_standby 36 = .ok (.invokevirtual 144, 3) := by decide +kernel
theorem dX7_standby_39 : decode cX7_standby 39 = .ok (.ifCond .eq 29, 3) := by decide +kernel
theorem dX7_standby_42 : decode cX7_standby 42 = .ok (.aload_n 0, 1) := by decide +kernel
theorem dX7_standby_43 : decode cX7_standby 43 = .ok (.iload_n 3, 1) := by decide +kernel
theorem dX7_standby_44 : decode cX7_standby 44 = .ok (.invokevirtual 84, 3) := by decide +kernel
theorem dX7_standby_47 : decode cX7_standby 47 = .ok (.ifCond .ne 21, 3) := by decide +kernel
theorem dX7_standby_50 : decode cX7_standby 50 = .ok (.aload_n 0, 1) := by decide +kernel
theorem dX7_standby_51 : decode cX7_standby 51 = .ok (.aload_n 0, 1) := by decide +kernel
theorem dX7_standby_52 : decode cX7_standby 52 = .ok (.iload_n 1, 1) := by decide +kernel
theorem dX7_standby_53 : decode cX7_standby 53 = .ok (.iconst 0, 1) := by decide +kernel
theorem dX7_standby_54 : decode cX7_standby 54 = .ok (.invokevirtual 66, 3) := by decide +kernel
theorem dX7_standby_57 : decode cX7_standby 57 = .ok (.iload_n 3, 1) := by decide +kernel
theorem dX7_standby_58 : decode cX7_standby 58 = .ok (.invokevirtual 90, 3) := by decide +kernel
theorem dX7_standby_61 : decode cX7_standby 61 = .ok (.ifCond .ne 7, 3) := by decide +kernel
theorem dX7_standby_64 : decode cX7_standby 64 = .ok (.iconst 1, 1) := by decide +kernel
theorem dX7_standby_65 : decode cX7_standby 65 = .ok (.goto 4, 3) := by decide +kernel
theorem dX7_standby_68 : decode cX7_standby 68 = .ok (.iconst 0, 1) := by decide +kernel
theorem dX7_standby_69 : decode cX7_standby 69 = .ok (.istore 4, 2) := by decide +kernel
theorem dX7_standby_71 : decode cX7_standby 71 = .ok (.iload 4, 2) := by decide +kernel
theorem dX7_standby_73 : decode cX7_standby 73 = .ok (.ifCond .eq 32, 3) := by decide +kernel
theorem dX7_standby_76 : decode cX7_standby 76 = .ok (.aload_n 0, 1) := by decide +kernel
theorem dX7_standby_77 : decode cX7_standby 77 = .ok (.iload_n 1, 1) := by decide +kernel
theorem dX7_standby_78 : decode cX7_standby 78 = .ok (.iconst 3, 1) := by decide +kernel
theorem dX7_standby_79 : decode cX7_standby 79 = .ok (.invokevirtual 66, 3) := by decide +kernel
theorem dX7_standby_82 : decode cX7_standby 82 = .ok (.aload_n 0, 1) := by decide +kernel
theorem dX7_standby_83 : decode cX7_standby 83 = .ok (.iload_n 2, 1) := by decide +kernel
theorem dX7_standby_84 : decode cX7_standby 84 = .ok (.invokevirtual 47, 3) := by decide +kernel
theorem dX7_standby_87 : decode cX7_standby 87 = .ok (.aload_n 0, 1) := by decide +kernel
theorem dX7_standby_88 : decode cX7_standby 88 = .ok (.iload_n 2, 1) := by decide +kernel
theorem dX7_standby_89 : decode cX7_standby 89 = .ok (.iload_n 3, 1) := by decide +kernel
theorem dX7_standby_90 : decode cX7_standby 90 = .ok (.invokevirtual 72, 3) := by decide +kernel
theorem dX7_standby_93 : decode cX7_standby 93 = .ok (.isub, 1) := by decide +kernel
theorem dX7_standby_94 : decode cX7_standby 94 = .ok (.if_icmp .gt 11, 3) := by decide +kernel
theorem dX7_standby_97 : decode cX7_standby 97 = .ok (.aload_n 0, 1) := by decide +kernel
theorem dX7_standby_98 : decode cX7_standby 98 = .ok (.iload_n 1, 1) := by decide +kernel
theorem dX7_standby_99 : decode cX7_standby 99 = .ok (.invokevirtual 112, 3) := by decide +kernel
theorem dX7_standby_102 : decode cX7_standby 102 = .ok (.goto 5, 3) := by decide +kernel
theorem dX7_standby_105 : decode cX7_standby 105 = .ok (.bipush (-5), 2) := by decide +kernel
theorem dX7_standby_107 : decode cX7_standby 107 = .ok (.ireturn, 1) := by decide +kernel
set_option maxRecDepth 20000 in
theorem ggX7_show_X7_isApplication : GoodIn wsX7_show wsX7_isApplication := goodIn_r _ [5, 6, 7, 8, 4, 9, 22, 23, 24, 25, 26, 27, 28, 29, 30, 31, 32, 33] rfl (by decide +kernel)
set_option maxRecDepth 20000 in
theorem gX7_show_X7_isApplication : GoodIn wsX7_show (wsV RX7 128 RX7 yX7_isApplication wsX7_isApplication) := goodIn_app (goodIn_of _ (by decide +kernel)) ggX7_show_X7_isApplication
set_option maxRecDepth 20000 in
theorem ggX7_show_X7_of : GoodIn wsX7_show wsX7_of := goodIn_r _ [13, 6, 22, 23, 24, 25, 26, 27, 28, 29, 30, 31, 32, 33] rfl (by decide +kernel)
set_option maxRecDepth 20000 in
theorem gX7_show_X7_of : GoodIn wsX7_show (wsV RX7 66 RX7 yX7_of wsX7_of) := goodIn_app (goodIn_of _ (by decide +kernel)) ggX7_show_X7_of
set_option maxRecDepth 20000 in
theorem ggX7_show_X7_isOfToday : GoodIn wsX7_show wsX7_isOfToday := goodIn_r _ [17, 6, 10, 11, 12, 4, 13, 22, 23, 24, 25, 26, 27, 28, 29, 30, 31, 32, 33] rfl (by decide +kernel)
set_option maxRecDepth 20000 in
theorem gX7_show_X7_isOfToday : GoodIn wsX7_show (wsV RX7 144 RX7 yX7_isOfToday wsX7_isOfToday) := goodIn_app (goodIn_of _ (by decide +kernel)) ggX7_show_X7_isOfToday
set_option maxRecDepth 20000 in
theorem ggX7_show_X7_lay : GoodIn wsX7_show wsX7_lay := goodIn_r _ [21, 6, 22, 23, 24, 25, 26, 27, 28, 29, 30, 31, 32, 33] rfl (by decide +kernel)
set_option maxRecDepth 20000 in
theorem gX7_show_X7_lay : GoodIn wsX7_show (wsV RX7 75 RX7 yX7_lay wsX7_lay) := goodIn_app (goodIn_of _ (by decide +kernel)) ggX7_show_X7_lay
theorem dX7_show_0 : decode cX7_show 0 = .ok (.aload_n 0, 1) := by decide +kernel
theorem dX7_show_1 : decode cX7_show 1 = .ok (.iload_n 1, 1) := by decide +kernel
theorem dX7_show_2 : decode cX7_show 2 = .ok (.invokevirtual 128, 3) := by decide +kernel
theorem dX7_show_5 : decode cX7_show 5 = .ok (.ifCond .ne 5, 3) := by decide +kernel
theorem dX7_show_8 : decode cX7_show 8 = .ok (.iconst (-1), 1) := by decide +kernel
theorem dX7_show_9 : decode cX7_show 9 = .ok (.ireturn, 1) := by decide +kernel
theorem dX7_show_10 : decode cX7_show 10 = .ok (.aload_n 0, 1) := by decide +kernel
theorem dX7_show_11 : decode cX7_show 11 = .ok (.iload_n 1, 1) := by decide +kernel
theorem dX7_show_12 : decode cX7_show 12 = .ok (.iconst 4, 1) := by decide +kernel
theorem dX7_show_13 : decode cX7_show 13 = .ok (.invokevirtual 66, 3) := by decide +kernel
theorem dX7_show_16 : decode cX7_show 16 = .ok (.iconst 1, 1) := by decide +kernel
theorem dX7_show_17 : decode cX7_show 17 = .ok (.if_icmp .ne 22, 3) := by decide +kernel
theorem dX7_show_20 : decode cX7_show 20 = .ok (.aload_n 0, 1) := by decide +kernel
theorem dX7_show_21 : decode cX7_show 21 = .ok (.iload_n 1, 1) := by decide +kernel
theorem dX7_show_22 : decode cX7_show 22 = .ok (.invokevirtual 144, 3) := by decide +kernel
theorem dX7_show_25 : decode cX7_show 25 = .ok (.ifCond .eq 14, 3) := by decide +kernel
theorem dX7_show_28 : decode cX7_show 28 = .ok (.aload_n 0, 1) := by decide +kernel
theorem dX7_show_29 : decode cX7_show 29 = .ok (.iload_n 1, 1) := by decide +kernel
theorem dX7_show_30 : decode cX7_show 30 = .ok (.bipush 7, 2) := by decide +kernel
theorem dX7_show_32 : decode cX7_show 32 = .ok (.invokevirtual 66, 3) := by decide +kernel
theorem dX7_show_35 : decode cX7_show 35 = .ok (.iconst 1, 1) := by decide +kernel
theorem dX7_show_36 : decode cX7_show 36 = .ok (.if_icmp .ne 6, 3) := by decide +kernel
theorem dX7_show_39 : decode cX7_show 39 = .ok (.bipush (-5), 2) := by decide +kernel
theorem dX7_show_41 : decode cX7_show 41 = .ok (.ireturn, 1) := by decide +kernel
theorem dX7_show_42 : decode cX7_show 42 = .ok (.aload_n 0, 1) := by decide +kernel
theorem dX7_show_43 : decode cX7_show 43 = .ok (.iload_n 1, 1) := by decide +kernel
theorem dX7_show_44 : decode cX7_show 44 = .ok (.bipush 7, 2) := by decide +kernel
theorem dX7_show_46 : decode cX7_show 46 = .ok (.iconst 1, 1) := by decide +kernel
theorem dX7_show_47 : decode cX7_show 47 = .ok (.invokevirtual 75, 3) := by decide +kernel
theorem dX7_show_50 : decode cX7_show 50 = .ok (.iconst 1, 1) := by decide +kernel
theorem dX7_show_51 : decode cX7_show 51 = .ok (.ireturn, 1) := by decide +kernel
set_option maxRecDepth 20000 in
theorem ggX7_strike_X7_ofClimber : GoodIn wsX7_strike wsX7_ofClimber := goodIn_r _ [6, 1, 15, 16, 17, 18, 19, 20, 21, 22, 23, 24, 25, 26] rfl (by decide +kernel)
set_option maxRecDepth 20000 in
theorem gX7_strike_X7_ofClimber : GoodIn wsX7_strike (wsV RX7 39 RX7 yX7_ofClimber wsX7_ofClimber) := goodIn_app (goodIn_of _ (by decide +kernel)) ggX7_strike_X7_ofClimber
set_option maxRecDepth 20000 in
theorem ggX7_strike_X7_layClimber : GoodIn wsX7_strike wsX7_layClimber := goodIn_r _ [10, 1, 15, 16, 17, 18, 19, 20, 21, 22, 23, 24, 25, 26] rfl (by decide +kernel)
set_option maxRecDepth 20000 in
theorem gX7_strike_X7_layClimber : GoodIn wsX7_strike (wsV RX7 54 RX7 yX7_layClimber wsX7_layClimber) := goodIn_app (goodIn_of _ (by decide +kernel)) ggX7_strike_X7_layClimber
set_option maxRecDepth 20000 in
theorem ggX7_strike_X7_setting : GoodIn wsX7_strike wsX7_setting := goodIn_r _ [14, 1, 15, 16, 17, 18, 19, 20, 21, 22, 23, 24, 25, 26] rfl (by decide +kernel)
set_option maxRecDepth 20000 in
theorem gX7_strike_X7_setting : GoodIn wsX7_strike (wsV RX7 63 RX7 yX7_setting wsX7_setting) := goodIn_app (goodIn_of _ (by decide +kernel)) ggX7_strike_X7_setting
theorem dX7_strike_0 : decode cX7_strike 0 = .ok (.aload_n 0, 1) := by decide +kernel
theorem dX7_strike_1 : decode cX7_strike 1 = .ok (.iload_n 1, 1) := by decide +kernel
theorem dX7_strike_2 : decode cX7_strike 2 = .ok (.iconst 1, 1) := by decide +kernel
theorem dX7_strike_3 : decode cX7_strike 3 = .ok (.invokevirtual 39, 3) := by decide +kernel
theorem dX7_strike_6 : decode cX7_strike 6 = .ok (.iconst 1, 1) := by decide +kernel
theorem dX7_strike_7 : decode cX7_strike 7 = .ok (.iadd, 1) := by decide +kernel
theorem dX7_strike_8 : decode cX7_strike 8 = .ok (.istore_n 2, 1) := by decide +kernel
theorem dX7_strike_9 : decode cX7_strike 9 = .ok (.aload_n 0, 1) := by decide +kernel
theorem dX7_strike_10 : decode cX7_strike 10 = .ok (.iload_n 1, 1) := by decide +kernel
theorem dX7_strike_11 : decode cX7_strike 11 = .ok (.iconst 1, 1) := by decide +kernel
theorem dX7_strike_12 : decode cX7_strike 12 = .ok (.iload_n 2, 1) := by decide +kernel
theorem dX7_strike_13 : decode cX7_strike 13 = .ok (.invokevirtual 54, 3) := by decide +kernel
theorem dX7_strike_16 : decode cX7_strike 16 = .ok (.iload_n 2, 1) := by decide +kernel
theorem dX7_strike_17 : decode cX7_strike 17 = .ok (.aload_n 0, 1) := by decide +kernel
theorem dX7_strike_18 : decode cX7_strike 18 = .ok (.iconst 2, 1) := by decide +kernel
theorem dX7_strike_19 : decode cX7_strike 19 = .ok (.invokevirtual 63, 3) := by decide +kernel
theorem dX7_strike_22 : decode cX7_strike 22 = .ok (.if_icmp .lt 49, 3) := by decide +kernel
theorem dX7_strike_25 : decode cX7_strike 25 = .ok (.aload_n 0, 1) := by decide +kernel
theorem dX7_strike_26 : decode cX7_strike 26 = .ok (.iload_n 1, 1) := by decide +kernel
theorem dX7_strike_27 : decode cX7_strike 27 = .ok (.iconst 1, 1) := by decide +kernel
theorem dX7_strike_28 : decode cX7_strike 28 = .ok (.iconst 0, 1) := by decide +kernel
theorem dX7_strike_29 : decode cX7_strike 29 = .ok (.invokevirtual 54, 3) := by decide +kernel
theorem dX7_strike_32 : decode cX7_strike 32 = .ok (.aload_n 0, 1) := by decide +kernel
theorem dX7_strike_33 : decode cX7_strike 33 = .ok (.getfield 7, 3) := by decide +kernel
theorem dX7_strike_36 : decode cX7_strike 36 = .ok (.iconst 0, 1) := by decide +kernel
theorem dX7_strike_37 : decode cX7_strike 37 = .ok (.iaload, 1) := by decide +kernel
theorem dX7_strike_38 : decode cX7_strike 38 = .ok (.aload_n 0, 1) := by decide +kernel
theorem dX7_strike_39 : decode cX7_strike 39 = .ok (.iconst 3, 1) := by decide +kernel
theorem dX7_strike_40 : decode cX7_strike 40 = .ok (.invokevirtual 63, 3) := by decide +kernel
theorem dX7_strike_43 : decode cX7_strike 43 = .ok (.iadd, 1) := by decide +kernel
theorem dX7_strike_44 : decode cX7_strike 44 = .ok (.istore_n 3, 1) := by decide +kernel
theorem dX7_strike_45 : decode cX7_strike 45 = .ok (.aload_n 0, 1) := by decide +kernel
theorem dX7_strike_46 : decode cX7_strike 46 = .ok (.iload_n 1, 1) := by decide +kernel
theorem dX7_strike_47 : decode cX7_strike 47 = .ok (.iconst 2, 1) := by decide +kernel
theorem dX7_strike_48 : decode cX7_strike 48 = .ok (.iload_n 3, 1) := by decide +kernel
theorem dX7_strike_49 : decode cX7_strike 49 = .ok (.aload_n 0, 1) := by decide +kernel
theorem dX7_strike_50 : decode cX7_strike 50 = .ok (.iload_n 1, 1) := by decide +kernel
theorem dX7_strike_51 : decode cX7_strike 51 = .ok (.iconst 2, 1) := by decide +kernel
theorem dX7_strike_52 : decode cX7_strike 52 = .ok (.invokevirtual 39, 3) := by decide +kernel
theorem dX7_strike_55 : decode cX7_strike 55 = .ok (.if_icmp .le 7, 3) := by decide +kernel
theorem dX7_strike_58 : decode cX7_strike 58 = .ok (.iload_n 3, 1) := by decide +kernel
theorem dX7_strike_59 : decode cX7_strike 59 = .ok (.goto 9, 3) := by decide +kernel
theorem dX7_strike_62 : decode cX7_strike 62 = .ok (.aload_n 0, 1) := by decide +kernel
theorem dX7_strike_63 : decode cX7_strike 63 = .ok (.iload_n 1, 1) := by decide +kernel
theorem dX7_strike_64 : decode cX7_strike 64 = .ok (.iconst 2, 1) := by decide +kernel
theorem dX7_strike_65 : decode cX7_strike 65 = .ok (.invokevirtual 39, 3) := by decide +kernel
theorem dX7_strike_68 : decode cX7_strike 68 = .ok (.invokevirtual 54, 3) := by decide +kernel
theorem dX7_strike_71 : decode cX7_strike 71 = .ok (.return_, 1) := by decide +kernel
set_option maxRecDepth 20000 in
theorem ggX7_end_X7_isOfToday : GoodIn wsX7_end wsX7_isOfToday := goodIn_r _ [6, 1, 7, 8, 9, 5, 10, 35, 36, 37, 38, 39, 40, 41, 42, 43, 44, 45, 46] rfl (by decide +kernel)
set_option maxRecDepth 20000 in
theorem gX7_end_X7_isOfToday : GoodIn wsX7_end (wsV RX7 144 RX7 yX7_isOfToday wsX7_isOfToday) := goodIn_app (goodIn_of _ (by decide +kernel)) ggX7_end_X7_isOfToday
set_option maxRecDepth 20000 in
theorem ggX7_end_X7_of : GoodIn wsX7_end wsX7_of := goodIn_r _ [10, 1, 35, 36, 37, 38, 39, 40, 41, 42, 43, 44, 45, 46] rfl (by decide +kernel)
set_option maxRecDepth 20000 in
theorem gX7_end_X7_of : GoodIn wsX7_end (wsV RX7 66 RX7 yX7_of wsX7_of) := goodIn_app (goodIn_of _ (by decide +kernel)) ggX7_end_X7_of
set_option maxRecDepth 20000 in
theorem ggX7_end_X7_lay : GoodIn wsX7_end wsX7_lay := goodIn_r _ [14, 1, 35, 36, 37, 38, 39, 40, 41, 42, 43, 44, 45, 46] rfl (by decide +kernel)
set_option maxRecDepth 20000 in
theorem gX7_end_X7_lay : GoodIn wsX7_end (wsV RX7 75 RX7 yX7_lay wsX7_lay) := goodIn_app (goodIn_of _ (by decide +kernel)) ggX7_end_X7_lay
set_option maxRecDepth 20000 in
theorem ggX7_end_X7_strike : GoodIn wsX7_end wsX7_strike := goodIn_r _ [18, 1, 19, 20, 21, 5, 22, 23, 24, 25, 26, 27, 28, 29, 30, 35, 36, 37, 38, 39, 40, 41, 42, 43, 44, 45, 46] rfl (by decide +kernel)
set_option maxRecDepth 20000 in
theorem gX7_end_X7_strike : GoodIn wsX7_end (wsV RX7 147 RX7 yX7_strike wsX7_strike) := goodIn_app (goodIn_of _ (by decide +kernel)) ggX7_end_X7_strike
set_option maxRecDepth 20000 in
theorem ggX7_end_X7_lose : GoodIn wsX7_end wsX7_lose := goodIn_r _ [34, 1, 7, 8, 9, 5, 10, 11, 12, 13, 14, 35, 36, 37, 38, 39, 40, 41, 42, 43, 44, 45, 46] rfl (by decide +kernel)
set_option maxRecDepth 20000 in
theorem gX7_end_X7_lose : GoodIn wsX7_end (wsV RX7 141 RX7 yX7_lose wsX7_lose) := goodIn_app (goodIn_of _ (by decide +kernel)) ggX7_end_X7_lose
theorem dX7_end_0 : decode cX7_end 0 = .ok (.aload_n 0, 1) := by decide +kernel
theorem dX7_end_1 : decode cX7_end 1 = .ok (.getfield 7, 3) := by decide +kernel
theorem dX7_end_4 : decode cX7_end 4 = .ok (.iconst 0, 1) := by decide +kernel
theorem dX7_end_5 : decode cX7_end 5 = .ok (.iaload, 1) := by decide +kernel
theorem dX7_end_6 : decode cX7_end 6 = .ok (.bipush 59, 2) := by decide +kernel
theorem dX7_end_8 : decode cX7_end 8 = .ok (.if_icmp .ne 6, 3) := by decide +kernel
theorem dX7_end_11 : decode cX7_end 11 = .ok (.bipush (-5), 2) := by decide +kernel
theorem dX7_end_13 : decode cX7_end 13 = .ok (.ireturn, 1) := by decide +kernel
theorem dX7_end_14 : decode cX7_end 14 = .ok (.iconst 0, 1) := by decide +kernel
theorem dX7_end_15 : decode cX7_end 15 = .ok (.istore_n 1, 1) := by decide +kernel
theorem dX7_end_16 : decode cX7_end 16 = .ok (.iconst 0, 1) := by decide +kernel
theorem dX7_end_17 : decode cX7_end 17 = .ok (.istore_n 2, 1) := by decide +kernel
theorem dX7_end_18 : decode cX7_end 18 = .ok (.iload_n 2, 1) := by decide +kernel
theorem dX7_end_19 : decode cX7_end 19 = .ok (.aload_n 0, 1) := by decide +kernel
theorem dX7_end_20 : decode cX7_end 20 = .ok (.getfield 7, 3) := by decide +kernel
theorem dX7_end_23 : decode cX7_end 23 = .ok (.iconst 3, 1) := by decide +kernel
theorem dX7_end_24 : decode cX7_end 24 = .ok (.iaload, 1) := by decide +kernel
theorem dX7_end_25 : decode cX7_end 25 = .ok (.if_icmp .ge 77, 3) := by decide +kernel
theorem dX7_end_28 : decode cX7_end 28 = .ok (.aload_n 0, 1) := by decide +kernel
theorem dX7_end_29 : decode cX7_end 29 = .ok (.iload_n 2, 1) := by decide +kernel
theorem dX7_end_30 : decode cX7_end 30 = .ok (.invokevirtual 144, 3) := by decide +kernel
theorem dX7_end_33 : decode cX7_end 33 = .ok (.ifCond .eq 63, 3) := by decide +kernel
theorem dX7_end_36 : decode cX7_end 36 = .ok (.aload_n 0, 1) := by decide +kernel
theorem dX7_end_37 : decode cX7_end 37 = .ok (.iload_n 2, 1) := by decide +kernel
theorem dX7_end_38 : decode cX7_end 38 = .ok (.iconst 4, 1) := by decide +kernel
theorem dX7_end_39 : decode cX7_end 39 = .ok (.invokevirtual 66, 3) := by decide +kernel
theorem dX7_end_42 : decode cX7_end 42 = .ok (.iconst 1, 1) := by decide +kernel
theorem dX7_end_43 : decode cX7_end 43 = .ok (.if_icmp .ne 53, 3) := by decide +kernel
theorem dX7_end_46 : decode cX7_end 46 = .ok (.aload_n 0, 1) := by decide +kernel
theorem dX7_end_47 : decode cX7_end 47 = .ok (.iload_n 2, 1) := by decide +kernel
theorem dX7_end_48 : decode cX7_end 48 = .ok (.bipush 7, 2) := by decide +kernel
theorem dX7_end_50 : decode cX7_end 50 = .ok (.invokevirtual 66, 3) := by decide +kernel
theorem dX7_end_53 : decode cX7_end 53 = .ok (.iconst 1, 1) := by decide +kernel
theorem dX7_end_54 : decode cX7_end 54 = .ok (.if_icmp .ne 7, 3) := by decide +kernel
theorem dX7_end_57 : decode cX7_end 57 = .ok (.iconst 1, 1) := by decide +kernel
theorem dX7_end_58 : decode cX7_end 58 = .ok (.goto 4, 3) := by decide +kernel
theorem dX7_end_61 : decode cX7_end 61 = .ok (.iconst 0, 1) := by decide +kernel
theorem dX7_end_62 : decode cX7_end 62 = .ok (.istore_n 3, 1) := by decide +kernel
theorem dX7_end_63 : decode cX7_end 63 = .ok (.aload_n 0, 1) := by decide +kernel
theorem dX7_end_64 : decode cX7_end 64 = .ok (.iload_n 2, 1) := by decide +kernel
theorem dX7_end_65 : decode cX7_end 65 = .ok (.iconst 4, 1) := by decide +kernel
theorem dX7_end_66 : decode cX7_end 66 = .ok (.iload_n 3, 1) := by decide +kernel
theorem dX7_end_67 : decode cX7_end 67 = .ok (.ifCond .eq 7, 3) := by decide +kernel
theorem dX7_end_70 : decode cX7_end 70 = .ok (.iconst 5, 1) := by decide +kernel
theorem dX7_end_71 : decode cX7_end 71 = .ok (.goto 5, 3) := by decide +kernel
theorem dX7_end_74 : decode cX7_end 74 = .ok (.bipush 6, 2) := by decide +kernel
theorem dX7_end_76 : decode cX7_end 76 = .ok (.invokevirtual 75, 3) := by decide +kernel
theorem dX7_end_79 : decode cX7_end 79 = .ok (.iload_n 3, 1) := by decide +kernel
theorem dX7_end_80 : decode cX7_end 80 = .ok (.ifCond .ne 16, 3) := by decide +kernel
theorem dX7_end_83 : decode cX7_end 83 = .ok (.iinc 1 1, 3) := by decide +kernel
theorem dX7_end_86 : decode cX7_end 86 = .ok (.aload_n 0, 1) := by decide +kernel
theorem dX7_end_87 : decode cX7_end 87 = .ok (.aload_n 0, 1) := by decide +kernel
theorem dX7_end_88 : decode cX7_end 88 = .ok (.iload_n 2, 1) := by decide +kernel
theorem dX7_end_89 : decode cX7_end 89 = .ok (.iconst 0, 1) := by decide +kernel
theorem dX7_end_90 : decode cX7_end 90 = .ok (.invokevirtual 66, 3) := by decide +kernel
theorem dX7_end_93 : decode cX7_end 93 = .ok (.invokevirtual 147, 3) := by decide +kernel
theorem dX7_end_96 : decode cX7_end 96 = .ok (.iinc 2 1, 3) := by decide +kernel
theorem dX7_end_99 : decode cX7_end 99 = .ok (.goto (-81), 3) := by decide +kernel
theorem dX7_end_102 : decode cX7_end 102 = .ok (.aload_n 0, 1) := by decide +kernel
theorem dX7_end_103 : decode cX7_end 103 = .ok (.aload_n 0, 1) := by decide +kernel
theorem dX7_end_104 : decode cX7_end 104 = .ok (.getfield 7, 3) := by decide +kernel
theorem dX7_end_107 : decode cX7_end 107 = .ok (.iconst 0, 1) := by decide +kernel
theorem dX7_end_108 : decode cX7_end 108 = .ok (.iaload, 1) := by decide +kernel
theorem dX7_end_109 : decode cX7_end 109 = .ok (.invokevirtual 141, 3) := by decide +kernel
theorem dX7_end_112 : decode cX7_end 112 = .ok (.aload_n 0, 1) := by decide +kernel
theorem dX7_end_113 : decode cX7_end 113 = .ok (.getfield 7, 3) := by decide +kernel
theorem dX7_end_116 : decode cX7_end 116 = .ok (.iconst 0, 1) := by decide +kernel
theorem dX7_end_117 : decode cX7_end 117 = .ok (.dup2, 1) := by decide +kernel
theorem dX7_end_118 : decode cX7_end 118 = .ok (.iaload, 1) := by decide +kernel
theorem dX7_end_119 : decode cX7_end 119 = .ok (.iconst 1, 1) := by decide +kernel
theorem dX7_end_120 : decode cX7_end 120 = .ok (.iadd, 1) := by decide +kernel
theorem dX7_end_121 : decode cX7_end 121 = .ok (.iastore, 1) := by decide +kernel
theorem dX7_end_122 : decode cX7_end 122 = .ok (.iload_n 1, 1) := by decide +kernel
theorem dX7_end_123 : decode cX7_end 123 = .ok (.ireturn, 1) := by decide +kernel
set_option maxRecDepth 20000 in
theorem ggX7_onRoute_X7_isRoute : GoodIn wsX7_onRoute wsX7_isRoute := goodIn_r _ [5, 6, 7, 8, 4, 9, 41, 42, 43, 44, 45, 46, 47, 48, 49, 50, 51, 52] rfl (by decide +kernel)
set_option maxRecDepth 20000 in
theorem gX7_onRoute_X7_isRoute : GoodIn wsX7_onRoute (wsV RX7 43 RX7 yX7_isRoute wsX7_isRoute) := goodIn_app (goodIn_of _ (by decide +kernel)) ggX7_onRoute_X7_isRoute
set_option maxRecDepth 20000 in
theorem ggX7_onRoute_X7_isDay : GoodIn wsX7_onRoute wsX7_isDay := goodIn_r _ [12, 7, 8, 4, 9] rfl (by decide +kernel)
set_option maxRecDepth 20000 in
theorem gX7_onRoute_X7_isDay : GoodIn wsX7_onRoute (va_wsS RX7 81 yX7_isDay wsX7_isDay) := goodIn_app (goodIn_of _ (by decide +kernel)) ggX7_onRoute_X7_isDay
set_option maxRecDepth 20000 in
theorem ggX7_onRoute_X7_limitOf : GoodIn wsX7_onRoute wsX7_limitOf := goodIn_r _ [16, 6, 41, 42, 43, 44, 45, 46, 47, 48, 49, 50, 51, 52] rfl (by decide +kernel)
set_option maxRecDepth 20000 in
theorem gX7_onRoute_X7_limitOf : GoodIn wsX7_onRoute (wsV RX7 47 RX7 yX7_limitOf wsX7_limitOf) := goodIn_app (goodIn_of _ (by decide +kernel)) ggX7_onRoute_X7_limitOf
set_option maxRecDepth 20000 in
theorem ggX7_onRoute_X7_bufferOf : GoodIn wsX7_onRoute wsX7_bufferOf := goodIn_r _ [20, 6, 41, 42, 43, 44, 45, 46, 47, 48, 49, 50, 51, 52] rfl (by decide +kernel)
set_option maxRecDepth 20000 in
theorem gX7_onRoute_X7_bufferOf : GoodIn wsX7_onRoute (wsV RX7 51 RX7 yX7_bufferOf wsX7_bufferOf) := goodIn_app (goodIn_of _ (by decide +kernel)) ggX7_onRoute_X7_bufferOf
set_option maxRecDepth 20000 in
theorem ggX7_onRoute_X7_taken : GoodIn wsX7_onRoute wsX7_taken := goodIn_r _ [24, 6, 25, 26, 27, 4, 28, 29, 30, 31, 32, 41, 42, 43, 44, 45, 46, 47, 48, 49, 50, 51, 52] rfl (by decide +kernel)
set_option maxRecDepth 20000 in
theorem gX7_onRoute_X7_taken : GoodIn wsX7_onRoute (wsV RX7 72 RX7 yX7_taken wsX7_taken) := goodIn_app (goodIn_of _ (by decide +kernel)) ggX7_onRoute_X7_taken
set_option maxRecDepth 20000 in
theorem ggX7_onRoute_X7_left : GoodIn wsX7_onRoute wsX7_left := goodIn_r _ [36, 13, 14, 15, 4, 16, 6, 17, 18, 19, 20, 21, 22, 23, 24, 25, 26, 27, 28, 29, 30, 31, 32, 41, 42, 43, 44, 45, 46, 47, 48, 49, 50, 51, 52] rfl (by decide +kernel)
set_option maxRecDepth 20000 in
theorem gX7_onRoute_X7_left : GoodIn wsX7_onRoute (wsV RX7 109 RX7 yX7_left wsX7_left) := goodIn_app (goodIn_of _ (by decide +kernel)) ggX7_onRoute_X7_left
set_option maxRecDepth 20000 in
theorem ggX7_onRoute_X7_inState : GoodIn wsX7_onRoute wsX7_inState := goodIn_r _ [40, 6, 29, 30, 31, 4, 32, 25, 26, 27, 28, 41, 42, 43, 44, 45, 46, 47, 48, 49, 50, 51, 52] rfl (by decide +kernel)
set_option maxRecDepth 20000 in
theorem gX7_onRoute_X7_inState : GoodIn wsX7_onRoute (wsV RX7 118 RX7 yX7_inState wsX7_inState) := goodIn_app (goodIn_of _ (by decide +kernel)) ggX7_onRoute_X7_inState
theorem dX7_onRoute_0 : decode cX7_onRoute 0 = .ok (.aload_n 0, 1) := by decide +kernel
theorem dX7_onRoute_1 : decode cX7_onRoute 1 = .ok (.iload_n 1, 1) := by decide +kernel
theorem dX7_onRoute_2 : decode cX7_onRoute 2 = .ok (.invokevirtual 43, 3) := by decide +kernel
theorem dX7_onRoute_5 : decode cX7_onRoute 5 = .ok (.ifCond .eq 10, 3) := by decide +kernel
theorem dX7_onRoute_8 : decode cX7_onRoute 8 = .ok (.iload_n 2, 1) := by decide +kernel
theorem dX7_onRoute_9 : decode cX7_onRoute 9 = .ok (.invokestatic 81, 3) := by decide +kernel
theorem dX7_onRoute_12 : decode cX7_onRoute 12 = .ok (.ifCond .ne 5, 3) := by decide +kernel
theorem dX7_onRoute_15 : decode cX7_onRoute 15 = .ok (.iconst (-1), 1) := by decide +kernel
theorem dX7_onRoute_16 : decode cX7_onRoute 16 = .ok (.ireturn, 1) := by decide +kernel
theorem dX7_onRoute_17 : decode cX7_onRoute 17 = .ok (.iload_n 3, 1) := by decide +kernel
theorem dX7_onRoute_18 : decode cX7_onRoute 18 = .ok (.tableswitch 93 0 5 #[38, 44, 50, 57, 77, 85], 38) := by decide +kernel
theorem dX7_onRoute_56 : decode cX7_onRoute 56 = .ok (.aload_n 0, 1) := by decide +kernel
theorem dX7_onRoute_57 : decode cX7_onRoute 57 = .ok (.iload_n 1, 1) := by decide +kernel
theorem dX7_onRoute_58 : decode cX7_onRoute 58 = .ok (.invokevirtual 47, 3) := by decide +kernel
theorem dX7_onRoute_61 : decode cX7_onRoute 61 = .ok (.ireturn, 1) := by decide +kernel
theorem dX7_onRoute_62 : decode cX7_onRoute 62 = .ok (.aload_n 0, 1) := by decide +kernel
theorem dX7_onRoute_63 : decode cX7_onRoute 63 = .ok (.iload_n 1, 1) := by decide +kernel
theorem dX7_onRoute_64 : decode cX7_onRoute 64 = .ok (.invokevirtual 51, 3) := by decide +kernel
theorem dX7_onRoute_67 : decode cX7_onRoute 67 = .ok (.ireturn, 1) := by decide +kernel
theorem dX7_onRoute_68 : decode cX7_onRoute 68 = .ok (.aload_n 0, 1) := by decide +kernel
theorem dX7_onRoute_69 : decode cX7_onRoute 69 = .ok (.iload_n 1, 1) := by decide +kernel
theorem dX7_onRoute_70 : decode cX7_onRoute 70 = .ok (.iload_n 2, 1) := by decide +kernel
theorem dX7_onRoute_71 : decode cX7_onRoute 71 = .ok (.invokevirtual 72, 3) := by decide +kernel
theorem dX7_onRoute_74 : decode cX7_onRoute 74 = .ok (.ireturn, 1) := by decide +kernel
theorem dX7_onRoute_75 : decode cX7_onRoute 75 = .ok (.aload_n 0, 1) := by decide +kernel
theorem dX7_onRoute_76 : decode cX7_onRoute 76 = .ok (.iload_n 1, 1) := by decide +kernel
theorem dX7_onRoute_77 : decode cX7_onRoute 77 = .ok (.iload_n 2, 1) := by decide +kernel
theorem dX7_onRoute_78 : decode cX7_onRoute 78 = .ok (.invokevirtual 109, 3) := by decide +kernel
theorem dX7_onRoute_81 : decode cX7_onRoute 81 = .ok (.ifCond .le 12, 3) := by decide +kernel
theorem dX7_onRoute_84 : decode cX7_onRoute 84 = .ok (.aload_n 0, 1) := by decide +kernel
theorem dX7_onRoute_85 : decode cX7_onRoute 85 = .ok (.iload_n 1, 1) := by decide +kernel
theorem dX7_onRoute_86 : decode cX7_onRoute 86 = .ok (.iload_n 2, 1) := by decide +kernel
theorem dX7_onRoute_87 : decode cX7_onRoute 87 = .ok (.invokevirtual 109, 3) := by decide +kernel
theorem dX7_onRoute_90 : decode cX7_onRoute 90 = .ok (.goto 4, 3) := by decide +kernel
theorem dX7_onRoute_93 : decode cX7_onRoute 93 = .ok (.iconst 0, 1) := by decide +kernel
theorem dX7_onRoute_94 : decode cX7_onRoute 94 = .ok (.ireturn, 1) := by decide +kernel
theorem dX7_onRoute_95 : decode cX7_onRoute 95 = .ok (.aload_n 0, 1) := by decide +kernel
theorem dX7_onRoute_96 : decode cX7_onRoute 96 = .ok (.iload_n 1, 1) := by decide +kernel
theorem dX7_onRoute_97 : decode cX7_onRoute 97 = .ok (.iload_n 2, 1) := by decide +kernel
theorem dX7_onRoute_98 : decode cX7_onRoute 98 = .ok (.iconst 0, 1) := by decide +kernel
theorem dX7_onRoute_99 : decode cX7_onRoute 99 = .ok (.invokevirtual 118, 3) := by decide +kernel
theorem dX7_onRoute_102 : decode cX7_onRoute 102 = .ok (.ireturn, 1) := by decide +kernel
theorem dX7_onRoute_103 : decode cX7_onRoute 103 = .ok (.aload_n 0, 1) := by decide +kernel
theorem dX7_onRoute_104 : decode cX7_onRoute 104 = .ok (.iload_n 1, 1) := by decide +kernel
theorem dX7_onRoute_105 : decode cX7_onRoute 105 = .ok (.iload_n 2, 1) := by decide +kernel
theorem dX7_onRoute_106 : decode cX7_onRoute 106 = .ok (.iconst 2, 1) := by decide +kernel
theorem dX7_onRoute_107 : decode cX7_onRoute 107 = .ok (.invokevirtual 118, 3) := by decide +kernel
theorem dX7_onRoute_110 : decode cX7_onRoute 110 = .ok (.ireturn, 1) := by decide +kernel
theorem dX7_onRoute_111 : decode cX7_onRoute 111 = .ok (.bipush (-2), 2) := by decide +kernel
theorem dX7_onRoute_113 : decode cX7_onRoute 113 = .ok (.ireturn, 1) := by decide +kernel
set_option maxRecDepth 20000 in
theorem ggX7_sumOf_X7_of : GoodIn wsX7_sumOf wsX7_of := goodIn_r _ [6, 1, 7, 8, 9, 10, 11, 12, 13, 14, 15, 16, 17, 18] rfl (by decide +kernel)
set_option maxRecDepth 20000 in
theorem gX7_sumOf_X7_of : GoodIn wsX7_sumOf (wsV RX7 66 RX7 yX7_of wsX7_of) := goodIn_app (goodIn_of _ (by decide +kernel)) ggX7_sumOf_X7_of
theorem dX7_sumOf_0 : decode cX7_sumOf 0 = .ok (.iconst 0, 1) := by decide +kernel
theorem dX7_sumOf_1 : decode cX7_sumOf 1 = .ok (.istore_n 3, 1) := by decide +kernel
theorem dX7_sumOf_2 : decode cX7_sumOf 2 = .ok (.iconst 0, 1) := by decide +kernel
theorem dX7_sumOf_3 : decode cX7_sumOf 3 = .ok (.istore 4, 2) := by decide +kernel
theorem dX7_sumOf_5 : decode cX7_sumOf 5 = .ok (.iload 4, 2) := by decide +kernel
theorem dX7_sumOf_7 : decode cX7_sumOf 7 = .ok (.aload_n 0, 1) := by decide +kernel
theorem dX7_sumOf_8 : decode cX7_sumOf 8 = .ok (.getfield 7, 3) := by decide +kernel
theorem dX7_sumOf_11 : decode cX7_sumOf 11 = .ok (.iconst 3, 1) := by decide +kernel
theorem dX7_sumOf_12 : decode cX7_sumOf 12 = .ok (.iaload, 1) := by decide +kernel
theorem dX7_sumOf_13 : decode cX7_sumOf 13 = .ok (.if_icmp .ge 79, 3) := by decide +kernel
theorem dX7_sumOf_16 : decode cX7_sumOf 16 = .ok (.aload_n 0, 1) := by decide +kernel
theorem dX7_sumOf_17 : decode cX7_sumOf 17 = .ok (.iload 4, 2) := by decide +kernel
theorem dX7_sumOf_19 : decode cX7_sumOf 19 = .ok (.iconst 0, 1) := by decide +kernel
theorem dX7_sumOf_20 : decode cX7_sumOf 20 = .ok (.invokevirtual 66, 3) := by decide +kernel
theorem dX7_sumOf_23 : decode cX7_sumOf 23 = .ok (.iload_n 1, 1) := by decide +kernel
theorem dX7_sumOf_24 : decode cX7_sumOf 24 = .ok (.if_icmp .ne 62, 3) := by decide +kernel
theorem dX7_sumOf_27 : decode cX7_sumOf 27 = .ok (.iload_n 3, 1) := by decide +kernel
theorem dX7_sumOf_28 : decode cX7_sumOf 28 = .ok (.iload_n 2, 1) := by decide +kernel
theorem dX7_sumOf_29 : decode cX7_sumOf 29 = .ok (.iconst 3, 1) := by decide +kernel
theorem dX7_sumOf_30 : decode cX7_sumOf 30 = .ok (.if_icmp .ne 22, 3) := by decide +kernel
theorem dX7_sumOf_33 : decode cX7_sumOf 33 = .ok (.aload_n 0, 1) := by decide +kernel
theorem dX7_sumOf_34 : decode cX7_sumOf 34 = .ok (.iload 4, 2) := by decide +kernel
theorem dX7_sumOf_36 : decode cX7_sumOf 36 = .ok (.iconst 4, 1) := by decide +kernel
theorem dX7_sumOf_37 : decode cX7_sumOf 37 = .ok (.invokevirtual 66, 3) := by decide +kernel
theorem dX7_sumOf_40 : decode cX7_sumOf 40 = .ok (.iconst 1, 1) := by decide +kernel
theorem dX7_sumOf_41 : decode cX7_sumOf 41 = .ok (.if_icmp .ne 7, 3) := by decide +kernel
theorem dX7_sumOf_44 : decode cX7_sumOf 44 = .ok (.iconst 1, 1) := by decide +kernel
theorem dX7_sumOf_45 : decode cX7_sumOf 45 = .ok (.goto 39, 3) := by decide +kernel
theorem dX7_sumOf_48 : decode cX7_sumOf 48 = .ok (.iconst 0, 1) := by decide +kernel
theorem dX7_sumOf_49 : decode cX7_sumOf 49 = .ok (.goto 35, 3) := by decide +kernel
theorem dX7_sumOf_52 : decode cX7_sumOf 52 = .ok (.iload_n 2, 1) := by decide +kernel
theorem dX7_sumOf_53 : decode cX7_sumOf 53 = .ok (.iconst 4, 1) := by decide +kernel
theorem dX7_sumOf_54 : decode cX7_sumOf 54 = .ok (.if_icmp .ne 13, 3) := by decide +kernel
theorem dX7_sumOf_57 : decode cX7_sumOf 57 = .ok (.aload_n 0, 1) := by decide +kernel
theorem dX7_sumOf_58 : decode cX7_sumOf 58 = .ok (.iload 4, 2) := by decide +kernel
theorem dX7_sumOf_60 : decode cX7_sumOf 60 = .ok (.iconst 5, 1) := by decide +kernel
theorem dX7_sumOf_61 : decode cX7_sumOf 61 = .ok (.invokevirtual 66, 3) := by decide +kernel
theorem dX7_sumOf_64 : decode cX7_sumOf 64 = .ok (.goto 20, 3) := by decide +kernel
theorem dX7_sumOf_67 : decode cX7_sumOf 67 = .ok (.iload_n 2, 1) := by decide +kernel
theorem dX7_sumOf_68 : decode cX7_sumOf 68 = .ok (.iconst 5, 1) := by decide +kernel
theorem dX7_sumOf_69 : decode cX7_sumOf 69 = .ok (.if_icmp .ne 14, 3) := by decide +kernel
theorem dX7_sumOf_72 : decode cX7_sumOf 72 = .ok (.aload_n 0, 1) := by decide +kernel
theorem dX7_sumOf_73 : decode cX7_sumOf 73 = .ok (.iload 4, 2) := by decide +kernel
theorem dX7_sumOf_75 : decode cX7_sumOf 75 = .ok (.bipush 6, 2) := by decide +kernel
theorem dX7_sumOf_77 : decode cX7_sumOf 77 = .ok (.invokevirtual 66, 3) := by decide +kernel
theorem dX7_sumOf_80 : decode cX7_sumOf 80 = .ok (.goto 4, 3) := by decide +kernel
theorem dX7_sumOf_83 : decode cX7_sumOf 83 = .ok (.iconst 1, 1) := by decide +kernel
theorem dX7_sumOf_84 : decode cX7_sumOf 84 = .ok (.iadd, 1) := by decide +kernel
theorem dX7_sumOf_85 : decode cX7_sumOf 85 = .ok (.istore_n 3, 1) := by decide +kernel
theorem dX7_sumOf_86 : decode cX7_sumOf 86 = .ok (.iinc 4 1, 3) := by decide +kernel
theorem dX7_sumOf_89 : decode cX7_sumOf 89 = .ok (.goto (-84), 3) := by decide +kernel
theorem dX7_sumOf_92 : decode cX7_sumOf 92 = .ok (.iload_n 3, 1) := by decide +kernel
theorem dX7_sumOf_93 : decode cX7_sumOf 93 = .ok (.ireturn, 1) := by decide +kernel
set_option maxRecDepth 20000 in
theorem ggX7_climber_X7_isClimber : GoodIn wsX7_climber wsX7_isClimber := goodIn_r _ [5, 6, 7, 8, 4, 9, 22, 23, 24, 25, 26, 27, 28, 29, 30, 31, 32, 33] rfl (by decide +kernel)
set_option maxRecDepth 20000 in
theorem gX7_climber_X7_isClimber : GoodIn wsX7_climber (wsV RX7 78 RX7 yX7_isClimber wsX7_isClimber) := goodIn_app (goodIn_of _ (by decide +kernel)) ggX7_climber_X7_isClimber
set_option maxRecDepth 20000 in
theorem ggX7_climber_X7_in : GoodIn wsX7_climber wsX7_in := goodIn_r _ [9] rfl (by decide +kernel)
set_option maxRecDepth 20000 in
theorem gX7_climber_X7_in : GoodIn wsX7_climber (va_wsS RX7 35 yX7_in wsX7_in) := goodIn_app (goodIn_of _ (by decide +kernel)) ggX7_climber_X7_in
set_option maxRecDepth 20000 in
theorem ggX7_climber_X7_ofClimber : GoodIn wsX7_climber wsX7_ofClimber := goodIn_r _ [13, 6, 22, 23, 24, 25, 26, 27, 28, 29, 30, 31, 32, 33] rfl (by decide +kernel)
set_option maxRecDepth 20000 in
theorem gX7_climber_X7_ofClimber : GoodIn wsX7_climber (wsV RX7 39 RX7 yX7_ofClimber wsX7_ofClimber) := goodIn_app (goodIn_of _ (by decide +kernel)) ggX7_climber_X7_ofClimber
set_option maxRecDepth 20000 in
theorem ggX7_climber_X7_sumOf : GoodIn wsX7_climber wsX7_sumOf := goodIn_r _ [17, 6, 18, 19, 20, 4, 21, 22, 23, 24, 25, 26, 27, 28, 29, 30, 31, 32, 33] rfl (by decide +kernel)
set_option maxRecDepth 20000 in
theorem gX7_climber_X7_sumOf : GoodIn wsX7_climber (wsV RX7 150 RX7 yX7_sumOf wsX7_sumOf) := goodIn_app (goodIn_of _ (by decide +kernel)) ggX7_climber_X7_sumOf
theorem dX7_climber_0 : decode cX7_climber 0 = .ok (.aload_n 0, 1) := by decide +kernel
theorem dX7_climber_1 : decode cX7_climber 1 = .ok (.iload_n 1, 1) := by decide +kernel
theorem dX7_climber_2 : decode cX7_climber 2 = .ok (.invokevirtual 78, 3) := by decide +kernel
theorem dX7_climber_5 : decode cX7_climber 5 = .ok (.ifCond .ne 5, 3) := by decide +kernel
theorem dX7_climber_8 : decode cX7_climber 8 = .ok (.iconst (-1), 1) := by decide +kernel
theorem dX7_climber_9 : decode cX7_climber 9 = .ok (.ireturn, 1) := by decide +kernel
theorem dX7_climber_10 : decode cX7_climber 10 = .ok (.iload_n 2, 1) := by decide +kernel
theorem dX7_climber_11 : decode cX7_climber 11 = .ok (.iconst 0, 1) := by decide +kernel
theorem dX7_climber_12 : decode cX7_climber 12 = .ok (.iconst 2, 1) := by decide +kernel
theorem dX7_climber_13 : decode cX7_climber 13 = .ok (.invokestatic 35, 3) := by decide +kernel
theorem dX7_climber_16 : decode cX7_climber 16 = .ok (.ifCond .eq 12, 3) := by decide +kernel
theorem dX7_climber_19 : decode cX7_climber 19 = .ok (.aload_n 0, 1) := by decide +kernel
theorem dX7_climber_20 : decode cX7_climber 20 = .ok (.iload_n 1, 1) := by decide +kernel
theorem dX7_climber_21 : decode cX7_climber 21 = .ok (.iload_n 2, 1) := by decide +kernel
theorem dX7_climber_22 : decode cX7_climber 22 = .ok (.invokevirtual 39, 3) := by decide +kernel
theorem dX7_climber_25 : decode cX7_climber 25 = .ok (.goto 24, 3) := by decide +kernel
theorem dX7_climber_28 : decode cX7_climber 28 = .ok (.iload_n 2, 1) := by decide +kernel
theorem dX7_climber_29 : decode cX7_climber 29 = .ok (.iconst 3, 1) := by decide +kernel
theorem dX7_climber_30 : decode cX7_climber 30 = .ok (.bipush 6, 2) := by decide +kernel
theorem dX7_climber_32 : decode cX7_climber 32 = .ok (.invokestatic 35, 3) := by decide +kernel
theorem dX7_climber_35 : decode cX7_climber 35 = .ok (.ifCond .eq 12, 3) := by decide +kernel
theorem dX7_climber_38 : decode cX7_climber 38 = .ok (.aload_n 0, 1) := by decide +kernel
theorem dX7_climber_39 : decode cX7_climber 39 = .ok (.iload_n 1, 1) := by decide +kernel
theorem dX7_climber_40 : decode cX7_climber 40 = .ok (.iload_n 2, 1) := by decide +kernel
theorem dX7_climber_41 : decode cX7_climber 41 = .ok (.invokevirtual 150, 3) := by decide +kernel
theorem dX7_climber_44 : decode cX7_climber 44 = .ok (.goto 5, 3) := by decide +kernel
theorem dX7_climber_47 : decode cX7_climber 47 = .ok (.bipush (-2), 2) := by decide +kernel
theorem dX7_climber_49 : decode cX7_climber 49 = .ok (.ireturn, 1) := by decide +kernel
set_option maxRecDepth 20000 in
theorem ggX7_application_X7_isApplication : GoodIn wsX7_application wsX7_isApplication := goodIn_r _ [5, 6, 7, 8, 4, 9, 26, 27, 28, 29, 30, 31, 32, 33, 34, 35, 36, 37] rfl (by decide +kernel)
set_option maxRecDepth 20000 in
theorem gX7_application_X7_isApplication : GoodIn wsX7_application (wsV RX7 128 RX7 yX7_isApplication wsX7_isApplication) := goodIn_app (goodIn_of _ (by decide +kernel)) ggX7_application_X7_isApplication
set_option maxRecDepth 20000 in
theorem ggX7_application_X7_in : GoodIn wsX7_application wsX7_in := goodIn_r _ [9] rfl (by decide +kernel)
set_option maxRecDepth 20000 in
theorem gX7_application_X7_in : GoodIn wsX7_application (va_wsS RX7 35 yX7_in wsX7_in) := goodIn_app (goodIn_of _ (by decide +kernel)) ggX7_application_X7_in
set_option maxRecDepth 20000 in
theorem ggX7_application_X7_of : GoodIn wsX7_application wsX7_of := goodIn_r _ [13, 6, 26, 27, 28, 29, 30, 31, 32, 33, 34, 35, 36, 37] rfl (by decide +kernel)
set_option maxRecDepth 20000 in
theorem gX7_application_X7_of : GoodIn wsX7_application (wsV RX7 66 RX7 yX7_of wsX7_of) := goodIn_app (goodIn_of _ (by decide +kernel)) ggX7_application_X7_of
set_option maxRecDepth 20000 in
theorem ggX7_application_X7_ticketsOf : GoodIn wsX7_application wsX7_ticketsOf := goodIn_r _ [17, 18, 19, 20, 4, 21, 6, 10, 11, 12, 13, 22, 23, 24, 25, 26, 27, 28, 29, 30, 31, 32, 33, 34, 35, 36, 37] rfl (by decide +kernel)
set_option maxRecDepth 20000 in
theorem gX7_application_X7_ticketsOf : GoodIn wsX7_application (wsV RX7 93 RX7 yX7_ticketsOf wsX7_ticketsOf) := goodIn_app (goodIn_of _ (by decide +kernel)) ggX7_application_X7_ticketsOf
theorem dX7_application_0 : decode cX7_application 0 = .ok (.aload_n 0, 1) := by decide +kernel
theorem dX7_application_1 : decode cX7_application 1 = .ok (.iload_n 1, 1) := by decide +kernel
theorem dX7_application_2 : decode cX7_application 2 = .ok (.invokevirtual 128, 3) := by decide +kernel
theorem dX7_application_5 : decode cX7_application 5 = .ok (.ifCond .ne 5, 3) := by decide +kernel
theorem dX7_application_8 : decode cX7_application 8 = .ok (.iconst (-1), 1) := by decide +kernel
theorem dX7_application_9 : decode cX7_application 9 = .ok (.ireturn, 1) := by decide +kernel
theorem dX7_application_10 : decode cX7_application 10 = .ok (.iload_n 2, 1) := by decide +kernel
theorem dX7_application_11 : decode cX7_application 11 = .ok (.iconst 0, 1) := by decide +kernel
theorem dX7_application_12 : decode cX7_application 12 = .ok (.bipush 8, 2) := by decide +kernel
theorem dX7_application_14 : decode cX7_application 14 = .ok (.invokestatic 35, 3) := by decide +kernel
theorem dX7_application_17 : decode cX7_application 17 = .ok (.ifCond .eq 12, 3) := by decide +kernel
theorem dX7_application_20 : decode cX7_application 20 = .ok (.aload_n 0, 1) := by decide +kernel
theorem dX7_application_21 : decode cX7_application 21 = .ok (.iload_n 1, 1) := by decide +kernel
theorem dX7_application_22 : decode cX7_application 22 = .ok (.iload_n 2, 1) := by decide +kernel
theorem dX7_application_23 : decode cX7_application 23 = .ok (.invokevirtual 66, 3) := by decide +kernel
theorem dX7_application_26 : decode cX7_application 26 = .ok (.goto 19, 3) := by decide +kernel
theorem dX7_application_29 : decode cX7_application 29 = .ok (.iload_n 2, 1) := by decide +kernel
theorem dX7_application_30 : decode cX7_application 30 = .ok (.bipush 9, 2) := by decide +kernel
theorem dX7_application_32 : decode cX7_application 32 = .ok (.if_icmp .ne 11, 3) := by decide +kernel
theorem dX7_application_35 : decode cX7_application 35 = .ok (.aload_n 0, 1) := by decide +kernel
theorem dX7_application_36 : decode cX7_application 36 = .ok (.iload_n 1, 1) := by decide +kernel
theorem dX7_application_37 : decode cX7_application 37 = .ok (.invokevirtual 93, 3) := by decide +kernel
theorem dX7_application_40 : decode cX7_application 40 = .ok (.goto 5, 3) := by decide +kernel
theorem dX7_application_43 : decode cX7_application 43 = .ok (.bipush (-2), 2) := by decide +kernel
theorem dX7_application_45 : decode cX7_application 45 = .ok (.ireturn, 1) := by decide +kernel
set_option maxRecDepth 20000 in
theorem ggX7_allOf_X7_of : GoodIn wsX7_allOf wsX7_of := goodIn_r _ [6, 1, 7, 8, 9, 10, 11, 12, 13, 14, 15, 16, 17, 18] rfl (by decide +kernel)
set_option maxRecDepth 20000 in
theorem gX7_allOf_X7_of : GoodIn wsX7_allOf (wsV RX7 66 RX7 yX7_of wsX7_of) := goodIn_app (goodIn_of _ (by decide +kernel)) ggX7_allOf_X7_of
theorem dX7_allOf_0 : decode cX7_allOf 0 = .ok (.iconst 0, 1) := by decide +kernel
theorem dX7_allOf_1 : decode cX7_allOf 1 = .ok (.istore_n 2, 1) := by decide +kernel
theorem dX7_allOf_2 : decode cX7_allOf 2 = .ok (.iconst 0, 1) := by decide +kernel
theorem dX7_allOf_3 : decode cX7_allOf 3 = .ok (.istore_n 3, 1) := by decide +kernel
theorem dX7_allOf_4 : decode cX7_allOf 4 = .ok (.iload_n 3, 1) := by decide +kernel
theorem dX7_allOf_5 : decode cX7_allOf 5 = .ok (.aload_n 0, 1) := by decide +kernel
theorem dX7_allOf_6 : decode cX7_allOf 6 = .ok (.getfield 7, 3) := by decide +kernel
theorem dX7_allOf_9 : decode cX7_allOf 9 = .ok (.iconst 3, 1) := by decide +kernel
theorem dX7_allOf_10 : decode cX7_allOf 10 = .ok (.iaload, 1) := by decide +kernel
theorem dX7_allOf_11 : decode cX7_allOf 11 = .ok (.if_icmp .ge 60, 3) := by decide +kernel
theorem dX7_allOf_14 : decode cX7_allOf 14 = .ok (.iload_n 2, 1) := by decide +kernel
theorem dX7_allOf_15 : decode cX7_allOf 15 = .ok (.iload_n 1, 1) := by decide +kernel
theorem dX7_allOf_16 : decode cX7_allOf 16 = .ok (.bipush 11, 2) := by decide +kernel
theorem dX7_allOf_18 : decode cX7_allOf 18 = .ok (.if_icmp .ne 12, 3) := by decide +kernel
theorem dX7_allOf_21 : decode cX7_allOf 21 = .ok (.aload_n 0, 1) := by decide +kernel
theorem dX7_allOf_22 : decode cX7_allOf 22 = .ok (.iload_n 3, 1) := by decide +kernel
theorem dX7_allOf_23 : decode cX7_allOf 23 = .ok (.iconst 5, 1) := by decide +kernel
theorem dX7_allOf_24 : decode cX7_allOf 24 = .ok (.invokevirtual 66, 3) := by decide +kernel
theorem dX7_allOf_27 : decode cX7_allOf 27 = .ok (.goto 36, 3) := by decide +kernel
theorem dX7_allOf_30 : decode cX7_allOf 30 = .ok (.iload_n 1, 1) := by decide +kernel
theorem dX7_allOf_31 : decode cX7_allOf 31 = .ok (.bipush 12, 2) := by decide +kernel
theorem dX7_allOf_33 : decode cX7_allOf 33 = .ok (.if_icmp .ne 13, 3) := by decide +kernel
theorem dX7_allOf_36 : decode cX7_allOf 36 = .ok (.aload_n 0, 1) := by decide +kernel
theorem dX7_allOf_37 : decode cX7_allOf 37 = .ok (.iload_n 3, 1) := by decide +kernel
theorem dX7_allOf_38 : decode cX7_allOf 38 = .ok (.bipush 6, 2) := by decide +kernel
theorem dX7_allOf_40 : decode cX7_allOf 40 = .ok (.invokevirtual 66, 3) := by decide +kernel
theorem dX7_allOf_43 : decode cX7_allOf 43 = .ok (.goto 20, 3) := by decide +kernel
theorem dX7_allOf_46 : decode cX7_allOf 46 = .ok (.aload_n 0, 1) := by decide +kernel
theorem dX7_allOf_47 : decode cX7_allOf 47 = .ok (.iload_n 3, 1) := by decide +kernel
theorem dX7_allOf_48 : decode cX7_allOf 48 = .ok (.iconst 4, 1) := by decide +kernel
theorem dX7_allOf_49 : decode cX7_allOf 49 = .ok (.invokevirtual 66, 3) := by decide +kernel
theorem dX7_allOf_52 : decode cX7_allOf 52 = .ok (.iload_n 1, 1) := by decide +kernel
theorem dX7_allOf_53 : decode cX7_allOf 53 = .ok (.iconst 4, 1) := by decide +kernel
theorem dX7_allOf_54 : decode cX7_allOf 54 = .ok (.isub, 1) := by decide +kernel
theorem dX7_allOf_55 : decode cX7_allOf 55 = .ok (.if_icmp .ne 7, 3) := by decide +kernel
theorem dX7_allOf_58 : decode cX7_allOf 58 = .ok (.iconst 1, 1) := by decide +kernel
theorem dX7_allOf_59 : decode cX7_allOf 59 = .ok (.goto 4, 3) := by decide +kernel
theorem dX7_allOf_62 : decode cX7_allOf 62 = .ok (.iconst 0, 1) := by decide +kernel
theorem dX7_allOf_63 : decode cX7_allOf 63 = .ok (.iadd, 1) := by decide +kernel
theorem dX7_allOf_64 : decode cX7_allOf 64 = .ok (.istore_n 2, 1) := by decide +kernel
theorem dX7_allOf_65 : decode cX7_allOf 65 = .ok (.iinc 3 1, 3) := by decide +kernel
theorem dX7_allOf_68 : decode cX7_allOf 68 = .ok (.goto (-64), 3) := by decide +kernel
theorem dX7_allOf_71 : decode cX7_allOf 71 = .ok (.iload_n 2, 1) := by decide +kernel
theorem dX7_allOf_72 : decode cX7_allOf 72 = .ok (.ireturn, 1) := by decide +kernel
theorem dX7_closedDays_0 : decode cX7_closedDays 0 = .ok (.iconst 0, 1) := by decide +kernel
theorem dX7_closedDays_1 : decode cX7_closedDays 1 = .ok (.istore_n 1, 1) := by decide +kernel
theorem dX7_closedDays_2 : decode cX7_closedDays 2 = .ok (.iconst 0, 1) := by decide +kernel
theorem dX7_closedDays_3 : decode cX7_closedDays 3 = .ok (.istore_n 2, 1) := by decide +kernel
theorem dX7_closedDays_4 : decode cX7_closedDays 4 = .ok (.iload_n 2, 1) := by decide +kernel
theorem dX7_closedDays_5 : decode cX7_closedDays 5 = .ok (.bipush 60, 2) := by decide +kernel
theorem dX7_closedDays_7 : decode cX7_closedDays 7 = .ok (.if_icmp .ge 21, 3) := by decide +kernel
theorem dX7_closedDays_10 : decode cX7_closedDays 10 = .ok (.iload_n 1, 1) := by decide +kernel
theorem dX7_closedDays_11 : decode cX7_closedDays 11 = .ok (.aload_n 0, 1) := by decide +kernel
theorem dX7_closedDays_12 : decode cX7_closedDays 12 = .ok (.getfield 7, 3) := by decide +kernel
theorem dX7_closedDays_15 : decode cX7_closedDays 15 = .ok (.bipush 22, 2) := by decide +kernel
theorem dX7_closedDays_17 : decode cX7_closedDays 17 = .ok (.iload_n 2, 1) := by decide +kernel
theorem dX7_closedDays_18 : decode cX7_closedDays 18 = .ok (.iadd, 1) := by decide +kernel
theorem dX7_closedDays_19 : decode cX7_closedDays 19 = .ok (.iaload, 1) := by decide +kernel
theorem dX7_closedDays_20 : decode cX7_closedDays 20 = .ok (.iadd, 1) := by decide +kernel
theorem dX7_closedDays_21 : decode cX7_closedDays 21 = .ok (.istore_n 1, 1) := by decide +kernel
theorem dX7_closedDays_22 : decode cX7_closedDays 22 = .ok (.iinc 2 1, 3) := by decide +kernel
theorem dX7_closedDays_25 : decode cX7_closedDays 25 = .ok (.goto (-21), 3) := by decide +kernel
theorem dX7_closedDays_28 : decode cX7_closedDays 28 = .ok (.iload_n 1, 1) := by decide +kernel
theorem dX7_closedDays_29 : decode cX7_closedDays 29 = .ok (.ireturn, 1) := by decide +kernel
set_option maxRecDepth 20000 in
theorem ggX7_count_X7_in : GoodIn wsX7_count wsX7_in := goodIn_r _ [6] rfl (by decide +kernel)
set_option maxRecDepth 20000 in
theorem gX7_count_X7_in : GoodIn wsX7_count (va_wsS RX7 35 yX7_in wsX7_in) := goodIn_app (goodIn_of _ (by decide +kernel)) ggX7_count_X7_in
set_option maxRecDepth 20000 in
theorem ggX7_count_X7_allOf : GoodIn wsX7_count wsX7_allOf := goodIn_r _ [10, 1, 11, 12, 13, 5, 14, 23, 24, 25, 26, 27, 28, 29, 30, 31, 32, 33, 34] rfl (by decide +kernel)
set_option maxRecDepth 20000 in
theorem gX7_count_X7_allOf : GoodIn wsX7_count (wsV RX7 153 RX7 yX7_allOf wsX7_allOf) := goodIn_app (goodIn_of _ (by decide +kernel)) ggX7_count_X7_allOf
set_option maxRecDepth 20000 in
theorem ggX7_count_X7_setting : GoodIn wsX7_count wsX7_setting := goodIn_r _ [18, 1, 23, 24, 25, 26, 27, 28, 29, 30, 31, 32, 33, 34] rfl (by decide +kernel)
set_option maxRecDepth 20000 in
theorem gX7_count_X7_setting : GoodIn wsX7_count (wsV RX7 63 RX7 yX7_setting wsX7_setting) := goodIn_app (goodIn_of _ (by decide +kernel)) ggX7_count_X7_setting
set_option maxRecDepth 20000 in
theorem ggX7_count_X7_closedDays : GoodIn wsX7_count wsX7_closedDays := goodIn_r _ [22, 1, 23, 24, 25, 26, 27, 28, 29, 30, 31, 32, 33, 34] rfl (by decide +kernel)
set_option maxRecDepth 20000 in
theorem gX7_count_X7_closedDays : GoodIn wsX7_count (wsV RX7 156 RX7 yX7_closedDays wsX7_closedDays) := goodIn_app (goodIn_of _ (by decide +kernel)) ggX7_count_X7_closedDays
theorem dX7_count_0 : decode cX7_count 0 = .ok (.iload_n 1, 1) := by decide +kernel
theorem dX7_count_1 : decode cX7_count 1 = .ok (.iconst 0, 1) := by decide +kernel
theorem dX7_count_2 : decode cX7_count 2 = .ok (.iconst 3, 1) := by decide +kernel
theorem dX7_count_3 : decode cX7_count 3 = .ok (.invokestatic 35, 3) := by decide +kernel
theorem dX7_count_6 : decode cX7_count 6 = .ok (.ifCond .eq 10, 3) := by decide +kernel
theorem dX7_count_9 : decode cX7_count 9 = .ok (.aload_n 0, 1) := by decide +kernel
theorem dX7_count_10 : decode cX7_count 10 = .ok (.getfield 7, 3) := by decide +kernel
theorem dX7_count_13 : decode cX7_count 13 = .ok (.iload_n 1, 1) := by decide +kernel
theorem dX7_count_14 : decode cX7_count 14 = .ok (.iaload, 1) := by decide +kernel
theorem dX7_count_15 : decode cX7_count 15 = .ok (.ireturn, 1) := by decide +kernel
theorem dX7_count_16 : decode cX7_count 16 = .ok (.iload_n 1, 1) := by decide +kernel
theorem dX7_count_17 : decode cX7_count 17 = .ok (.iconst 4, 1) := by decide +kernel
theorem dX7_count_18 : decode cX7_count 18 = .ok (.bipush 12, 2) := by decide +kernel
theorem dX7_count_20 : decode cX7_count 20 = .ok (.invokestatic 35, 3) := by decide +kernel
theorem dX7_count_23 : decode cX7_count 23 = .ok (.ifCond .eq 9, 3) := by decide +kernel
theorem dX7_count_26 : decode cX7_count 26 = .ok (.aload_n 0, 1) := by decide +kernel
theorem dX7_count_27 : decode cX7_count 27 = .ok (.iload_n 1, 1) := by decide +kernel
theorem dX7_count_28 : decode cX7_count 28 = .ok (.invokevirtual 153, 3) := by decide +kernel
theorem dX7_count_31 : decode cX7_count 31 = .ok (.ireturn, 1) := by decide +kernel
theorem dX7_count_32 : decode cX7_count 32 = .ok (.iload_n 1, 1) := by decide +kernel
theorem dX7_count_33 : decode cX7_count 33 = .ok (.bipush 15, 2) := by decide +kernel
theorem dX7_count_35 : decode cX7_count 35 = .ok (.bipush 20, 2) := by decide +kernel
theorem dX7_count_37 : decode cX7_count 37 = .ok (.invokestatic 35, 3) := by decide +kernel
theorem dX7_count_40 : decode cX7_count 40 = .ok (.ifCond .eq 12, 3) := by decide +kernel
theorem dX7_count_43 : decode cX7_count 43 = .ok (.aload_n 0, 1) := by decide +kernel
theorem dX7_count_44 : decode cX7_count 44 = .ok (.iload_n 1, 1) := by decide +kernel
theorem dX7_count_45 : decode cX7_count 45 = .ok (.bipush 15, 2) := by decide +kernel
theorem dX7_count_47 : decode cX7_count 47 = .ok (.isub, 1) := by decide +kernel
theorem dX7_count_48 : decode cX7_count 48 = .ok (.invokevirtual 63, 3) := by decide +kernel
theorem dX7_count_51 : decode cX7_count 51 = .ok (.ireturn, 1) := by decide +kernel
theorem dX7_count_52 : decode cX7_count 52 = .ok (.iload_n 1, 1) := by decide +kernel
theorem dX7_count_53 : decode cX7_count 53 = .ok (.bipush 13, 2) := by decide +kernel
theorem dX7_count_55 : decode cX7_count 55 = .ok (.if_icmp .ne 10, 3) := by decide +kernel
theorem dX7_count_58 : decode cX7_count 58 = .ok (.aload_n 0, 1) := by decide +kernel
theorem dX7_count_59 : decode cX7_count 59 = .ok (.invokevirtual 156, 3) := by decide +kernel
theorem dX7_count_62 : decode cX7_count 62 = .ok (.goto 18, 3) := by decide +kernel
theorem dX7_count_65 : decode cX7_count 65 = .ok (.iload_n 1, 1) := by decide +kernel
theorem dX7_count_66 : decode cX7_count 66 = .ok (.bipush 14, 2) := by decide +kernel
theorem dX7_count_68 : decode cX7_count 68 = .ok (.if_icmp .ne 10, 3) := by decide +kernel
theorem dX7_count_71 : decode cX7_count 71 = .ok (.aload_n 0, 1) := by decide +kernel
theorem dX7_count_72 : decode cX7_count 72 = .ok (.getfield 159, 3) := by decide +kernel
theorem dX7_count_75 : decode cX7_count 75 = .ok (.goto 5, 3) := by decide +kernel
theorem dX7_count_78 : decode cX7_count 78 = .ok (.bipush (-2), 2) := by decide +kernel
theorem dX7_count_80 : decode cX7_count 80 = .ok (.ireturn, 1) := by decide +kernel
set_option maxRecDepth 20000 in
theorem ggX7_nextWaiting_X7_isRoute : GoodIn wsX7_nextWaiting wsX7_isRoute := goodIn_r _ [6, 1, 7, 8, 5, 9, 53, 54, 55, 56, 57, 58, 59, 60, 61, 62, 63, 64] rfl (by decide +kernel)
set_option maxRecDepth 20000 in
theorem gX7_nextWaiting_X7_isRoute : GoodIn wsX7_nextWaiting (wsV RX7 43 RX7 yX7_isRoute wsX7_isRoute) := goodIn_app (goodIn_of _ (by decide +kernel)) ggX7_nextWaiting_X7_isRoute
set_option maxRecDepth 20000 in
theorem ggX7_nextWaiting_X7_isDay : GoodIn wsX7_nextWaiting wsX7_isDay := goodIn_r _ [12, 7, 8, 5, 9] rfl (by decide +kernel)
set_option maxRecDepth 20000 in
theorem gX7_nextWaiting_X7_isDay : GoodIn wsX7_nextWaiting (va_wsS RX7 81 yX7_isDay wsX7_isDay) := goodIn_app (goodIn_of _ (by decide +kernel)) ggX7_nextWaiting_X7_isDay
set_option maxRecDepth 20000 in
theorem ggX7_nextWaiting_X7_left : GoodIn wsX7_nextWaiting wsX7_left := goodIn_r _ [16, 17, 18, 19, 5, 20, 1, 21, 22, 23, 24, 25, 26, 27, 28, 29, 30, 31, 32, 33, 34, 35, 36, 53, 54, 55, 56, 57, 58, 59, 60, 61, 62, 63, 64] rfl (by decide +kernel)
set_option maxRecDepth 20000 in
theorem gX7_nextWaiting_X7_left : GoodIn wsX7_nextWaiting (wsV RX7 109 RX7 yX7_left wsX7_left) := goodIn_app (goodIn_of _ (by decide +kernel)) ggX7_nextWaiting_X7_left
set_option maxRecDepth 20000 in
theorem ggX7_nextWaiting_X7_firstWaiting : GoodIn wsX7_nextWaiting wsX7_firstWaiting := goodIn_r _ [40, 1, 29, 30, 31, 5, 32, 41, 42, 43, 44, 33, 34, 35, 36, 45, 46, 47, 48, 49, 50, 51, 52, 53, 54, 55, 56, 57, 58, 59, 60, 61, 62, 63, 64] rfl (by decide +kernel)
set_option maxRecDepth 20000 in
theorem gX7_nextWaiting_X7_firstWaiting : GoodIn wsX7_nextWaiting (wsV RX7 125 RX7 yX7_firstWaiting wsX7_firstWaiting) := goodIn_app (goodIn_of _ (by decide +kernel)) ggX7_nextWaiting_X7_firstWaiting
theorem dX7_nextWaiting_0 : decode cX7_nextWaiting 0 = .ok (.aload_n 0, 1) := by decide +kernel
theorem dX7_nextWaiting_1 : decode cX7_nextWaiting 1 = .ok (.iload_n 1, 1) := by decide +kernel
theorem dX7_nextWaiting_2 : decode cX7_nextWaiting 2 = .ok (.invokevirtual 43, 3) := by decide +kernel
theorem dX7_nextWaiting_5 : decode cX7_nextWaiting 5 = .ok (.ifCond .eq 10, 3) := by decide +kernel
theorem dX7_nextWaiting_8 : decode cX7_nextWaiting 8 = .ok (.iload_n 2, 1) := by decide +kernel
theorem dX7_nextWaiting_9 : decode cX7_nextWaiting 9 = .ok (.invokestatic 81, 3) := by decide +kernel
theorem dX7_nextWaiting_12 : decode cX7_nextWaiting 12 = .ok (.ifCond .ne 5, 3) := by decide +kernel
theorem dX7_nextWaiting_15 : decode cX7_nextWaiting 15 = .ok (.iconst (-1), 1) := by decide +kernel
theorem dX7_nextWaiting_16 : decode cX7_nextWaiting 16 = .ok (.ireturn, 1) := by decide +kernel
theorem dX7_nextWaiting_17 : decode cX7_nextWaiting 17 = .ok (.iload_n 2, 1) := by decide +kernel
theorem dX7_nextWaiting_18 : decode cX7_nextWaiting 18 = .ok (.aload_n 0, 1) := by decide +kernel
theorem dX7_nextWaiting_19 : decode cX7_nextWaiting 19 = .ok (.getfield 7, 3) := by decide +kernel
theorem dX7_nextWaiting_22 : decode cX7_nextWaiting 22 = .ok (.iconst 0, 1) := by decide +kernel
theorem dX7_nextWaiting_23 : decode cX7_nextWaiting 23 = .ok (.iaload, 1) := by decide +kernel
theorem dX7_nextWaiting_24 : decode cX7_nextWaiting 24 = .ok (.if_icmp .ge 8, 3) := by decide +kernel
theorem dX7_nextWaiting_27 : decode cX7_nextWaiting 27 = .ok (.bipush (-6), 2) := by decide +kernel
theorem dX7_nextWaiting_29 : decode cX7_nextWaiting 29 = .ok (.goto 17, 3) := by decide +kernel
theorem dX7_nextWaiting_32 : decode cX7_nextWaiting 32 = .ok (.aload_n 0, 1) := by decide +kernel
theorem dX7_nextWaiting_33 : decode cX7_nextWaiting 33 = .ok (.iload_n 1, 1) := by decide +kernel
theorem dX7_nextWaiting_34 : decode cX7_nextWaiting 34 = .ok (.iload_n 2, 1) := by decide +kernel
theorem dX7_nextWaiting_35 : decode cX7_nextWaiting 35 = .ok (.aload_n 0, 1) := by decide +kernel
theorem dX7_nextWaiting_36 : decode cX7_nextWaiting 36 = .ok (.iload_n 1, 1) := by decide +kernel
theorem dX7_nextWaiting_37 : decode cX7_nextWaiting 37 = .ok (.iload_n 2, 1) := by decide +kernel
theorem dX7_nextWaiting_38 : decode cX7_nextWaiting 38 = .ok (.invokevirtual 109, 3) := by decide +kernel
theorem dX7_nextWaiting_41 : decode cX7_nextWaiting 41 = .ok (.iconst 1, 1) := by decide +kernel
theorem dX7_nextWaiting_42 : decode cX7_nextWaiting 42 = .ok (.iadd, 1) := by decide +kernel
theorem dX7_nextWaiting_43 : decode cX7_nextWaiting 43 = .ok (.invokevirtual 125, 3) := by decide +kernel
theorem dX7_nextWaiting_46 : decode cX7_nextWaiting 46 = .ok (.ireturn, 1) := by decide +kernel
theorem dX7_putAside_0 : decode cX7_putAside 0 = .ok (.iconst 0, 1) := by decide +kernel
theorem dX7_putAside_1 : decode cX7_putAside 1 = .ok (.istore_n 1, 1) := by decide +kernel
theorem dX7_putAside_2 : decode cX7_putAside 2 = .ok (.iload_n 1, 1) := by decide +kernel
theorem dX7_putAside_3 : decode cX7_putAside 3 = .ok (.sipush 478, 3) := by decide +kernel
theorem dX7_putAside_6 : decode cX7_putAside 6 = .ok (.if_icmp .ge 21, 3) := by decide +kernel
theorem dX7_putAside_9 : decode cX7_putAside 9 = .ok (.aload_n 0, 1) := by decide +kernel
theorem dX7_putAside_10 : decode cX7_putAside 10 = .ok (.getfield 13, 3) := by decide +kernel
theorem dX7_putAside_13 : decode cX7_putAside 13 = .ok (.iload_n 1, 1) := by decide +kernel
theorem dX7_putAside_14 : decode cX7_putAside 14 = .ok (.aload_n 0, 1) := by decide +kernel
theorem dX7_putAside_15 : decode cX7_putAside 15 = .ok (.getfield 7, 3) := by decide +kernel
theorem dX7_putAside_18 : decode cX7_putAside 18 = .ok (.iload_n 1, 1) := by decide +kernel
theorem dX7_putAside_19 : decode cX7_putAside 19 = .ok (.iaload, 1) := by decide +kernel
theorem dX7_putAside_20 : decode cX7_putAside 20 = .ok (.iastore, 1) := by decide +kernel
theorem dX7_putAside_21 : decode cX7_putAside 21 = .ok (.iinc 1 1, 3) := by decide +kernel
theorem dX7_putAside_24 : decode cX7_putAside 24 = .ok (.goto (-22), 3) := by decide +kernel
theorem dX7_putAside_27 : decode cX7_putAside 27 = .ok (.return_, 1) := by decide +kernel
theorem dX7_putBack_0 : decode cX7_putBack 0 = .ok (.iconst 0, 1) := by decide +kernel
theorem dX7_putBack_1 : decode cX7_putBack 1 = .ok (.istore_n 1, 1) := by decide +kernel
theorem dX7_putBack_2 : decode cX7_putBack 2 = .ok (.iload_n 1, 1) := by decide +kernel
theorem dX7_putBack_3 : decode cX7_putBack 3 = .ok (.sipush 478, 3) := by decide +kernel
theorem dX7_putBack_6 : decode cX7_putBack 6 = .ok (.if_icmp .ge 21, 3) := by decide +kernel
theorem dX7_putBack_9 : decode cX7_putBack 9 = .ok (.aload_n 0, 1) := by decide +kernel
theorem dX7_putBack_10 : decode cX7_putBack 10 = .ok (.getfield 7, 3) := by decide +kernel
theorem dX7_putBack_13 : decode cX7_putBack 13 = .ok (.iload_n 1, 1) := by decide +kernel
theorem dX7_putBack_14 : decode cX7_putBack 14 = .ok (.aload_n 0, 1) := by decide +kernel
theorem dX7_putBack_15 : decode cX7_putBack 15 = .ok (.getfield 13, 3) := by decide +kernel
theorem dX7_putBack_18 : decode cX7_putBack 18 = .ok (.iload_n 1, 1) := by decide +kernel
theorem dX7_putBack_19 : decode cX7_putBack 19 = .ok (.iaload, 1) := by decide +kernel
theorem dX7_putBack_20 : decode cX7_putBack 20 = .ok (.iastore, 1) := by decide +kernel
theorem dX7_putBack_21 : decode cX7_putBack 21 = .ok (.iinc 1 1, 3) := by decide +kernel
theorem dX7_putBack_24 : decode cX7_putBack 24 = .ok (.goto (-22), 3) := by decide +kernel
theorem dX7_putBack_27 : decode cX7_putBack 27 = .ok (.return_, 1) := by decide +kernel
set_option maxRecDepth 20000 in
theorem ggX7_odds_X7_isApplication : GoodIn wsX7_odds wsX7_isApplication := goodIn_r _ [7, 1, 8, 9, 6, 10, 35, 36, 37, 38, 39, 40, 41, 42, 43, 44, 45, 46] rfl (by decide +kernel)
set_option maxRecDepth 20000 in
theorem gX7_odds_X7_isApplication : GoodIn wsX7_odds (wsV RX7 128 RX7 yX7_isApplication wsX7_isApplication) := goodIn_app (goodIn_of _ (by decide +kernel)) ggX7_odds_X7_isApplication
set_option maxRecDepth 20000 in
theorem ggX7_odds_X7_of : GoodIn wsX7_odds wsX7_of := goodIn_r _ [14, 1, 35, 36, 37, 38, 39, 40, 41, 42, 43, 44, 45, 46] rfl (by decide +kernel)
set_option maxRecDepth 20000 in
theorem gX7_odds_X7_of : GoodIn wsX7_odds (wsV RX7 66 RX7 yX7_of wsX7_of) := goodIn_app (goodIn_of _ (by decide +kernel)) ggX7_odds_X7_of
set_option maxRecDepth 20000 in
theorem ggX7_odds_X7_isBarred : GoodIn wsX7_odds wsX7_isBarred := goodIn_r _ [18, 19, 20, 21, 6, 22, 1, 35, 36, 37, 38, 39, 40, 41, 42, 43, 44, 45, 46] rfl (by decide +kernel)
set_option maxRecDepth 20000 in
theorem gX7_odds_X7_isBarred : GoodIn wsX7_odds (wsV RX7 90 RX7 yX7_isBarred wsX7_isBarred) := goodIn_app (goodIn_of _ (by decide +kernel)) ggX7_odds_X7_isBarred
set_option maxRecDepth 20000 in
theorem ggX7_odds_X7_isOn : GoodIn wsX7_odds wsX7_isOn := goodIn_r _ [26, 11, 12, 13, 6, 14, 1, 35, 36, 37, 38, 39, 40, 41, 42, 43, 44, 45, 46] rfl (by decide +kernel)
set_option maxRecDepth 20000 in
theorem gX7_odds_X7_isOn : GoodIn wsX7_odds (wsV RX7 69 RX7 yX7_isOn wsX7_isOn) := goodIn_app (goodIn_of _ (by decide +kernel)) ggX7_odds_X7_isOn
set_option maxRecDepth 20000 in
theorem ggX7_odds_X7_ticketsOf : GoodIn wsX7_odds wsX7_ticketsOf := goodIn_r _ [30, 31, 32, 33, 6, 34, 1, 11, 12, 13, 14, 19, 20, 21, 22, 35, 36, 37, 38, 39, 40, 41, 42, 43, 44, 45, 46] rfl (by decide +kernel)
set_option maxRecDepth 20000 in
theorem gX7_odds_X7_ticketsOf : GoodIn wsX7_odds (wsV RX7 93 RX7 yX7_ticketsOf wsX7_ticketsOf) := goodIn_app (goodIn_of _ (by decide +kernel)) ggX7_odds_X7_ticketsOf
theorem dX7_odds_0 : decode cX7_odds 0 = .ok (.aload_n 0, 1) := by decide +kernel
theorem dX7_odds_1 : decode cX7_odds 1 = .ok (.iload_n 1, 1) := by decide +kernel
theorem dX7_odds_2 : decode cX7_odds 2 = .ok (.invokevirtual 128, 3) := by decide +kernel
theorem dX7_odds_5 : decode cX7_odds 5 = .ok (.ifCond .ne 5, 3) := by decide +kernel
theorem dX7_odds_8 : decode cX7_odds 8 = .ok (.iconst (-1), 1) := by decide +kernel
theorem dX7_odds_9 : decode cX7_odds 9 = .ok (.ireturn, 1) := by decide +kernel
theorem dX7_odds_10 : decode cX7_odds 10 = .ok (.aload_n 0, 1) := by decide +kernel
theorem dX7_odds_11 : decode cX7_odds 11 = .ok (.iload_n 1, 1) := by decide +kernel
theorem dX7_odds_12 : decode cX7_odds 12 = .ok (.iconst 2, 1) := by decide +kernel
theorem dX7_odds_13 : decode cX7_odds 13 = .ok (.invokevirtual 66, 3) := by decide +kernel
theorem dX7_odds_16 : decode cX7_odds 16 = .ok (.istore_n 2, 1) := by decide +kernel
theorem dX7_odds_17 : decode cX7_odds 17 = .ok (.aload_n 0, 1) := by decide +kernel
theorem dX7_odds_18 : decode cX7_odds 18 = .ok (.iload_n 1, 1) := by decide +kernel
theorem dX7_odds_19 : decode cX7_odds 19 = .ok (.iconst 4, 1) := by decide +kernel
theorem dX7_odds_20 : decode cX7_odds 20 = .ok (.invokevirtual 66, 3) := by decide +kernel
theorem dX7_odds_23 : decode cX7_odds 23 = .ok (.ifCond .ne 17, 3) := by decide +kernel
theorem dX7_odds_26 : decode cX7_odds 26 = .ok (.aload_n 0, 1) := by decide +kernel
theorem dX7_odds_27 : decode cX7_odds 27 = .ok (.aload_n 0, 1) := by decide +kernel
theorem dX7_odds_28 : decode cX7_odds 28 = .ok (.iload_n 1, 1) := by decide +kernel
theorem dX7_odds_29 : decode cX7_odds 29 = .ok (.iconst 0, 1) := by decide +kernel
theorem dX7_odds_30 : decode cX7_odds 30 = .ok (.invokevirtual 66, 3) := by decide +kernel
theorem dX7_odds_33 : decode cX7_odds 33 = .ok (.iload_n 2, 1) := by decide +kernel
theorem dX7_odds_34 : decode cX7_odds 34 = .ok (.invokevirtual 90, 3) := by decide +kernel
theorem dX7_odds_37 : decode cX7_odds 37 = .ok (.ifCond .eq 6, 3) := by decide +kernel
theorem dX7_odds_40 : decode cX7_odds 40 = .ok (.bipush (-5), 2) := by decide +kernel
theorem dX7_odds_42 : decode cX7_odds 42 = .ok (.ireturn, 1) := by decide +kernel
theorem dX7_odds_43 : decode cX7_odds 43 = .ok (.iconst 0, 1) := by decide +kernel
theorem dX7_odds_44 : decode cX7_odds 44 = .ok (.istore_n 3, 1) := by decide +kernel
theorem dX7_odds_45 : decode cX7_odds 45 = .ok (.iconst 0, 1) := by decide +kernel
theorem dX7_odds_46 : decode cX7_odds 46 = .ok (.istore 4, 2) := by decide +kernel
theorem dX7_odds_48 : decode cX7_odds 48 = .ok (.iload 4, 2) := by decide +kernel
theorem dX7_odds_50 : decode cX7_odds 50 = .ok (.aload_n 0, 1) := by decide +kernel
theorem dX7_odds_51 : decode cX7_odds 51 = .ok (.getfield 7, 3) := by decide +kernel
theorem dX7_odds_54 : decode cX7_odds 54 = .ok (.iconst 3, 1) := by decide +kernel
theorem dX7_odds_55 : decode cX7_odds 55 = .ok (.iaload, 1) := by decide +kernel
theorem dX7_odds_56 : decode cX7_odds 56 = .ok (.if_icmp .ge 75, 3) := by decide +kernel
theorem dX7_odds_59 : decode cX7_odds 59 = .ok (.aload_n 0, 1) := by decide +kernel
theorem dX7_odds_60 : decode cX7_odds 60 = .ok (.iload 4, 2) := by decide +kernel
theorem dX7_odds_62 : decode cX7_odds 62 = .ok (.aload_n 0, 1) := by decide +kernel
theorem dX7_odds_63 : decode cX7_odds 63 = .ok (.iload_n 1, 1) := by decide +kernel
theorem dX7_odds_64 : decode cX7_odds 64 = .ok (.iconst 1, 1) := by decide +kernel
theorem dX7_odds_65 : decode cX7_odds 65 = .ok (.invokevirtual 66, 3) := by decide +kernel
theorem dX7_odds_68 : decode cX7_odds 68 = .ok (.iload_n 2, 1) := by decide +kernel
theorem dX7_odds_69 : decode cX7_odds 69 = .ok (.invokevirtual 69, 3) := by decide +kernel
theorem dX7_odds_72 : decode cX7_odds 72 = .ok (.ifCond .eq 32, 3) := by decide +kernel
theorem dX7_odds_75 : decode cX7_odds 75 = .ok (.aload_n 0, 1) := by decide +kernel
theorem dX7_odds_76 : decode cX7_odds 76 = .ok (.iload 4, 2) := by decide +kernel
theorem dX7_odds_78 : decode cX7_odds 78 = .ok (.iconst 4, 1) := by decide +kernel
theorem dX7_odds_79 : decode cX7_odds 79 = .ok (.invokevirtual 66, 3) := by decide +kernel
theorem dX7_odds_82 : decode cX7_odds 82 = .ok (.ifCond .ne 22, 3) := by decide +kernel
theorem dX7_odds_85 : decode cX7_odds 85 = .ok (.aload_n 0, 1) := by decide +kernel
theorem dX7_odds_86 : decode cX7_odds 86 = .ok (.aload_n 0, 1) := by decide +kernel
theorem dX7_odds_87 : decode cX7_odds 87 = .ok (.iload 4, 2) := by decide +kernel
theorem dX7_odds_89 : decode cX7_odds 89 = .ok (.iconst 0, 1) := by decide +kernel
theorem dX7_odds_90 : decode cX7_odds 90 = .ok (.invokevirtual 66, 3) := by decide +kernel
theorem dX7_odds_93 : decode cX7_odds 93 = .ok (.iload_n 2, 1) := by decide +kernel
theorem dX7_odds_94 : decode cX7_odds 94 = .ok (.invokevirtual 90, 3) := by decide +kernel
theorem dX7_odds_97 : decode cX7_odds 97 = .ok (.ifCond .ne 7, 3) := by decide +kernel
theorem dX7_odds_100 : decode cX7_odds 100 = .ok (.iconst 1, 1) := by decide +kernel
theorem dX7_odds_101 : decode cX7_odds 101 = .ok (.goto 4, 3) := by decide +kernel
theorem dX7_odds_104 : decode cX7_odds 104 = .ok (.iconst 0, 1) := by decide +kernel
theorem dX7_odds_105 : decode cX7_odds 105 = .ok (.istore 5, 2) := by decide +kernel
theorem dX7_odds_107 : decode cX7_odds 107 = .ok (.iload_n 3, 1) := by decide +kernel
theorem dX7_odds_108 : decode cX7_odds 108 = .ok (.iload 5, 2) := by decide +kernel
theorem dX7_odds_110 : decode cX7_odds 110 = .ok (.ifCond .eq 12, 3) := by decide +kernel
theorem dX7_odds_113 : decode cX7_odds 113 = .ok (.aload_n 0, 1) := by decide +kernel
theorem dX7_odds_114 : decode cX7_odds 114 = .ok (.iload 4, 2) := by decide +kernel
theorem dX7_odds_116 : decode cX7_odds 116 = .ok (.invokevirtual 93, 3) := by decide +kernel
theorem dX7_odds_119 : decode cX7_odds 119 = .ok (.goto 4, 3) := by decide +kernel
theorem dX7_odds_122 : decode cX7_odds 122 = .ok (.iconst 0, 1) := by decide +kernel
theorem dX7_odds_123 : decode cX7_odds 123 = .ok (.iadd, 1) := by decide +kernel
theorem dX7_odds_124 : decode cX7_odds 124 = .ok (.istore_n 3, 1) := by decide +kernel
theorem dX7_odds_125 : decode cX7_odds 125 = .ok (.iinc 4 1, 3) := by decide +kernel
theorem dX7_odds_128 : decode cX7_odds 128 = .ok (.goto (-80), 3) := by decide +kernel
theorem dX7_odds_131 : decode cX7_odds 131 = .ok (.ldc2_w 163, 3) := by decide +kernel
theorem dX7_odds_134 : decode cX7_odds 134 = .ok (.aload_n 0, 1) := by decide +kernel
theorem dX7_odds_135 : decode cX7_odds 135 = .ok (.iload_n 1, 1) := by decide +kernel
theorem dX7_odds_136 : decode cX7_odds 136 = .ok (.invokevirtual 93, 3) := by decide +kernel
theorem dX7_odds_139 : decode cX7_odds 139 = .ok (.i2l, 1) := by decide +kernel
theorem dX7_odds_140 : decode cX7_odds 140 = .ok (.lmul, 1) := by decide +kernel
theorem dX7_odds_141 : decode cX7_odds 141 = .ok (.iload_n 3, 1) := by decide +kernel
theorem dX7_odds_142 : decode cX7_odds 142 = .ok (.i2l, 1) := by decide +kernel
theorem dX7_odds_143 : decode cX7_odds 143 = .ok (.ldiv, 1) := by decide +kernel
theorem dX7_odds_144 : decode cX7_odds 144 = .ok (.l2i, 1) := by decide +kernel
theorem dX7_odds_145 : decode cX7_odds 145 = .ok (.ireturn, 1) := by decide +kernel
set_option maxRecDepth 20000 in
theorem ggX7_tries_X7_isApplication : GoodIn wsX7_tries wsX7_isApplication := goodIn_r _ [6, 1, 7, 8, 5, 9, 99, 100, 101, 102, 103, 104, 105, 106, 107, 108, 109, 110] rfl (by decide +kernel)
set_option maxRecDepth 20000 in
theorem gX7_tries_X7_isApplication : GoodIn wsX7_tries (wsV RX7 128 RX7 yX7_isApplication wsX7_isApplication) := goodIn_app (goodIn_of _ (by decide +kernel)) ggX7_tries_X7_isApplication
set_option maxRecDepth 20000 in
theorem ggX7_tries_X7_in : GoodIn wsX7_tries wsX7_in := goodIn_r _ [9] rfl (by decide +kernel)
set_option maxRecDepth 20000 in
theorem gX7_tries_X7_in : GoodIn wsX7_tries (va_wsS RX7 35 yX7_in wsX7_in) := goodIn_app (goodIn_of _ (by decide +kernel)) ggX7_tries_X7_in
set_option maxRecDepth 20000 in
theorem ggX7_tries_X7_of : GoodIn wsX7_tries wsX7_of := goodIn_r _ [13, 1, 99, 100, 101, 102, 103, 104, 105, 106, 107, 108, 109, 110] rfl (by decide +kernel)
set_option maxRecDepth 20000 in
theorem gX7_tries_X7_of : GoodIn wsX7_tries (wsV RX7 66 RX7 yX7_of wsX7_of) := goodIn_app (goodIn_of _ (by decide +kernel)) ggX7_tries_X7_of
set_option maxRecDepth 20000 in
theorem ggX7_tries_X7_isClosed : GoodIn wsX7_tries wsX7_isClosed := goodIn_r _ [17, 1, 99, 100, 101, 102, 103, 104, 105, 106, 107, 108, 109, 110] rfl (by decide +kernel)
set_option maxRecDepth 20000 in
theorem gX7_tries_X7_isClosed : GoodIn wsX7_tries (wsV RX7 84 RX7 yX7_isClosed wsX7_isClosed) := goodIn_app (goodIn_of _ (by decide +kernel)) ggX7_tries_X7_isClosed
set_option maxRecDepth 20000 in
theorem ggX7_tries_X7_putAside : GoodIn wsX7_tries wsX7_putAside := goodIn_r _ [21, 22, 1, 99, 100, 101, 102, 103, 104, 105, 106, 107, 108, 109, 110] rfl (by decide +kernel)
set_option maxRecDepth 20000 in
theorem gX7_tries_X7_putAside : GoodIn wsX7_tries (wsV RX7 165 RX7 yX7_putAside wsX7_putAside) := goodIn_app (goodIn_of _ (by decide +kernel)) ggX7_tries_X7_putAside
set_option maxRecDepth 20000 in
theorem ggX7_tries_X7_hold : GoodIn wsX7_tries wsX7_hold := goodIn_r _ [26, 27, 28, 29, 30, 5, 31, 1, 32, 33, 34, 35, 36, 10, 11, 12, 13, 37, 38, 39, 40, 41, 42, 43, 44, 45, 46, 47, 48, 49, 50, 51, 52, 53, 54, 55, 56, 57, 58, 59, 60, 61, 62, 63, 64, 65, 66, 67, 68, 69, 70, 71, 72, 73, 74, 75, 76, 77, 78, 79, 80, 81, 82, 83, 84, 85, 86, 87, 88, 89, 90, 91, 92, 93, 94, 99, 100, 101, 102, 103, 104, 105, 106, 107, 108, 109, 110] rfl (by decide +kernel)
set_option maxRecDepth 20000 in
theorem gX7_tries_X7_hold : GoodIn wsX7_tries (wsV RX7 122 RX7 yX7_hold wsX7_hold) := goodIn_app (goodIn_of _ (by decide +kernel)) ggX7_tries_X7_hold
set_option maxRecDepth 20000 in
theorem ggX7_tries_X7_setting : GoodIn wsX7_tries wsX7_setting := goodIn_r _ [52, 1, 99, 100, 101, 102, 103, 104, 105, 106, 107, 108, 109, 110] rfl (by decide +kernel)
set_option maxRecDepth 20000 in
theorem gX7_tries_X7_setting : GoodIn wsX7_tries (wsV RX7 63 RX7 yX7_setting wsX7_setting) := goodIn_app (goodIn_of _ (by decide +kernel)) ggX7_tries_X7_setting
set_option maxRecDepth 20000 in
theorem ggX7_tries_X7_putBack : GoodIn wsX7_tries wsX7_putBack := goodIn_r _ [98, 1, 22, 99, 100, 101, 102, 103, 104, 105, 106, 107, 108, 109, 110] rfl (by decide +kernel)
set_option maxRecDepth 20000 in
theorem gX7_tries_X7_putBack : GoodIn wsX7_tries (wsV RX7 168 RX7 yX7_putBack wsX7_putBack) := goodIn_app (goodIn_of _ (by decide +kernel)) ggX7_tries_X7_putBack
theorem dX7_tries_0 : decode cX7_tries 0 = .ok (.aload_n 0, 1) := by decide +kernel
theorem dX7_tries_1 : decode cX7_tries 1 = .ok (.iload_n 1, 1) := by decide +kernel
theorem dX7_tries_2 : decode cX7_tries 2 = .ok (.invokevirtual 128, 3) := by decide +kernel
theorem dX7_tries_5 : decode cX7_tries 5 = .ok (.ifCond .ne 5, 3) := by decide +kernel
theorem dX7_tries_8 : decode cX7_tries 8 = .ok (.iconst (-1), 1) := by decide +kernel
theorem dX7_tries_9 : decode cX7_tries 9 = .ok (.ireturn, 1) := by decide +kernel
theorem dX7_tries_10 : decode cX7_tries 10 = .ok (.iload_n 2, 1) := by decide +kernel
theorem dX7_tries_11 : decode cX7_tries 11 = .ok (.iconst 1, 1) := by decide +kernel
theorem dX7_tries_12 : decode cX7_tries 12 = .ok (.sipush 200, 3) := by decide +kernel
theorem dX7_tries_15 : decode cX7_tries 15 = .ok (.invokestatic 35, 3) := by decide +kernel
theorem dX7_tries_18 : decode cX7_tries 18 = .ok (.ifCond .ne 6, 3) := by decide +kernel
theorem dX7_tries_21 : decode cX7_tries 21 = .ok (.bipush (-2), 2) := by decide +kernel
theorem dX7_tries_23 : decode cX7_tries 23 = .ok (.ireturn, 1) := by decide +kernel
theorem dX7_tries_24 : decode cX7_tries 24 = .ok (.aload_n 0, 1) := by decide +kernel
theorem dX7_tries_25 : decode cX7_tries 25 = .ok (.iload_n 1, 1) := by decide +kernel
theorem dX7_tries_26 : decode cX7_tries 26 = .ok (.iconst 2, 1) := by decide +kernel
theorem dX7_tries_27 : decode cX7_tries 27 = .ok (.invokevirtual 66, 3) := by decide +kernel
theorem dX7_tries_30 : decode cX7_tries 30 = .ok (.istore_n 3, 1) := by decide +kernel
theorem dX7_tries_31 : decode cX7_tries 31 = .ok (.aload_n 0, 1) := by decide +kernel
theorem dX7_tries_32 : decode cX7_tries 32 = .ok (.iload_n 1, 1) := by decide +kernel
theorem dX7_tries_33 : decode cX7_tries 33 = .ok (.iconst 4, 1) := by decide +kernel
theorem dX7_tries_34 : decode cX7_tries 34 = .ok (.invokevirtual 66, 3) := by decide +kernel
theorem dX7_tries_37 : decode cX7_tries 37 = .ok (.ifCond .ne 21, 3) := by decide +kernel
theorem dX7_tries_40 : decode cX7_tries 40 = .ok (.iload_n 3, 1) := by decide +kernel
theorem dX7_tries_41 : decode cX7_tries 41 = .ok (.aload_n 0, 1) := by decide +kernel
theorem dX7_tries_42 : decode cX7_tries 42 = .ok (.getfield 7, 3) := by decide +kernel
theorem dX7_tries_45 : decode cX7_tries 45 = .ok (.iconst 0, 1) := by decide +kernel
theorem dX7_tries_46 : decode cX7_tries 46 = .ok (.iaload, 1) := by decide +kernel
theorem dX7_tries_47 : decode cX7_tries 47 = .ok (.if_icmp .lt 11, 3) := by decide +kernel
theorem dX7_tries_50 : decode cX7_tries 50 = .ok (.aload_n 0, 1) := by decide +kernel
theorem dX7_tries_51 : decode cX7_tries 51 = .ok (.iload_n 3, 1) := by decide +kernel
theorem dX7_tries_52 : decode cX7_tries 52 = .ok (.invokevirtual 84, 3) := by decide +kernel
theorem dX7_tries_55 : decode cX7_tries 55 = .ok (.ifCond .eq 6, 3) := by decide +kernel
theorem dX7_tries_58 : decode cX7_tries 58 = .ok (.bipush (-5), 2) := by decide +kernel
theorem dX7_tries_60 : decode cX7_tries 60 = .ok (.ireturn, 1) := by decide +kernel
theorem dX7_tries_61 : decode cX7_tries 61 = .ok (.aload_n 0, 1) := by decide +kernel
theorem dX7_tries_62 : decode cX7_tries 62 = .ok (.invokevirtual 165, 3) := by decide +kernel
theorem dX7_tries_65 : decode cX7_tries 65 = .ok (.iconst 0, 1) := by decide +kernel
theorem dX7_tries_66 : decode cX7_tries 66 = .ok (.istore 4, 2) := by decide +kernel
theorem dX7_tries_68 : decode cX7_tries 68 = .ok (.iconst 0, 1) := by decide +kernel
theorem dX7_tries_69 : decode cX7_tries 69 = .ok (.istore 5, 2) := by decide +kernel
theorem dX7_tries_71 : decode cX7_tries 71 = .ok (.iload 5, 2) := by decide +kernel
theorem dX7_tries_73 : decode cX7_tries 73 = .ok (.iload_n 2, 1) := by decide +kernel
theorem dX7_tries_74 : decode cX7_tries 74 = .ok (.if_icmp .ge 67, 3) := by decide +kernel
theorem dX7_tries_77 : decode cX7_tries 77 = .ok (.aload_n 0, 1) := by decide +kernel
theorem dX7_tries_78 : decode cX7_tries 78 = .ok (.aload_n 0, 1) := by decide +kernel
theorem dX7_tries_79 : decode cX7_tries 79 = .ok (.iload_n 1, 1) := by decide +kernel
theorem dX7_tries_80 : decode cX7_tries 80 = .ok (.iconst 1, 1) := by decide +kernel
theorem dX7_tries_81 : decode cX7_tries 81 = .ok (.invokevirtual 66, 3) := by decide +kernel
theorem dX7_tries_84 : decode cX7_tries 84 = .ok (.iload_n 3, 1) := by decide +kernel
theorem dX7_tries_85 : decode cX7_tries 85 = .ok (.invokevirtual 122, 3) := by decide +kernel
theorem dX7_tries_88 : decode cX7_tries 88 = .ok (.istore 6, 2) := by decide +kernel
theorem dX7_tries_90 : decode cX7_tries 90 = .ok (.iload 4, 2) := by decide +kernel
theorem dX7_tries_92 : decode cX7_tries 92 = .ok (.iload 6, 2) := by decide +kernel
theorem dX7_tries_94 : decode cX7_tries 94 = .ok (.ifCond .le 17, 3) := by decide +kernel
theorem dX7_tries_97 : decode cX7_tries 97 = .ok (.aload_n 0, 1) := by decide +kernel
theorem dX7_tries_98 : decode cX7_tries 98 = .ok (.iload_n 1, 1) := by decide +kernel
theorem dX7_tries_99 : decode cX7_tries 99 = .ok (.iconst 4, 1) := by decide +kernel
theorem dX7_tries_100 : decode cX7_tries 100 = .ok (.invokevirtual 66, 3) := by decide +kernel
theorem dX7_tries_103 : decode cX7_tries 103 = .ok (.iconst 1, 1) := by decide +kernel
theorem dX7_tries_104 : decode cX7_tries 104 = .ok (.if_icmp .ne 7, 3) := by decide +kernel
theorem dX7_tries_107 : decode cX7_tries 107 = .ok (.iconst 1, 1) := by decide +kernel
theorem dX7_tries_108 : decode cX7_tries 108 = .ok (.goto 4, 3) := by decide +kernel
theorem dX7_tries_111 : decode cX7_tries 111 = .ok (.iconst 0, 1) := by decide +kernel
theorem dX7_tries_112 : decode cX7_tries 112 = .ok (.iadd, 1) := by decide +kernel
theorem dX7_tries_113 : decode cX7_tries 113 = .ok (.istore 4, 2) := by decide +kernel
theorem dX7_tries_115 : decode cX7_tries 115 = .ok (.aload_n 0, 1) := by decide +kernel
theorem dX7_tries_116 : decode cX7_tries 116 = .ok (.iconst 5, 1) := by decide +kernel
theorem dX7_tries_117 : decode cX7_tries 117 = .ok (.invokevirtual 63, 3) := by decide +kernel
theorem dX7_tries_120 : decode cX7_tries 120 = .ok (.istore 7, 2) := by decide +kernel
theorem dX7_tries_122 : decode cX7_tries 122 = .ok (.aload_n 0, 1) := by decide +kernel
theorem dX7_tries_123 : decode cX7_tries 123 = .ok (.invokevirtual 168, 3) := by decide +kernel
theorem dX7_tries_126 : decode cX7_tries 126 = .ok (.aload_n 0, 1) := by decide +kernel
theorem dX7_tries_127 : decode cX7_tries 127 = .ok (.getfield 7, 3) := by decide +kernel
theorem dX7_tries_130 : decode cX7_tries 130 = .ok (.bipush 9, 2) := by decide +kernel
theorem dX7_tries_132 : decode cX7_tries 132 = .ok (.iload 7, 2) := by decide +kernel
theorem dX7_tries_134 : decode cX7_tries 134 = .ok (.iastore, 1) := by decide +kernel
theorem dX7_tries_135 : decode cX7_tries 135 = .ok (.iinc 5 1, 3) := by decide +kernel
theorem dX7_tries_138 : decode cX7_tries 138 = .ok (.goto (-67), 3) := by decide +kernel
theorem dX7_tries_141 : decode cX7_tries 141 = .ok (.aload_n 0, 1) := by decide +kernel
theorem dX7_tries_142 : decode cX7_tries 142 = .ok (.invokevirtual 168, 3) := by decide +kernel
theorem dX7_tries_145 : decode cX7_tries 145 = .ok (.iload 4, 2) := by decide +kernel
theorem dX7_tries_147 : decode cX7_tries 147 = .ok (.ireturn, 1) := by decide +kernel
set_option maxRecDepth 20000 in
theorem ggX7_put_X7_in : GoodIn wsX7_put wsX7_in := goodIn_r _ [7] rfl (by decide +kernel)
set_option maxRecDepth 20000 in
theorem gX7_put_X7_in : GoodIn wsX7_put (va_wsS RX7 35 yX7_in wsX7_in) := goodIn_app (goodIn_of _ (by decide +kernel)) ggX7_put_X7_in
theorem dX7_put_0 : decode cX7_put 0 = .ok (.iconst 0, 1) := by decide +kernel
theorem dX7_put_1 : decode cX7_put 1 = .ok (.istore_n 3, 1) := by decide +kernel
theorem dX7_put_2 : decode cX7_put 2 = .ok (.lload_n 1, 1) := by decide +kernel
theorem dX7_put_3 : decode cX7_put 3 = .ok (.lstore 4, 2) := by decide +kernel
theorem dX7_put_5 : decode cX7_put 5 = .ok (.iload_n 3, 1) := by decide +kernel
theorem dX7_put_6 : decode cX7_put 6 = .ok (.bipush 8, 2) := by decide +kernel
theorem dX7_put_8 : decode cX7_put 8 = .ok (.if_icmp .ge 47, 3) := by decide +kernel
theorem dX7_put_11 : decode cX7_put 11 = .ok (.lload 4, 2) := by decide +kernel
theorem dX7_put_13 : decode cX7_put 13 = .ok (.ldc2_w 171, 3) := by decide +kernel
theorem dX7_put_16 : decode cX7_put 16 = .ok (.land, 1) := by decide +kernel
theorem dX7_put_17 : decode cX7_put 17 = .ok (.lconst 0, 1) := by decide +kernel
theorem dX7_put_18 : decode cX7_put 18 = .ok (.lcmp, 1) := by decide +kernel
theorem dX7_put_19 : decode cX7_put 19 = .ok (.ifCond .eq 36, 3) := by decide +kernel
theorem dX7_put_22 : decode cX7_put 22 = .ok (.lload 4, 2) := by decide +kernel
theorem dX7_put_24 : decode cX7_put 24 = .ok (.ldc2_w 171, 3) := by decide +kernel
theorem dX7_put_27 : decode cX7_put 27 = .ok (.land, 1) := by decide +kernel
theorem dX7_put_28 : decode cX7_put 28 = .ok (.l2i, 1) := by decide +kernel
theorem dX7_put_29 : decode cX7_put 29 = .ok (.bipush 33, 2) := by decide +kernel
theorem dX7_put_31 : decode cX7_put 31 = .ok (.bipush 126, 2) := by decide +kernel
theorem dX7_put_33 : decode cX7_put 33 = .ok (.invokestatic 35, 3) := by decide +kernel
theorem dX7_put_36 : decode cX7_put 36 = .ok (.ifCond .ne 6, 3) := by decide +kernel
theorem dX7_put_39 : decode cX7_put 39 = .ok (.bipush (-2), 2) := by decide +kernel
theorem dX7_put_41 : decode cX7_put 41 = .ok (.ireturn, 1) := by decide +kernel
theorem dX7_put_42 : decode cX7_put 42 = .ok (.iinc 3 1, 3) := by decide +kernel
theorem dX7_put_45 : decode cX7_put 45 = .ok (.lload 4, 2) := by decide +kernel
theorem dX7_put_47 : decode cX7_put 47 = .ok (.bipush 8, 2) := by decide +kernel
theorem dX7_put_49 : decode cX7_put 49 = .ok (.lushr, 1) := by decide +kernel
theorem dX7_put_50 : decode cX7_put 50 = .ok (.lstore 4, 2) := by decide +kernel
theorem dX7_put_52 : decode cX7_put 52 = .ok (.goto (-47), 3) := by decide +kernel
theorem dX7_put_55 : decode cX7_put 55 = .ok (.iload_n 3, 1) := by decide +kernel
theorem dX7_put_56 : decode cX7_put 56 = .ok (.ifCond .eq 10, 3) := by decide +kernel
theorem dX7_put_59 : decode cX7_put 59 = .ok (.lload 4, 2) := by decide +kernel
theorem dX7_put_61 : decode cX7_put 61 = .ok (.lconst 0, 1) := by decide +kernel
theorem dX7_put_62 : decode cX7_put 62 = .ok (.lcmp, 1) := by decide +kernel
theorem dX7_put_63 : decode cX7_put 63 = .ok (.ifCond .eq 6, 3) := by decide +kernel
theorem dX7_put_66 : decode cX7_put 66 = .ok (.bipush (-2), 2) := by decide +kernel
theorem dX7_put_68 : decode cX7_put 68 = .ok (.ireturn, 1) := by decide +kernel
theorem dX7_put_69 : decode cX7_put 69 = .ok (.aload_n 0, 1) := by decide +kernel
theorem dX7_put_70 : decode cX7_put 70 = .ok (.getfield 159, 3) := by decide +kernel
theorem dX7_put_73 : decode cX7_put 73 = .ok (.iload_n 3, 1) := by decide +kernel
theorem dX7_put_74 : decode cX7_put 74 = .ok (.iadd, 1) := by decide +kernel
theorem dX7_put_75 : decode cX7_put 75 = .ok (.bipush 60, 2) := by decide +kernel
theorem dX7_put_77 : decode cX7_put 77 = .ok (.if_icmp .le 6, 3) := by decide +kernel
theorem dX7_put_80 : decode cX7_put 80 = .ok (.bipush (-4), 2) := by decide +kernel
theorem dX7_put_82 : decode cX7_put 82 = .ok (.ireturn, 1) := by decide +kernel
theorem dX7_put_83 : decode cX7_put 83 = .ok (.iconst 0, 1) := by decide +kernel
theorem dX7_put_84 : decode cX7_put 84 = .ok (.istore 6, 2) := by decide +kernel
theorem dX7_put_86 : decode cX7_put 86 = .ok (.iload 6, 2) := by decide +kernel
theorem dX7_put_88 : decode cX7_put 88 = .ok (.iload_n 3, 1) := by decide +kernel
theorem dX7_put_89 : decode cX7_put 89 = .ok (.if_icmp .ge 37, 3) := by decide +kernel
theorem dX7_put_92 : decode cX7_put 92 = .ok (.aload_n 0, 1) := by decide +kernel
theorem dX7_put_93 : decode cX7_put 93 = .ok (.getfield 23, 3) := by decide +kernel
theorem dX7_put_96 : decode cX7_put 96 = .ok (.aload_n 0, 1) := by decide +kernel
theorem dX7_put_97 : decode cX7_put 97 = .ok (.getfield 159, 3) := by decide +kernel
theorem dX7_put_100 : decode cX7_put 100 = .ok (.iload 6, 2) := by decide +kernel
theorem dX7_put_102 : decode cX7_put 102 = .ok (.iadd, 1) := by decide +kernel
theorem dX7_put_103 : decode cX7_put 103 = .ok (.lload_n 1, 1) := by decide +kernel
theorem dX7_put_104 : decode cX7_put 104 = .ok (.bipush 8, 2) := by decide +kernel
theorem dX7_put_106 : decode cX7_put 106 = .ok (.iload_n 3, 1) := by decide +kernel
theorem dX7_put_107 : decode cX7_put 107 = .ok (.iconst 1, 1) := by decide +kernel
theorem dX7_put_108 : decode cX7_put 108 = .ok (.isub, 1) := by decide +kernel
theorem dX7_put_109 : decode cX7_put 109 = .ok (.iload 6, 2) := by decide +kernel
theorem dX7_put_111 : decode cX7_put 111 = .ok (.isub, 1) := by decide +kernel
theorem dX7_put_112 : decode cX7_put 112 = .ok (.imul, 1) := by decide +kernel
theorem dX7_put_113 : decode cX7_put 113 = .ok (.lshr, 1) := by decide +kernel
theorem dX7_put_114 : decode cX7_put 114 = .ok (.ldc2_w 171, 3) := by decide +kernel
theorem dX7_put_117 : decode cX7_put 117 = .ok (.land, 1) := by decide +kernel
theorem dX7_put_118 : decode cX7_put 118 = .ok (.l2i, 1) := by decide +kernel
theorem dX7_put_119 : decode cX7_put 119 = .ok (.iastore, 1) := by decide +kernel
theorem dX7_put_120 : decode cX7_put 120 = .ok (.iinc 6 1, 3) := by decide +kernel
theorem dX7_put_123 : decode cX7_put 123 = .ok (.goto (-37), 3) := by decide +kernel
theorem dX7_put_126 : decode cX7_put 126 = .ok (.aload_n 0, 1) := by decide +kernel
theorem dX7_put_127 : decode cX7_put 127 = .ok (.dup, 1) := by decide +kernel
theorem dX7_put_128 : decode cX7_put 128 = .ok (.getfield 159, 3) := by decide +kernel
theorem dX7_put_131 : decode cX7_put 131 = .ok (.iload_n 3, 1) := by decide +kernel
theorem dX7_put_132 : decode cX7_put 132 = .ok (.iadd, 1) := by decide +kernel
theorem dX7_put_133 : decode cX7_put 133 = .ok (.putfield 159, 3) := by decide +kernel
theorem dX7_put_136 : decode cX7_put 136 = .ok (.aload_n 0, 1) := by decide +kernel
theorem dX7_put_137 : decode cX7_put 137 = .ok (.getfield 159, 3) := by decide +kernel
theorem dX7_put_140 : decode cX7_put 140 = .ok (.ireturn, 1) := by decide +kernel
theorem dX7_wipe_0 : decode cX7_wipe 0 = .ok (.aload_n 0, 1) := by decide +kernel
theorem dX7_wipe_1 : decode cX7_wipe 1 = .ok (.getfield 159, 3) := by decide +kernel
theorem dX7_wipe_4 : decode cX7_wipe 4 = .ok (.istore_n 1, 1) := by decide +kernel
theorem dX7_wipe_5 : decode cX7_wipe 5 = .ok (.aload_n 0, 1) := by decide +kernel
theorem dX7_wipe_6 : decode cX7_wipe 6 = .ok (.iconst 0, 1) := by decide +kernel
theorem dX7_wipe_7 : decode cX7_wipe 7 = .ok (.putfield 159, 3) := by decide +kernel
theorem dX7_wipe_10 : decode cX7_wipe 10 = .ok (.iload_n 1, 1) := by decide +kernel
theorem dX7_wipe_11 : decode cX7_wipe 11 = .ok (.ireturn, 1) := by decide +kernel
theorem dX7_next_0 : decode cX7_next 0 = .ok (.aload_n 0, 1) := by decide +kernel
theorem dX7_next_1 : decode cX7_next 1 = .ok (.getfield 173, 3) := by decide +kernel
theorem dX7_next_4 : decode cX7_next 4 = .ok (.aload_n 0, 1) := by decide +kernel
theorem dX7_next_5 : decode cX7_next 5 = .ok (.getfield 159, 3) := by decide +kernel
theorem dX7_next_8 : decode cX7_next 8 = .ok (.if_icmp .ge 15, 3) := by decide +kernel
theorem dX7_next_11 : decode cX7_next 11 = .ok (.aload_n 0, 1) := by decide +kernel
theorem dX7_next_12 : decode cX7_next 12 = .ok (.getfield 23, 3) := by decide +kernel
theorem dX7_next_15 : decode cX7_next 15 = .ok (.aload_n 0, 1) := by decide +kernel
theorem dX7_next_16 : decode cX7_next 16 = .ok (.getfield 173, 3) := by decide +kernel
theorem dX7_next_19 : decode cX7_next 19 = .ok (.iaload, 1) := by decide +kernel
theorem dX7_next_20 : decode cX7_next 20 = .ok (.goto 4, 3) := by decide +kernel
theorem dX7_next_23 : decode cX7_next 23 = .ok (.iconst 0, 1) := by decide +kernel
theorem dX7_next_24 : decode cX7_next 24 = .ok (.ireturn, 1) := by decide +kernel
set_option maxRecDepth 20000 in
theorem ggX7_takeNumber_X7_next : GoodIn wsX7_takeNumber wsX7_next := goodIn_r _ [7, 2, 8, 9, 13, 14, 15, 16, 17, 18, 19, 20, 21, 22, 23, 24] rfl (by decide +kernel)
set_option maxRecDepth 20000 in
theorem gX7_takeNumber_X7_next : GoodIn wsX7_takeNumber (wsV RX7 180 RX7 yX7_next wsX7_next) := goodIn_app (goodIn_of _ (by decide +kernel)) ggX7_takeNumber_X7_next
set_option maxRecDepth 20000 in
theorem ggX7_takeNumber_X7_in : GoodIn wsX7_takeNumber wsX7_in := goodIn_r _ [12] rfl (by decide +kernel)
set_option maxRecDepth 20000 in
theorem gX7_takeNumber_X7_in : GoodIn wsX7_takeNumber (va_wsS RX7 35 yX7_in wsX7_in) := goodIn_app (goodIn_of _ (by decide +kernel)) ggX7_takeNumber_X7_in
theorem dX7_takeNumber_0 : decode cX7_takeNumber 0 = .ok (.aload_n 0, 1) := by decide +kernel
theorem dX7_takeNumber_1 : decode cX7_takeNumber 1 = .ok (.aload_n 0, 1) := by decide +kernel
theorem dX7_takeNumber_2 : decode cX7_takeNumber 2 = .ok (.getfield 176, 3) := by decide +kernel
theorem dX7_takeNumber_5 : decode cX7_takeNumber 5 = .ok (.ifCond .ne 32, 3) := by decide +kernel
theorem dX7_takeNumber_8 : decode cX7_takeNumber 8 = .ok (.aload_n 0, 1) := by decide +kernel
theorem dX7_takeNumber_9 : decode cX7_takeNumber 9 = .ok (.invokevirtual 180, 3) := by decide +kernel
theorem dX7_takeNumber_12 : decode cX7_takeNumber 12 = .ok (.bipush 48, 2) := by decide +kernel
theorem dX7_takeNumber_14 : decode cX7_takeNumber 14 = .ok (.iload_n 1, 1) := by decide +kernel
theorem dX7_takeNumber_15 : decode cX7_takeNumber 15 = .ok (.iadd, 1) := by decide +kernel
theorem dX7_takeNumber_16 : decode cX7_takeNumber 16 = .ok (.iload_n 2, 1) := by decide +kernel
theorem dX7_takeNumber_17 : decode cX7_takeNumber 17 = .ok (.bipush 9, 2) := by decide +kernel
theorem dX7_takeNumber_19 : decode cX7_takeNumber 19 = .ok (.if_icmp .ge 10, 3) := by decide +kernel
theorem dX7_takeNumber_22 : decode cX7_takeNumber 22 = .ok (.bipush 48, 2) := by decide +kernel
theorem dX7_takeNumber_24 : decode cX7_takeNumber 24 = .ok (.iload_n 2, 1) := by decide +kernel
theorem dX7_takeNumber_25 : decode cX7_takeNumber 25 = .ok (.iadd, 1) := by decide +kernel
theorem dX7_takeNumber_26 : decode cX7_takeNumber 26 = .ok (.goto 5, 3) := by decide +kernel
theorem dX7_takeNumber_29 : decode cX7_takeNumber 29 = .ok (.bipush 57, 2) := by decide +kernel
theorem dX7_takeNumber_31 : decode cX7_takeNumber 31 = .ok (.invokestatic 35, 3) := by decide +kernel
theorem dX7_takeNumber_34 : decode cX7_takeNumber 34 = .ok (.ifCond .ne 7, 3) := by decide +kernel
theorem dX7_takeNumber_37 : decode cX7_takeNumber 37 = .ok (.iconst 1, 1) := by decide +kernel
theorem dX7_takeNumber_38 : decode cX7_takeNumber 38 = .ok (.goto 4, 3) := by decide +kernel
theorem dX7_takeNumber_41 : decode cX7_takeNumber 41 = .ok (.iconst 0, 1) := by decide +kernel
theorem dX7_takeNumber_42 : decode cX7_takeNumber 42 = .ok (.putfield 176, 3) := by decide +kernel
theorem dX7_takeNumber_45 : decode cX7_takeNumber 45 = .ok (.aload_n 0, 1) := by decide +kernel
theorem dX7_takeNumber_46 : decode cX7_takeNumber 46 = .ok (.getfield 176, 3) := by decide +kernel
theorem dX7_takeNumber_49 : decode cX7_takeNumber 49 = .ok (.ifCond .eq 5, 3) := by decide +kernel
theorem dX7_takeNumber_52 : decode cX7_takeNumber 52 = .ok (.iconst 0, 1) := by decide +kernel
theorem dX7_takeNumber_53 : decode cX7_takeNumber 53 = .ok (.ireturn, 1) := by decide +kernel
theorem dX7_takeNumber_54 : decode cX7_takeNumber 54 = .ok (.aload_n 0, 1) := by decide +kernel
theorem dX7_takeNumber_55 : decode cX7_takeNumber 55 = .ok (.invokevirtual 180, 3) := by decide +kernel
theorem dX7_takeNumber_58 : decode cX7_takeNumber 58 = .ok (.bipush 48, 2) := by decide +kernel
theorem dX7_takeNumber_60 : decode cX7_takeNumber 60 = .ok (.isub, 1) := by decide +kernel
theorem dX7_takeNumber_61 : decode cX7_takeNumber 61 = .ok (.istore_n 3, 1) := by decide +kernel
theorem dX7_takeNumber_62 : decode cX7_takeNumber 62 = .ok (.aload_n 0, 1) := by decide +kernel
theorem dX7_takeNumber_63 : decode cX7_takeNumber 63 = .ok (.dup, 1) := by decide +kernel
theorem dX7_takeNumber_64 : decode cX7_takeNumber 64 = .ok (.getfield 173, 3) := by decide +kernel
theorem dX7_takeNumber_67 : decode cX7_takeNumber 67 = .ok (.iconst 1, 1) := by decide +kernel
theorem dX7_takeNumber_68 : decode cX7_takeNumber 68 = .ok (.iadd, 1) := by decide +kernel
theorem dX7_takeNumber_69 : decode cX7_takeNumber 69 = .ok (.putfield 173, 3) := by decide +kernel
theorem dX7_takeNumber_72 : decode cX7_takeNumber 72 = .ok (.iload_n 3, 1) := by decide +kernel
theorem dX7_takeNumber_73 : decode cX7_takeNumber 73 = .ok (.ifCond .le 59, 3) := by decide +kernel
theorem dX7_takeNumber_76 : decode cX7_takeNumber 76 = .ok (.aload_n 0, 1) := by decide +kernel
theorem dX7_takeNumber_77 : decode cX7_takeNumber 77 = .ok (.invokevirtual 180, 3) := by decide +kernel
theorem dX7_takeNumber_80 : decode cX7_takeNumber 80 = .ok (.bipush 48, 2) := by decide +kernel
theorem dX7_takeNumber_82 : decode cX7_takeNumber 82 = .ok (.bipush 57, 2) := by decide +kernel
theorem dX7_takeNumber_84 : decode cX7_takeNumber 84 = .ok (.invokestatic 35, 3) := by decide +kernel
theorem dX7_takeNumber_87 : decode cX7_takeNumber 87 = .ok (.ifCond .eq 45, 3) := by decide +kernel
theorem dX7_takeNumber_90 : decode cX7_takeNumber 90 = .ok (.bipush 10, 2) := by decide +kernel
theorem dX7_takeNumber_92 : decode cX7_takeNumber 92 = .ok (.iload_n 3, 1) := by decide +kernel
theorem dX7_takeNumber_93 : decode cX7_takeNumber 93 = .ok (.imul, 1) := by decide +kernel
theorem dX7_takeNumber_94 : decode cX7_takeNumber 94 = .ok (.aload_n 0, 1) := by decide +kernel
theorem dX7_takeNumber_95 : decode cX7_takeNumber 95 = .ok (.invokevirtual 180, 3) := by decide +kernel
theorem dX7_takeNumber_98 : decode cX7_takeNumber 98 = .ok (.iadd, 1) := by decide +kernel
theorem dX7_takeNumber_99 : decode cX7_takeNumber 99 = .ok (.bipush 48, 2) := by decide +kernel
theorem dX7_takeNumber_101 : decode cX7_takeNumber 101 = .ok (.isub, 1) := by decide +kernel
theorem dX7_takeNumber_102 : decode cX7_takeNumber 102 = .ok (.iload_n 2, 1) := by decide +kernel
theorem dX7_takeNumber_103 : decode cX7_takeNumber 103 = .ok (.if_icmp .gt 29, 3) := by decide +kernel
theorem dX7_takeNumber_106 : decode cX7_takeNumber 106 = .ok (.bipush 10, 2) := by decide +kernel
theorem dX7_takeNumber_108 : decode cX7_takeNumber 108 = .ok (.iload_n 3, 1) := by decide +kernel
theorem dX7_takeNumber_109 : decode cX7_takeNumber 109 = .ok (.imul, 1) := by decide +kernel
theorem dX7_takeNumber_110 : decode cX7_takeNumber 110 = .ok (.aload_n 0, 1) := by decide +kernel
theorem dX7_takeNumber_111 : decode cX7_takeNumber 111 = .ok (.invokevirtual 180, 3) := by decide +kernel
theorem dX7_takeNumber_114 : decode cX7_takeNumber 114 = .ok (.iadd, 1) := by decide +kernel
theorem dX7_takeNumber_115 : decode cX7_takeNumber 115 = .ok (.bipush 48, 2) := by decide +kernel
theorem dX7_takeNumber_117 : decode cX7_takeNumber 117 = .ok (.isub, 1) := by decide +kernel
theorem dX7_takeNumber_118 : decode cX7_takeNumber 118 = .ok (.istore_n 3, 1) := by decide +kernel
theorem dX7_takeNumber_119 : decode cX7_takeNumber 119 = .ok (.aload_n 0, 1) := by decide +kernel
theorem dX7_takeNumber_120 : decode cX7_takeNumber 120 = .ok (.dup, 1) := by decide +kernel
theorem dX7_takeNumber_121 : decode cX7_takeNumber 121 = .ok (.getfield 173, 3) := by decide +kernel
theorem dX7_takeNumber_124 : decode cX7_takeNumber 124 = .ok (.iconst 1, 1) := by decide +kernel
theorem dX7_takeNumber_125 : decode cX7_takeNumber 125 = .ok (.iadd, 1) := by decide +kernel
theorem dX7_takeNumber_126 : decode cX7_takeNumber 126 = .ok (.putfield 173, 3) := by decide +kernel
theorem dX7_takeNumber_129 : decode cX7_takeNumber 129 = .ok (.goto (-57), 3) := by decide +kernel
theorem dX7_takeNumber_132 : decode cX7_takeNumber 132 = .ok (.iload_n 3, 1) := by decide +kernel
theorem dX7_takeNumber_133 : decode cX7_takeNumber 133 = .ok (.ireturn, 1) := by decide +kernel
set_option maxRecDepth 20000 in
theorem ggX7_need_X7_next : GoodIn wsX7_need wsX7_next := goodIn_r _ [7, 2, 8, 9, 10, 11, 12, 13, 14, 15, 16, 17, 18, 19, 20, 21] rfl (by decide +kernel)
set_option maxRecDepth 20000 in
theorem gX7_need_X7_next : GoodIn wsX7_need (wsV RX7 180 RX7 yX7_next wsX7_next) := goodIn_app (goodIn_of _ (by decide +kernel)) ggX7_need_X7_next
theorem dX7_need_0 : decode cX7_need 0 = .ok (.aload_n 0, 1) := by decide +kernel
theorem dX7_need_1 : decode cX7_need 1 = .ok (.aload_n 0, 1) := by decide +kernel
theorem dX7_need_2 : decode cX7_need 2 = .ok (.getfield 176, 3) := by decide +kernel
theorem dX7_need_5 : decode cX7_need 5 = .ok (.ifCond .ne 11, 3) := by decide +kernel
theorem dX7_need_8 : decode cX7_need 8 = .ok (.aload_n 0, 1) := by decide +kernel
theorem dX7_need_9 : decode cX7_need 9 = .ok (.invokevirtual 180, 3) := by decide +kernel
theorem dX7_need_12 : decode cX7_need 12 = .ok (.iload_n 1, 1) := by decide +kernel
theorem dX7_need_13 : decode cX7_need 13 = .ok (.if_icmp .eq 7, 3) := by decide +kernel
theorem dX7_need_16 : decode cX7_need 16 = .ok (.iconst 1, 1) := by decide +kernel
theorem dX7_need_17 : decode cX7_need 17 = .ok (.goto 4, 3) := by decide +kernel
theorem dX7_need_20 : decode cX7_need 20 = .ok (.iconst 0, 1) := by decide +kernel
theorem dX7_need_21 : decode cX7_need 21 = .ok (.putfield 176, 3) := by decide +kernel
theorem dX7_need_24 : decode cX7_need 24 = .ok (.aload_n 0, 1) := by decide +kernel
theorem dX7_need_25 : decode cX7_need 25 = .ok (.dup, 1) := by decide +kernel
theorem dX7_need_26 : decode cX7_need 26 = .ok (.getfield 173, 3) := by decide +kernel
theorem dX7_need_29 : decode cX7_need 29 = .ok (.aload_n 0, 1) := by decide +kernel
theorem dX7_need_30 : decode cX7_need 30 = .ok (.getfield 176, 3) := by decide +kernel
theorem dX7_need_33 : decode cX7_need 33 = .ok (.ifCond .eq 7, 3) := by decide +kernel
theorem dX7_need_36 : decode cX7_need 36 = .ok (.iconst 0, 1) := by decide +kernel
theorem dX7_need_37 : decode cX7_need 37 = .ok (.goto 4, 3) := by decide +kernel
theorem dX7_need_40 : decode cX7_need 40 = .ok (.iconst 1, 1) := by decide +kernel
theorem dX7_need_41 : decode cX7_need 41 = .ok (.iadd, 1) := by decide +kernel
theorem dX7_need_42 : decode cX7_need 42 = .ok (.putfield 173, 3) := by decide +kernel
theorem dX7_need_45 : decode cX7_need 45 = .ok (.return_, 1) := by decide +kernel
set_option maxRecDepth 20000 in
theorem ggX7_takeApplication_X7_need : GoodIn wsX7_takeApplication wsX7_need := goodIn_r _ [9, 3, 4, 10, 11, 12, 8, 13, 14, 15, 23, 24, 25, 26, 27, 28, 29, 30, 31, 32, 33, 34] rfl (by decide +kernel)
set_option maxRecDepth 20000 in
theorem gX7_takeApplication_X7_need : GoodIn wsX7_takeApplication (wsV RX7 186 RX7 yX7_need wsX7_need) := goodIn_app (goodIn_of _ (by decide +kernel)) ggX7_takeApplication_X7_need
set_option maxRecDepth 20000 in
theorem ggX7_takeApplication_X7_takeNumber : GoodIn wsX7_takeApplication wsX7_takeNumber := goodIn_r _ [19, 3, 4, 10, 11, 12, 8, 13, 14, 15, 20, 21, 22, 23, 24, 25, 26, 27, 28, 29, 30, 31, 32, 33, 34] rfl (by decide +kernel)
set_option maxRecDepth 20000 in
theorem gX7_takeApplication_X7_takeNumber : GoodIn wsX7_takeApplication (wsV RX7 189 RX7 yX7_takeNumber wsX7_takeNumber) := goodIn_app (goodIn_of _ (by decide +kernel)) ggX7_takeApplication_X7_takeNumber
set_option maxRecDepth 20000 in
theorem ggX7_takeApplication_X7_next : GoodIn wsX7_takeApplication wsX7_next := goodIn_r _ [13, 4, 14, 15, 23, 24, 25, 26, 27, 28, 29, 30, 31, 32, 33, 34] rfl (by decide +kernel)
set_option maxRecDepth 20000 in
theorem gX7_takeApplication_X7_next : GoodIn wsX7_takeApplication (wsV RX7 180 RX7 yX7_next wsX7_next) := goodIn_app (goodIn_of _ (by decide +kernel)) ggX7_takeApplication_X7_next
theorem dX7_takeApplication_0 : decode cX7_takeApplication 0 = .ok (.iconst 4, 1) := by decide +kernel
theorem dX7_takeApplication_1 : decode cX7_takeApplication 1 = .ok (.aload_n 0, 1) := by decide +kernel
theorem dX7_takeApplication_2 : decode cX7_takeApplication 2 = .ok (.getfield 183, 3) := by decide +kernel
theorem dX7_takeApplication_5 : decode cX7_takeApplication 5 = .ok (.imul, 1) := by decide +kernel
theorem dX7_takeApplication_6 : decode cX7_takeApplication 6 = .ok (.istore_n 1, 1) := by decide +kernel
theorem dX7_takeApplication_7 : decode cX7_takeApplication 7 = .ok (.aload_n 0, 1) := by decide +kernel
theorem dX7_takeApplication_8 : decode cX7_takeApplication 8 = .ok (.bipush 99, 2) := by decide +kernel
theorem dX7_takeApplication_10 : decode cX7_takeApplication 10 = .ok (.invokevirtual 186, 3) := by decide +kernel
theorem dX7_takeApplication_13 : decode cX7_takeApplication 13 = .ok (.aload_n 0, 1) := by decide +kernel
theorem dX7_takeApplication_14 : decode cX7_takeApplication 14 = .ok (.getfield 32, 3) := by decide +kernel
theorem dX7_takeApplication_17 : decode cX7_takeApplication 17 = .ok (.iload_n 1, 1) := by decide +kernel
theorem dX7_takeApplication_18 : decode cX7_takeApplication 18 = .ok (.aload_n 0, 1) := by decide +kernel
theorem dX7_takeApplication_19 : decode cX7_takeApplication 19 = .ok (.iconst 0, 1) := by decide +kernel
theorem dX7_takeApplication_20 : decode cX7_takeApplication 20 = .ok (.bipush 11, 2) := by decide +kernel
theorem dX7_takeApplication_22 : decode cX7_takeApplication 22 = .ok (.invokevirtual 189, 3) := by decide +kernel
theorem dX7_takeApplication_25 : decode cX7_takeApplication 25 = .ok (.iastore, 1) := by decide +kernel
theorem dX7_takeApplication_26 : decode cX7_takeApplication 26 = .ok (.aload_n 0, 1) := by decide +kernel
theorem dX7_takeApplication_27 : decode cX7_takeApplication 27 = .ok (.bipush 114, 2) := by decide +kernel
theorem dX7_takeApplication_29 : decode cX7_takeApplication 29 = .ok (.invokevirtual 186, 3) := by decide +kernel
theorem dX7_takeApplication_32 : decode cX7_takeApplication 32 = .ok (.aload_n 0, 1) := by decide +kernel
theorem dX7_takeApplication_33 : decode cX7_takeApplication 33 = .ok (.getfield 32, 3) := by decide +kernel
theorem dX7_takeApplication_36 : decode cX7_takeApplication 36 = .ok (.iload_n 1, 1) := by decide +kernel
theorem dX7_takeApplication_37 : decode cX7_takeApplication 37 = .ok (.iconst 1, 1) := by decide +kernel
theorem dX7_takeApplication_38 : decode cX7_takeApplication 38 = .ok (.iadd, 1) := by decide +kernel
theorem dX7_takeApplication_39 : decode cX7_takeApplication 39 = .ok (.aload_n 0, 1) := by decide +kernel
theorem dX7_takeApplication_40 : decode cX7_takeApplication 40 = .ok (.iconst 0, 1) := by decide +kernel
theorem dX7_takeApplication_41 : decode cX7_takeApplication 41 = .ok (.iconst 5, 1) := by decide +kernel
theorem dX7_takeApplication_42 : decode cX7_takeApplication 42 = .ok (.invokevirtual 189, 3) := by decide +kernel
theorem dX7_takeApplication_45 : decode cX7_takeApplication 45 = .ok (.iastore, 1) := by decide +kernel
theorem dX7_takeApplication_46 : decode cX7_takeApplication 46 = .ok (.aload_n 0, 1) := by decide +kernel
theorem dX7_takeApplication_47 : decode cX7_takeApplication 47 = .ok (.bipush 100, 2) := by decide +kernel
theorem dX7_takeApplication_49 : decode cX7_takeApplication 49 = .ok (.invokevirtual 186, 3) := by decide +kernel
theorem dX7_takeApplication_52 : decode cX7_takeApplication 52 = .ok (.aload_n 0, 1) := by decide +kernel
theorem dX7_takeApplication_53 : decode cX7_takeApplication 53 = .ok (.getfield 32, 3) := by decide +kernel
theorem dX7_takeApplication_56 : decode cX7_takeApplication 56 = .ok (.iload_n 1, 1) := by decide +kernel
theorem dX7_takeApplication_57 : decode cX7_takeApplication 57 = .ok (.iconst 2, 1) := by decide +kernel
theorem dX7_takeApplication_58 : decode cX7_takeApplication 58 = .ok (.iadd, 1) := by decide +kernel
theorem dX7_takeApplication_59 : decode cX7_takeApplication 59 = .ok (.aload_n 0, 1) := by decide +kernel
theorem dX7_takeApplication_60 : decode cX7_takeApplication 60 = .ok (.iconst 0, 1) := by decide +kernel
theorem dX7_takeApplication_61 : decode cX7_takeApplication 61 = .ok (.bipush 59, 2) := by decide +kernel
theorem dX7_takeApplication_63 : decode cX7_takeApplication 63 = .ok (.invokevirtual 189, 3) := by decide +kernel
theorem dX7_takeApplication_66 : decode cX7_takeApplication 66 = .ok (.iastore, 1) := by decide +kernel
theorem dX7_takeApplication_67 : decode cX7_takeApplication 67 = .ok (.aload_n 0, 1) := by decide +kernel
theorem dX7_takeApplication_68 : decode cX7_takeApplication 68 = .ok (.getfield 32, 3) := by decide +kernel
theorem dX7_takeApplication_71 : decode cX7_takeApplication 71 = .ok (.iload_n 1, 1) := by decide +kernel
theorem dX7_takeApplication_72 : decode cX7_takeApplication 72 = .ok (.iconst 3, 1) := by decide +kernel
theorem dX7_takeApplication_73 : decode cX7_takeApplication 73 = .ok (.iadd, 1) := by decide +kernel
theorem dX7_takeApplication_74 : decode cX7_takeApplication 74 = .ok (.iconst 1, 1) := by decide +kernel
theorem dX7_takeApplication_75 : decode cX7_takeApplication 75 = .ok (.iastore, 1) := by decide +kernel
theorem dX7_takeApplication_76 : decode cX7_takeApplication 76 = .ok (.aload_n 0, 1) := by decide +kernel
theorem dX7_takeApplication_77 : decode cX7_takeApplication 77 = .ok (.getfield 176, 3) := by decide +kernel
theorem dX7_takeApplication_80 : decode cX7_takeApplication 80 = .ok (.ifCond .ne 36, 3) := by decide +kernel
theorem dX7_takeApplication_83 : decode cX7_takeApplication 83 = .ok (.aload_n 0, 1) := by decide +kernel
theorem dX7_takeApplication_84 : decode cX7_takeApplication 84 = .ok (.invokevirtual 180, 3) := by decide +kernel
theorem dX7_takeApplication_87 : decode cX7_takeApplication 87 = .ok (.bipush 120, 2) := by decide +kernel
theorem dX7_takeApplication_89 : decode cX7_takeApplication 89 = .ok (.if_icmp .ne 27, 3) := by decide +kernel
theorem dX7_takeApplication_92 : decode cX7_takeApplication 92 = .ok (.aload_n 0, 1) := by decide +kernel
theorem dX7_takeApplication_93 : decode cX7_takeApplication 93 = .ok (.dup, 1) := by decide +kernel
theorem dX7_takeApplication_94 : decode cX7_takeApplication 94 = .ok (.getfield 173, 3) := by decide +kernel
theorem dX7_takeApplication_97 : decode cX7_takeApplication 97 = .ok (.iconst 1, 1) := by decide +kernel
theorem dX7_takeApplication_98 : decode cX7_takeApplication 98 = .ok (.iadd, 1) := by decide +kernel
theorem dX7_takeApplication_99 : decode cX7_takeApplication 99 = .ok (.putfield 173, 3) := by decide +kernel
theorem dX7_takeApplication_102 : decode cX7_takeApplication 102 = .ok (.aload_n 0, 1) := by decide +kernel
theorem dX7_takeApplication_103 : decode cX7_takeApplication 103 = .ok (.getfield 32, 3) := by decide +kernel
theorem dX7_takeApplication_106 : decode cX7_takeApplication 106 = .ok (.iload_n 1, 1) := by decide +kernel
theorem dX7_takeApplication_107 : decode cX7_takeApplication 107 = .ok (.iconst 3, 1) := by decide +kernel
theorem dX7_takeApplication_108 : decode cX7_takeApplication 108 = .ok (.iadd, 1) := by decide +kernel
theorem dX7_takeApplication_109 : decode cX7_takeApplication 109 = .ok (.aload_n 0, 1) := by decide +kernel
theorem dX7_takeApplication_110 : decode cX7_takeApplication 110 = .ok (.iconst 1, 1) := by decide +kernel
theorem dX7_takeApplication_111 : decode cX7_takeApplication 111 = .ok (.iconst 4, 1) := by decide +kernel
theorem dX7_takeApplication_112 : decode cX7_takeApplication 112 = .ok (.invokevirtual 189, 3) := by decide +kernel
theorem dX7_takeApplication_115 : decode cX7_takeApplication 115 = .ok (.iastore, 1) := by decide +kernel
theorem dX7_takeApplication_116 : decode cX7_takeApplication 116 = .ok (.aload_n 0, 1) := by decide +kernel
theorem dX7_takeApplication_117 : decode cX7_takeApplication 117 = .ok (.dup, 1) := by decide +kernel
theorem dX7_takeApplication_118 : decode cX7_takeApplication 118 = .ok (.getfield 183, 3) := by decide +kernel
theorem dX7_takeApplication_121 : decode cX7_takeApplication 121 = .ok (.iconst 1, 1) := by decide +kernel
theorem dX7_takeApplication_122 : decode cX7_takeApplication 122 = .ok (.iadd, 1) := by decide +kernel
theorem dX7_takeApplication_123 : decode cX7_takeApplication 123 = .ok (.putfield 183, 3) := by decide +kernel
theorem dX7_takeApplication_126 : decode cX7_takeApplication 126 = .ok (.return_, 1) := by decide +kernel
set_option maxRecDepth 20000 in
theorem ggX7_fault_X7_takeApplication : GoodIn wsX7_fault wsX7_takeApplication := goodIn_r _ [9, 3, 10, 2, 1, 11, 12, 13, 8, 14, 15, 16, 17, 18, 4, 19, 20, 21, 22, 23, 24, 25, 26, 27, 28, 29, 30, 31, 32, 33, 34, 35, 36, 37, 38] rfl (by decide +kernel)
set_option maxRecDepth 20000 in
theorem gX7_fault_X7_takeApplication : GoodIn wsX7_fault (wsV RX7 192 RX7 yX7_takeApplication wsX7_takeApplication) := goodIn_app (goodIn_of _ (by decide +kernel)) ggX7_fault_X7_takeApplication
set_option maxRecDepth 20000 in
theorem ggX7_fault_X7_next : GoodIn wsX7_fault wsX7_next := goodIn_r _ [18, 1, 4, 19, 27, 28, 29, 30, 31, 32, 33, 34, 35, 36, 37, 38] rfl (by decide +kernel)
set_option maxRecDepth 20000 in
theorem gX7_fault_X7_next : GoodIn wsX7_fault (wsV RX7 180 RX7 yX7_next wsX7_next) := goodIn_app (goodIn_of _ (by decide +kernel)) ggX7_fault_X7_next
theorem dX7_fault_0 : decode cX7_fault 0 = .ok (.aload_n 0, 1) := by decide +kernel
theorem dX7_fault_1 : decode cX7_fault 1 = .ok (.iconst 0, 1) := by decide +kernel
theorem dX7_fault_2 : decode cX7_fault 2 = .ok (.putfield 173, 3) := by decide +kernel
theorem dX7_fault_5 : decode cX7_fault 5 = .ok (.aload_n 0, 1) := by decide +kernel
theorem dX7_fault_6 : decode cX7_fault 6 = .ok (.iconst 0, 1) := by decide +kernel
theorem dX7_fault_7 : decode cX7_fault 7 = .ok (.putfield 176, 3) := by decide +kernel
theorem dX7_fault_10 : decode cX7_fault 10 = .ok (.aload_n 0, 1) := by decide +kernel
theorem dX7_fault_11 : decode cX7_fault 11 = .ok (.iconst 0, 1) := by decide +kernel
theorem dX7_fault_12 : decode cX7_fault 12 = .ok (.putfield 183, 3) := by decide +kernel
theorem dX7_fault_15 : decode cX7_fault 15 = .ok (.aload_n 0, 1) := by decide +kernel
theorem dX7_fault_16 : decode cX7_fault 16 = .ok (.invokevirtual 192, 3) := by decide +kernel
theorem dX7_fault_19 : decode cX7_fault 19 = .ok (.aload_n 0, 1) := by decide +kernel
theorem dX7_fault_20 : decode cX7_fault 20 = .ok (.getfield 176, 3) := by decide +kernel
theorem dX7_fault_23 : decode cX7_fault 23 = .ok (.ifCond .ne 29, 3) := by decide +kernel
theorem dX7_fault_26 : decode cX7_fault 26 = .ok (.aload_n 0, 1) := by decide +kernel
theorem dX7_fault_27 : decode cX7_fault 27 = .ok (.invokevirtual 180, 3) := by decide +kernel
theorem dX7_fault_30 : decode cX7_fault 30 = .ok (.bipush 59, 2) := by decide +kernel
theorem dX7_fault_32 : decode cX7_fault 32 = .ok (.if_icmp .ne 20, 3) := by decide +kernel
theorem dX7_fault_35 : decode cX7_fault 35 = .ok (.aload_n 0, 1) := by decide +kernel
theorem dX7_fault_36 : decode cX7_fault 36 = .ok (.dup, 1) := by decide +kernel
theorem dX7_fault_37 : decode cX7_fault 37 = .ok (.getfield 173, 3) := by decide +kernel
theorem dX7_fault_40 : decode cX7_fault 40 = .ok (.iconst 1, 1) := by decide +kernel
theorem dX7_fault_41 : decode cX7_fault 41 = .ok (.iadd, 1) := by decide +kernel
theorem dX7_fault_42 : decode cX7_fault 42 = .ok (.putfield 173, 3) := by decide +kernel
theorem dX7_fault_45 : decode cX7_fault 45 = .ok (.aload_n 0, 1) := by decide +kernel
theorem dX7_fault_46 : decode cX7_fault 46 = .ok (.invokevirtual 192, 3) := by decide +kernel
theorem dX7_fault_49 : decode cX7_fault 49 = .ok (.goto (-30), 3) := by decide +kernel
theorem dX7_fault_52 : decode cX7_fault 52 = .ok (.aload_n 0, 1) := by decide +kernel
theorem dX7_fault_53 : decode cX7_fault 53 = .ok (.getfield 176, 3) := by decide +kernel
theorem dX7_fault_56 : decode cX7_fault 56 = .ok (.ifCond .ne 14, 3) := by decide +kernel
theorem dX7_fault_59 : decode cX7_fault 59 = .ok (.aload_n 0, 1) := by decide +kernel
theorem dX7_fault_60 : decode cX7_fault 60 = .ok (.getfield 173, 3) := by decide +kernel
theorem dX7_fault_63 : decode cX7_fault 63 = .ok (.aload_n 0, 1) := by decide +kernel
theorem dX7_fault_64 : decode cX7_fault 64 = .ok (.getfield 159, 3) := by decide +kernel
theorem dX7_fault_67 : decode cX7_fault 67 = .ok (.if_icmp .ge 10, 3) := by decide +kernel
theorem dX7_fault_70 : decode cX7_fault 70 = .ok (.aload_n 0, 1) := by decide +kernel
theorem dX7_fault_71 : decode cX7_fault 71 = .ok (.getfield 173, 3) := by decide +kernel
theorem dX7_fault_74 : decode cX7_fault 74 = .ok (.goto 5, 3) := by decide +kernel
theorem dX7_fault_77 : decode cX7_fault 77 = .ok (.bipush (-6), 2) := by decide +kernel
theorem dX7_fault_79 : decode cX7_fault 79 = .ok (.ireturn, 1) := by decide +kernel
set_option maxRecDepth 20000 in
theorem ggX7_load_X7_fault : GoodIn wsX7_load wsX7_fault := goodIn_r _ [8, 9, 10, 1, 3, 11, 12, 13, 7, 14, 2, 15, 16, 17, 18, 19, 20, 21, 22, 23, 24, 25, 26, 27, 28, 29, 30, 75, 76, 77, 78, 79, 80, 81, 82, 83, 84, 85, 86] rfl (by decide +kernel)
set_option maxRecDepth 20000 in
theorem gX7_load_X7_fault : GoodIn wsX7_load (wsV RX7 195 RX7 yX7_fault wsX7_fault) := goodIn_app (goodIn_of _ (by decide +kernel)) ggX7_load_X7_fault
set_option maxRecDepth 20000 in
theorem ggX7_load_X7_apply : GoodIn wsX7_load wsX7_apply := goodIn_r _ [34, 35, 36, 37, 38, 7, 39, 28, 29, 30, 40, 41, 42, 43, 44, 45, 46, 47, 48, 49, 50, 51, 52, 53, 54, 55, 56, 57, 58, 59, 60, 61, 62, 63, 64, 65, 66, 67, 68, 69, 70, 71, 72, 73, 74, 75, 76, 77, 78, 79, 80, 81, 82, 83, 84, 85, 86] rfl (by decide +kernel)
set_option maxRecDepth 20000 in
theorem gX7_load_X7_apply : GoodIn wsX7_load (wsV RX7 198 RX7 yX7_apply wsX7_apply) := goodIn_app (goodIn_of _ (by decide +kernel)) ggX7_load_X7_apply
theorem dX7_load_0 : decode cX7_load 0 = .ok (.aload_n 0, 1) := by decide +kernel
theorem dX7_load_1 : decode cX7_load 1 = .ok (.invokevirtual 195, 3) := by decide +kernel
theorem dX7_load_4 : decode cX7_load 4 = .ok (.bipush (-6), 2) := by decide +kernel
theorem dX7_load_6 : decode cX7_load 6 = .ok (.if_icmp .eq 6, 3) := by decide +kernel
theorem dX7_load_9 : decode cX7_load 9 = .ok (.bipush (-3), 2) := by decide +kernel
theorem dX7_load_11 : decode cX7_load 11 = .ok (.ireturn, 1) := by decide +kernel
theorem dX7_load_12 : decode cX7_load 12 = .ok (.iconst 0, 1) := by decide +kernel
theorem dX7_load_13 : decode cX7_load 13 = .ok (.istore_n 1, 1) := by decide +kernel
theorem dX7_load_14 : decode cX7_load 14 = .ok (.iconst 1, 1) := by decide +kernel
theorem dX7_load_15 : decode cX7_load 15 = .ok (.istore_n 2, 1) := by decide +kernel
theorem dX7_load_16 : decode cX7_load 16 = .ok (.iload_n 2, 1) := by decide +kernel
theorem dX7_load_17 : decode cX7_load 17 = .ok (.ifCond .eq 77, 3) := by decide +kernel
theorem dX7_load_20 : decode cX7_load 20 = .ok (.iload_n 1, 1) := by decide +kernel
theorem dX7_load_21 : decode cX7_load 21 = .ok (.aload_n 0, 1) := by decide +kernel
theorem dX7_load_22 : decode cX7_load 22 = .ok (.getfield 183, 3) := by decide +kernel
theorem dX7_load_25 : decode cX7_load 25 = .ok (.if_icmp .ge 69, 3) := by decide +kernel
theorem dX7_load_28 : decode cX7_load 28 = .ok (.aload_n 0, 1) := by decide +kernel
theorem dX7_load_29 : decode cX7_load 29 = .ok (.aload_n 0, 1) := by decide +kernel
theorem dX7_load_30 : decode cX7_load 30 = .ok (.getfield 32, 3) := by decide +kernel
theorem dX7_load_33 : decode cX7_load 33 = .ok (.iconst 4, 1) := by decide +kernel
theorem dX7_load_34 : decode cX7_load 34 = .ok (.iload_n 1, 1) := by decide +kernel
theorem dX7_load_35 : decode cX7_load 35 = .ok (.imul, 1) := by decide +kernel
theorem dX7_load_36 : decode cX7_load 36 = .ok (.iaload, 1) := by decide +kernel
theorem dX7_load_37 : decode cX7_load 37 = .ok (.aload_n 0, 1) := by decide +kernel
theorem dX7_load_38 : decode cX7_load 38 = .ok (.getfield 32, 3) := by decide +kernel
theorem dX7_load_41 : decode cX7_load 41 = .ok (.iconst 4, 1) := by decide +kernel
theorem dX7_load_42 : decode cX7_load 42 = .ok (.iload_n 1, 1) := by decide +kernel
theorem dX7_load_43 : decode cX7_load 43 = .ok (.imul, 1) := by decide +kernel
theorem dX7_load_44 : decode cX7_load 44 = .ok (.iconst 1, 1) := by decide +kernel
theorem dX7_load_45 : decode cX7_load 45 = .ok (.iadd, 1) := by decide +kernel
theorem dX7_load_46 : decode cX7_load 46 = .ok (.iaload, 1) := by decide +kernel
theorem dX7_load_47 : decode cX7_load 47 = .ok (.aload_n 0, 1) := by decide +kernel
theorem dX7_load_48 : decode cX7_load 48 = .ok (.getfield 32, 3) := by decide +kernel
theorem dX7_load_51 : decode cX7_load 51 = .ok (.iconst 4, 1) := by decide +kernel
theorem dX7_load_52 : decode cX7_load 52 = .ok (.iload_n 1, 1) := by decide +kernel
theorem dX7_load_53 : decode cX7_load 53 = .ok (.imul, 1) := by decide +kernel
theorem dX7_load_54 : decode cX7_load 54 = .ok (.iconst 2, 1) := by decide +kernel
theorem dX7_load_55 : decode cX7_load 55 = .ok (.iadd, 1) := by decide +kernel
theorem dX7_load_56 : decode cX7_load 56 = .ok (.iaload, 1) := by decide +kernel
theorem dX7_load_57 : decode cX7_load 57 = .ok (.aload_n 0, 1) := by decide +kernel
theorem dX7_load_58 : decode cX7_load 58 = .ok (.getfield 32, 3) := by decide +kernel
theorem dX7_load_61 : decode cX7_load 61 = .ok (.iconst 4, 1) := by decide +kernel
theorem dX7_load_62 : decode cX7_load 62 = .ok (.iload_n 1, 1) := by decide +kernel
theorem dX7_load_63 : decode cX7_load 63 = .ok (.imul, 1) := by decide +kernel
theorem dX7_load_64 : decode cX7_load 64 = .ok (.iconst 3, 1) := by decide +kernel
theorem dX7_load_65 : decode cX7_load 65 = .ok (.iadd, 1) := by decide +kernel
theorem dX7_load_66 : decode cX7_load 66 = .ok (.iaload, 1) := by decide +kernel
theorem dX7_load_67 : decode cX7_load 67 = .ok (.invokevirtual 198, 3) := by decide +kernel
theorem dX7_load_70 : decode cX7_load 70 = .ok (.ifCond .lt 7, 3) := by decide +kernel
theorem dX7_load_73 : decode cX7_load 73 = .ok (.iconst 1, 1) := by decide +kernel
theorem dX7_load_74 : decode cX7_load 74 = .ok (.goto 4, 3) := by decide +kernel
theorem dX7_load_77 : decode cX7_load 77 = .ok (.iconst 0, 1) := by decide +kernel
theorem dX7_load_78 : decode cX7_load 78 = .ok (.istore_n 2, 1) := by decide +kernel
theorem dX7_load_79 : decode cX7_load 79 = .ok (.iload_n 1, 1) := by decide +kernel
theorem dX7_load_80 : decode cX7_load 80 = .ok (.iload_n 2, 1) := by decide +kernel
theorem dX7_load_81 : decode cX7_load 81 = .ok (.ifCond .eq 7, 3) := by decide +kernel
theorem dX7_load_84 : decode cX7_load 84 = .ok (.iconst 1, 1) := by decide +kernel
theorem dX7_load_85 : decode cX7_load 85 = .ok (.goto 4, 3) := by decide +kernel
theorem dX7_load_88 : decode cX7_load 88 = .ok (.iconst 0, 1) := by decide +kernel
theorem dX7_load_89 : decode cX7_load 89 = .ok (.iadd, 1) := by decide +kernel
theorem dX7_load_90 : decode cX7_load 90 = .ok (.istore_n 1, 1) := by decide +kernel
theorem dX7_load_91 : decode cX7_load 91 = .ok (.goto (-75), 3) := by decide +kernel
theorem dX7_load_94 : decode cX7_load 94 = .ok (.aload_n 0, 1) := by decide +kernel
theorem dX7_load_95 : decode cX7_load 95 = .ok (.iconst 0, 1) := by decide +kernel
theorem dX7_load_96 : decode cX7_load 96 = .ok (.putfield 159, 3) := by decide +kernel
theorem dX7_load_99 : decode cX7_load 99 = .ok (.iload_n 1, 1) := by decide +kernel
theorem dX7_load_100 : decode cX7_load 100 = .ok (.ireturn, 1) := by decide +kernel
set_option maxRecDepth 20000 in
theorem ggX7_save_X7_in : GoodIn wsX7_save wsX7_in := goodIn_r _ [7] rfl (by decide +kernel)
set_option maxRecDepth 20000 in
theorem gX7_save_X7_in : GoodIn wsX7_save (va_wsS RX7 35 yX7_in wsX7_in) := goodIn_app (goodIn_of _ (by decide +kernel)) ggX7_save_X7_in
theorem dX7_save_0 : decode cX7_save 0 = .ok (.iload_n 1, 1) := by decide +kernel
theorem dX7_save_1 : decode cX7_save 1 = .ok (.iconst 0, 1) := by decide +kernel
theorem dX7_save_2 : decode cX7_save 2 = .ok (.iconst 1, 1) := by decide +kernel
theorem dX7_save_3 : decode cX7_save 3 = .ok (.invokestatic 35, 3) := by decide +kernel
theorem dX7_save_6 : decode cX7_save 6 = .ok (.ifCond .ne 6, 3) := by decide +kernel
theorem dX7_save_9 : decode cX7_save 9 = .ok (.bipush (-2), 2) := by decide +kernel
theorem dX7_save_11 : decode cX7_save 11 = .ok (.ireturn, 1) := by decide +kernel
theorem dX7_save_12 : decode cX7_save 12 = .ok (.iconst 0, 1) := by decide +kernel
theorem dX7_save_13 : decode cX7_save 13 = .ok (.istore_n 2, 1) := by decide +kernel
theorem dX7_save_14 : decode cX7_save 14 = .ok (.iload_n 2, 1) := by decide +kernel
theorem dX7_save_15 : decode cX7_save 15 = .ok (.sipush 478, 3) := by decide +kernel
theorem dX7_save_18 : decode cX7_save 18 = .ok (.if_icmp .ge 27, 3) := by decide +kernel
theorem dX7_save_21 : decode cX7_save 21 = .ok (.aload_n 0, 1) := by decide +kernel
theorem dX7_save_22 : decode cX7_save 22 = .ok (.getfield 16, 3) := by decide +kernel
theorem dX7_save_25 : decode cX7_save 25 = .ok (.sipush 478, 3) := by decide +kernel
theorem dX7_save_28 : decode cX7_save 28 = .ok (.iload_n 1, 1) := by decide +kernel
theorem dX7_save_29 : decode cX7_save 29 = .ok (.imul, 1) := by decide +kernel
theorem dX7_save_30 : decode cX7_save 30 = .ok (.iload_n 2, 1) := by decide +kernel
theorem dX7_save_31 : decode cX7_save 31 = .ok (.iadd, 1) := by decide +kernel
theorem dX7_save_32 : decode cX7_save 32 = .ok (.aload_n 0, 1) := by decide +kernel
theorem dX7_save_33 : decode cX7_save 33 = .ok (.getfield 7, 3) := by decide +kernel
theorem dX7_save_36 : decode cX7_save 36 = .ok (.iload_n 2, 1) := by decide +kernel
theorem dX7_save_37 : decode cX7_save 37 = .ok (.iaload, 1) := by decide +kernel
theorem dX7_save_38 : decode cX7_save 38 = .ok (.iastore, 1) := by decide +kernel
theorem dX7_save_39 : decode cX7_save 39 = .ok (.iinc 2 1, 3) := by decide +kernel
theorem dX7_save_42 : decode cX7_save 42 = .ok (.goto (-28), 3) := by decide +kernel
theorem dX7_save_45 : decode cX7_save 45 = .ok (.aload_n 0, 1) := by decide +kernel
theorem dX7_save_46 : decode cX7_save 46 = .ok (.getfield 19, 3) := by decide +kernel
theorem dX7_save_49 : decode cX7_save 49 = .ok (.iload_n 1, 1) := by decide +kernel
theorem dX7_save_50 : decode cX7_save 50 = .ok (.iconst 1, 1) := by decide +kernel
theorem dX7_save_51 : decode cX7_save 51 = .ok (.bastore, 1) := by decide +kernel
theorem dX7_save_52 : decode cX7_save 52 = .ok (.aload_n 0, 1) := by decide +kernel
theorem dX7_save_53 : decode cX7_save 53 = .ok (.getfield 7, 3) := by decide +kernel
theorem dX7_save_56 : decode cX7_save 56 = .ok (.iconst 0, 1) := by decide +kernel
theorem dX7_save_57 : decode cX7_save 57 = .ok (.iaload, 1) := by decide +kernel
theorem dX7_save_58 : decode cX7_save 58 = .ok (.ireturn, 1) := by decide +kernel
set_option maxRecDepth 20000 in
theorem ggX7_restore_X7_in : GoodIn wsX7_restore wsX7_in := goodIn_r _ [7] rfl (by decide +kernel)
set_option maxRecDepth 20000 in
theorem gX7_restore_X7_in : GoodIn wsX7_restore (va_wsS RX7 35 yX7_in wsX7_in) := goodIn_app (goodIn_of _ (by decide +kernel)) ggX7_restore_X7_in
theorem dX7_restore_0 : decode cX7_restore 0 = .ok (.iload_n 1, 1) := by decide +kernel
theorem dX7_restore_1 : decode cX7_restore 1 = .ok (.iconst 0, 1) := by decide +kernel
theorem dX7_restore_2 : decode cX7_restore 2 = .ok (.iconst 1, 1) := by decide +kernel
theorem dX7_restore_3 : decode cX7_restore 3 = .ok (.invokestatic 35, 3) := by decide +kernel
theorem dX7_restore_6 : decode cX7_restore 6 = .ok (.ifCond .ne 6, 3) := by decide +kernel
theorem dX7_restore_9 : decode cX7_restore 9 = .ok (.bipush (-2), 2) := by decide +kernel
theorem dX7_restore_11 : decode cX7_restore 11 = .ok (.ireturn, 1) := by decide +kernel
theorem dX7_restore_12 : decode cX7_restore 12 = .ok (.aload_n 0, 1) := by decide +kernel
theorem dX7_restore_13 : decode cX7_restore 13 = .ok (.getfield 19, 3) := by decide +kernel
theorem dX7_restore_16 : decode cX7_restore 16 = .ok (.iload_n 1, 1) := by decide +kernel
theorem dX7_restore_17 : decode cX7_restore 17 = .ok (.baload, 1) := by decide +kernel
theorem dX7_restore_18 : decode cX7_restore 18 = .ok (.ifCond .ne 6, 3) := by decide +kernel
theorem dX7_restore_21 : decode cX7_restore 21 = .ok (.bipush (-5), 2) := by decide +kernel
theorem dX7_restore_23 : decode cX7_restore 23 = .ok (.ireturn, 1) := by decide +kernel
theorem dX7_restore_24 : decode cX7_restore 24 = .ok (.iconst 0, 1) := by decide +kernel
theorem dX7_restore_25 : decode cX7_restore 25 = .ok (.istore_n 2, 1) := by decide +kernel
theorem dX7_restore_26 : decode cX7_restore 26 = .ok (.iload_n 2, 1) := by decide +kernel
theorem dX7_restore_27 : decode cX7_restore 27 = .ok (.sipush 478, 3) := by decide +kernel
theorem dX7_restore_30 : decode cX7_restore 30 = .ok (.if_icmp .ge 27, 3) := by decide +kernel
theorem dX7_restore_33 : decode cX7_restore 33 = .ok (.aload_n 0, 1) := by decide +kernel
theorem dX7_restore_34 : decode cX7_restore 34 = .ok (.getfield 7, 3) := by decide +kernel
theorem dX7_restore_37 : decode cX7_restore 37 = .ok (.iload_n 2, 1) := by decide +kernel
theorem dX7_restore_38 : decode cX7_restore 38 = .ok (.aload_n 0, 1) := by decide +kernel
theorem dX7_restore_39 : decode cX7_restore 39 = .ok (.getfield 16, 3) := by decide +kernel
theorem dX7_restore_42 : decode cX7_restore 42 = .ok (.sipush 478, 3) := by decide +kernel
theorem dX7_restore_45 : decode cX7_restore 45 = .ok (.iload_n 1, 1) := by decide +kernel
theorem dX7_restore_46 : decode cX7_restore 46 = .ok (.imul, 1) := by decide +kernel
theorem dX7_restore_47 : decode cX7_restore 47 = .ok (.iload_n 2, 1) := by decide +kernel
theorem dX7_restore_48 : decode cX7_restore 48 = .ok (.iadd, 1) := by decide +kernel
theorem dX7_restore_49 : decode cX7_restore 49 = .ok (.iaload, 1) := by decide +kernel
theorem dX7_restore_50 : decode cX7_restore 50 = .ok (.iastore, 1) := by decide +kernel
theorem dX7_restore_51 : decode cX7_restore 51 = .ok (.iinc 2 1, 3) := by decide +kernel
theorem dX7_restore_54 : decode cX7_restore 54 = .ok (.goto (-28), 3) := by decide +kernel
theorem dX7_restore_57 : decode cX7_restore 57 = .ok (.aload_n 0, 1) := by decide +kernel
theorem dX7_restore_58 : decode cX7_restore 58 = .ok (.getfield 7, 3) := by decide +kernel
theorem dX7_restore_61 : decode cX7_restore 61 = .ok (.iconst 0, 1) := by decide +kernel
theorem dX7_restore_62 : decode cX7_restore 62 = .ok (.iaload, 1) := by decide +kernel
theorem dX7_restore_63 : decode cX7_restore 63 = .ok (.ireturn, 1) := by decide +kernel
theorem dJ9_max_7cf53_0 : decode cJ9_max_7cf53 0 = .ok (.iload_n 0, 1) := by decide +kernel
theorem dJ9_max_7cf53_1 : decode cJ9_max_7cf53 1 = .ok (.iload_n 1, 1) := by decide +kernel
theorem dJ9_max_7cf53_2 : decode cJ9_max_7cf53 2 = .ok (.if_icmp .lt 7, 3) := by decide +kernel
theorem dJ9_max_7cf53_5 : decode cJ9_max_7cf53 5 = .ok (.iload_n 0, 1) := by decide +kernel
theorem dJ9_max_7cf53_6 : decode cJ9_max_7cf53 6 = .ok (.goto 4, 3) := by decide +kernel
theorem dJ9_max_7cf53_9 : decode cJ9_max_7cf53 9 = .ok (.iload_n 1, 1) := by decide +kernel
theorem dJ9_max_7cf53_10 : decode cJ9_max_7cf53 10 = .ok (.ireturn, 1) := by decide +kernel
theorem dJ9_min_7cf53_0 : decode cJ9_min_7cf53 0 = .ok (.iload_n 0, 1) := by decide +kernel
theorem dJ9_min_7cf53_1 : decode cJ9_min_7cf53 1 = .ok (.iload_n 1, 1) := by decide +kernel
theorem dJ9_min_7cf53_2 : decode cJ9_min_7cf53 2 = .ok (.if_icmp .gt 7, 3) := by decide +kernel
theorem dJ9_min_7cf53_5 : decode cJ9_min_7cf53 5 = .ok (.iload_n 0, 1) := by decide +kernel
theorem dJ9_min_7cf53_6 : decode cJ9_min_7cf53 6 = .ok (.goto 4, 3) := by decide +kernel
theorem dJ9_min_7cf53_9 : decode cJ9_min_7cf53 9 = .ok (.iload_n 1, 1) := by decide +kernel
theorem dJ9_min_7cf53_10 : decode cJ9_min_7cf53 10 = .ok (.ireturn, 1) := by decide +kernel
set_option maxRecDepth 20000 in
theorem ggL_law_X6_init : GoodIn wsL_law wsX6_init := goodIn_r _ [9, 10, 11, 12, 13, 14, 15, 16, 17, 18, 19, 20, 21, 22, 23, 24, 25, 26, 27, 28, 29, 30, 31, 32, 33, 34, 35, 36, 37, 38, 39, 40, 41, 42, 43, 44, 45, 46, 47, 48, 49, 50, 51, 52, 53, 54, 55, 56, 57, 58, 59, 60, 61, 62, 63, 64, 65, 66, 67, 68, 69, 786, 787, 788, 789, 790, 791, 792, 793, 794, 769, 770, 771, 772, 773, 795, 796, 797, 798, 799, 800, 801, 802, 803, 804, 805, 806, 807, 808, 809, 810, 811, 812, 813, 814, 815, 816, 817, 818, 819, 820, 821, 822] rfl (by decide +kernel)
set_option maxRecDepth 20000 in
theorem gL_law_X6_init : GoodIn wsL_law (wsX6_init) := ggL_law_X6_init
set_option maxRecDepth 20000 in
theorem ggL_law_X7_init : GoodIn wsL_law wsX7_init := goodIn_r _ [72, 73, 11, 12, 39, 74, 75, 76, 18, 77, 78, 79, 80, 81, 774, 775, 776, 777, 778, 779, 780, 781, 782, 783, 784, 785] rfl (by decide +kernel)
set_option maxRecDepth 20000 in
theorem gL_law_X7_init : GoodIn wsL_law (wsX7_init) := ggL_law_X7_init
set_option maxRecDepth 20000 in
theorem ggL_law_X6_route : GoodIn wsL_law wsX6_route := goodIn_r _ [85, 16, 86, 87, 88, 89, 15, 90, 33, 91, 92, 93, 769, 770, 771, 772, 773, 786, 787, 788, 789, 790, 791, 792, 793, 794, 809, 810] rfl (by decide +kernel)
set_option maxRecDepth 20000 in
theorem gL_law_X6_route : GoodIn wsL_law (wsV RL 13 RX6 yX6_route wsX6_route) := goodIn_app (goodIn_of _ (by decide +kernel)) ggL_law_X6_route
set_option maxRecDepth 20000 in
theorem ggL_law_X7_route : GoodIn wsL_law wsX7_route := goodIn_r _ [97, 74, 98, 99, 5, 100, 774, 775, 776, 777, 778, 779, 780, 781, 782, 783, 784, 785] rfl (by decide +kernel)
set_option maxRecDepth 20000 in
theorem gL_law_X7_route : GoodIn wsL_law (wsV RL 17 RX7 yX7_route wsX7_route) := goodIn_app (goodIn_of _ (by decide +kernel)) ggL_law_X7_route
set_option maxRecDepth 20000 in
theorem ggL_law_X6_buffer : GoodIn wsL_law wsX6_buffer := goodIn_r _ [104, 16, 105, 106, 107, 108, 109, 110, 15, 111, 91, 769, 770, 771, 772, 773, 786, 787, 788, 789, 790, 791, 792, 793, 794, 809, 810] rfl (by decide +kernel)
set_option maxRecDepth 20000 in
theorem gL_law_X6_buffer : GoodIn wsL_law (wsV RL 18 RX6 yX6_buffer wsX6_buffer) := goodIn_app (goodIn_of _ (by decide +kernel)) ggL_law_X6_buffer
set_option maxRecDepth 20000 in
theorem ggL_law_X7_buffer : GoodIn wsL_law wsX7_buffer := goodIn_r _ [115, 74, 116, 117, 118, 5, 119, 98, 99, 100, 120, 121, 122, 123, 124, 125, 126, 127, 774, 775, 776, 777, 778, 779, 780, 781, 782, 783, 784, 785] rfl (by decide +kernel)
set_option maxRecDepth 20000 in
theorem gL_law_X7_buffer : GoodIn wsL_law (wsV RL 21 RX7 yX7_buffer wsX7_buffer) := goodIn_app (goodIn_of _ (by decide +kernel)) ggL_law_X7_buffer
set_option maxRecDepth 20000 in
theorem ggL_law_X6_join : GoodIn wsL_law wsX6_join := goodIn_r _ [131, 16, 132, 133, 134, 135, 15, 136, 137, 769, 770, 771, 772, 773, 786, 787, 788, 789, 790, 791, 792, 793, 794] rfl (by decide +kernel)
set_option maxRecDepth 20000 in
theorem gL_law_X6_join : GoodIn wsL_law (wsV RL 22 RX6 yX6_join wsX6_join) := goodIn_app (goodIn_of _ (by decide +kernel)) ggL_law_X6_join
set_option maxRecDepth 20000 in
theorem ggL_law_X7_join : GoodIn wsL_law wsX7_join := goodIn_r _ [141, 74, 142, 143, 144, 5, 145, 774, 775, 776, 777, 778, 779, 780, 781, 782, 783, 784, 785] rfl (by decide +kernel)
set_option maxRecDepth 20000 in
theorem gL_law_X7_join : GoodIn wsL_law (wsV RL 26 RX7 yX7_join wsX7_join) := goodIn_app (goodIn_of _ (by decide +kernel)) ggL_law_X7_join
set_option maxRecDepth 20000 in
theorem ggL_law_X6_set : GoodIn wsL_law wsX6_set := goodIn_r _ [149, 150, 151, 152, 16, 153, 769, 770, 771, 772, 773, 786, 787, 788, 789, 790, 791, 792, 793, 794] rfl (by decide +kernel)
set_option maxRecDepth 20000 in
theorem gL_law_X6_set : GoodIn wsL_law (wsV RL 27 RX6 yX6_set wsX6_set) := goodIn_app (goodIn_of _ (by decide +kernel)) ggL_law_X6_set
set_option maxRecDepth 20000 in
theorem ggL_law_X7_set : GoodIn wsL_law wsX7_set := goodIn_r _ [157, 74, 158, 159, 5, 160, 161, 98, 99, 100, 162, 163, 164, 165, 774, 775, 776, 777, 778, 779, 780, 781, 782, 783, 784, 785] rfl (by decide +kernel)
set_option maxRecDepth 20000 in
theorem gL_law_X7_set : GoodIn wsL_law (wsV RL 30 RX7 yX7_set wsX7_set) := goodIn_app (goodIn_of _ (by decide +kernel)) ggL_law_X7_set
set_option maxRecDepth 20000 in
theorem ggL_law_X6_apply : GoodIn wsL_law wsX6_apply := goodIn_r _ [169, 16, 170, 171, 172, 173, 174, 15, 175, 137, 176, 177, 178, 179, 180, 109, 110, 111, 91, 181, 2, 182, 183, 184, 185, 186, 187, 38, 188, 189, 190, 191, 192, 37, 193, 194, 195, 46, 196, 197, 198, 199, 200, 201, 202, 203, 204, 205, 206, 207, 208, 209, 210, 211, 44, 212, 53, 213, 214, 215, 216, 217, 218, 219, 220, 221, 769, 770, 771, 772, 773, 786, 787, 788, 789, 790, 791, 792, 793, 794, 814, 815, 816, 817, 818, 819, 820, 821, 822, 811, 812, 813] rfl (by decide +kernel)
set_option maxRecDepth 20000 in
theorem gL_law_X6_apply : GoodIn wsL_law (wsV RL 31 RX6 yX6_apply wsX6_apply) := goodIn_app (goodIn_of _ (by decide +kernel)) ggL_law_X6_apply
set_option maxRecDepth 20000 in
theorem ggL_law_X7_apply : GoodIn wsL_law wsX7_apply := goodIn_r _ [225, 74, 226, 227, 228, 5, 229, 98, 99, 100, 116, 117, 118, 119, 230, 231, 232, 233, 234, 235, 236, 237, 238, 239, 240, 241, 242, 243, 244, 245, 246, 247, 248, 249, 250, 251, 252, 253, 254, 255, 256, 257, 258, 259, 260, 774, 775, 776, 777, 778, 779, 780, 781, 782, 783, 784, 785] rfl (by decide +kernel)
set_option maxRecDepth 20000 in
theorem gL_law_X7_apply : GoodIn wsL_law (wsV RL 35 RX7 yX7_apply wsX7_apply) := goodIn_app (goodIn_of _ (by decide +kernel)) ggL_law_X7_apply
set_option maxRecDepth 20000 in
theorem ggL_law_X6_lottery : GoodIn wsL_law wsX6_lottery := goodIn_r _ [264, 16, 23, 153, 176, 177, 178, 15, 179, 180, 109, 110, 111, 91, 181, 2, 182, 183, 184, 185, 186, 187, 38, 265, 266, 267, 268, 192, 37, 269, 198, 199, 200, 46, 201, 202, 203, 270, 271, 272, 22, 273, 274, 275, 276, 277, 278, 60, 61, 279, 62, 280, 281, 282, 283, 284, 35, 217, 219, 285, 210, 211, 44, 212, 53, 286, 287, 288, 289, 40, 290, 291, 292, 293, 294, 33, 93, 295, 296, 297, 298, 92, 299, 300, 301, 302, 221, 303, 304, 305, 306, 208, 307, 308, 309, 310, 63, 64, 311, 312, 313, 314, 315, 316, 317, 318, 319, 320, 321, 322, 323, 324, 325, 326, 327, 328, 329, 330, 331, 332, 333, 334, 335, 769, 770, 771, 772, 773, 786, 787, 788, 789, 790, 791, 792, 793, 794, 814, 815, 816, 817, 818, 819, 820, 821, 822, 795, 796, 797, 798, 799, 800, 801, 811, 812, 813, 809, 810] rfl (by decide +kernel)
set_option maxRecDepth 20000 in
theorem gL_law_X6_lottery : GoodIn wsL_law (wsV RL 36 RX6 yX6_lottery wsX6_lottery) := goodIn_app (goodIn_of _ (by decide +kernel)) ggL_law_X6_lottery
set_option maxRecDepth 20000 in
theorem ggL_law_X7_lottery : GoodIn wsL_law wsX7_lottery := goodIn_r _ [339, 74, 116, 117, 118, 5, 119, 98, 99, 100, 230, 231, 232, 233, 234, 235, 236, 340, 341, 342, 343, 245, 246, 247, 248, 241, 242, 243, 244, 344, 345, 346, 347, 79, 348, 349, 350, 351, 80, 249, 250, 251, 252, 253, 254, 255, 256, 352, 353, 354, 355, 162, 163, 164, 165, 257, 258, 259, 260, 356, 357, 358, 359, 360, 361, 362, 363, 364, 365, 366, 367, 368, 369, 120, 121, 122, 123, 124, 125, 126, 127, 370, 371, 372, 373, 374, 375, 376, 377, 378, 379, 380, 381, 142, 143, 144, 145, 774, 775, 776, 777, 778, 779, 780, 781, 782, 783, 784, 785] rfl (by decide +kernel)
set_option maxRecDepth 20000 in
theorem gL_law_X7_lottery : GoodIn wsL_law (wsV RL 39 RX7 yX7_lottery wsX7_lottery) := goodIn_app (goodIn_of _ (by decide +kernel)) ggL_law_X7_lottery
set_option maxRecDepth 20000 in
theorem ggL_law_X6_cancel : GoodIn wsL_law wsX6_cancel := goodIn_r _ [385, 16, 386, 387, 388, 389, 390, 391, 392, 393, 15, 394, 192, 395, 205, 206, 46, 207, 208, 396, 397, 398, 399, 219, 187, 335, 400, 401, 402, 403, 37, 35, 217, 290, 404, 184, 185, 186, 38, 181, 2, 182, 405, 292, 293, 294, 33, 93, 295, 296, 297, 298, 92, 299, 300, 301, 302, 221, 303, 304, 305, 306, 198, 199, 200, 201, 202, 203, 406, 407, 408, 409, 269, 410, 282, 283, 284, 285, 210, 211, 44, 212, 53, 411, 332, 333, 334, 40, 769, 770, 771, 772, 773, 786, 787, 788, 789, 790, 791, 792, 793, 794, 814, 815, 816, 817, 818, 819, 820, 821, 822, 811, 812, 813, 809, 810] rfl (by decide +kernel)
set_option maxRecDepth 20000 in
theorem gL_law_X6_cancel : GoodIn wsL_law (wsV RL 40 RX6 yX6_cancel wsX6_cancel) := goodIn_app (goodIn_of _ (by decide +kernel)) ggL_law_X6_cancel
set_option maxRecDepth 20000 in
theorem ggL_law_X7_cancel : GoodIn wsL_law wsX7_cancel := goodIn_r _ [415, 74, 416, 417, 418, 5, 419, 98, 99, 100, 241, 242, 243, 244, 257, 258, 259, 260, 420, 421, 422, 423, 366, 367, 368, 369, 120, 121, 122, 123, 124, 125, 126, 127, 370, 371, 372, 373, 245, 246, 247, 248, 424, 425, 426, 427, 253, 254, 255, 256, 249, 250, 251, 252, 233, 234, 235, 236, 374, 375, 376, 377, 162, 163, 164, 165, 774, 775, 776, 777, 778, 779, 780, 781, 782, 783, 784, 785] rfl (by decide +kernel)
set_option maxRecDepth 20000 in
theorem gL_law_X7_cancel : GoodIn wsL_law (wsV RL 44 RX7 yX7_cancel wsX7_cancel) := goodIn_app (goodIn_of _ (by decide +kernel)) ggL_law_X7_cancel
set_option maxRecDepth 20000 in
theorem ggL_law_X6_close : GoodIn wsL_law wsX6_close := goodIn_r _ [431, 16, 432, 433, 181, 2, 182, 183, 184, 185, 15, 186, 187, 38, 434, 435, 436, 437, 192, 37, 269, 219, 335, 438, 35, 217, 290, 439, 440, 441, 442, 443, 40, 444, 445, 446, 447, 221, 218, 404, 295, 296, 297, 298, 33, 92, 299, 300, 301, 302, 303, 304, 305, 46, 306, 208, 198, 199, 200, 201, 202, 203, 320, 321, 322, 323, 769, 770, 771, 772, 773, 786, 787, 788, 789, 790, 791, 792, 793, 794, 814, 815, 816, 817, 818, 819, 820, 821, 822, 811, 812, 813, 809, 810] rfl (by decide +kernel)
set_option maxRecDepth 20000 in
theorem gL_law_X6_close : GoodIn wsL_law (wsV RL 45 RX6 yX6_close wsX6_close) := goodIn_app (goodIn_of _ (by decide +kernel)) ggL_law_X6_close
set_option maxRecDepth 20000 in
theorem ggL_law_X7_close : GoodIn wsL_law wsX7_close := goodIn_r _ [451, 74, 230, 231, 5, 232, 98, 99, 100, 233, 234, 235, 236, 241, 242, 243, 244, 452, 453, 454, 455, 162, 163, 164, 165, 120, 121, 122, 123, 370, 371, 372, 373, 245, 246, 247, 248, 257, 258, 259, 260, 456, 457, 458, 459, 253, 254, 255, 256, 142, 143, 144, 145, 460, 461, 462, 463, 774, 775, 776, 777, 778, 779, 780, 781, 782, 783, 784, 785] rfl (by decide +kernel)
set_option maxRecDepth 20000 in
theorem gL_law_X7_close : GoodIn wsL_law (wsV RL 48 RX7 yX7_close wsX7_close) := goodIn_app (goodIn_of _ (by decide +kernel)) ggL_law_X7_close
set_option maxRecDepth 20000 in
theorem ggL_law_X6_standby : GoodIn wsL_law wsX6_standby := goodIn_r _ [467, 16, 386, 387, 390, 468, 469, 389, 470, 391, 392, 393, 15, 394, 192, 183, 184, 185, 186, 187, 38, 181, 2, 182, 471, 282, 283, 284, 35, 217, 219, 285, 210, 211, 44, 212, 53, 472, 296, 297, 298, 33, 92, 299, 300, 301, 302, 37, 221, 303, 304, 305, 46, 306, 208, 198, 199, 200, 201, 202, 203, 473, 332, 333, 334, 269, 40, 335, 769, 770, 771, 772, 773, 786, 787, 788, 789, 790, 791, 792, 793, 794, 814, 815, 816, 817, 818, 819, 820, 821, 822, 811, 812, 813, 809, 810] rfl (by decide +kernel)
set_option maxRecDepth 20000 in
theorem gL_law_X6_standby : GoodIn wsL_law (wsV RL 49 RX6 yX6_standby wsX6_standby) := goodIn_app (goodIn_of _ (by decide +kernel)) ggL_law_X6_standby
set_option maxRecDepth 20000 in
theorem ggL_law_X7_standby : GoodIn wsL_law wsX7_standby := goodIn_r _ [477, 74, 416, 417, 418, 5, 419, 98, 99, 100, 241, 242, 243, 244, 478, 479, 480, 481, 233, 234, 235, 236, 249, 250, 251, 252, 253, 254, 255, 256, 120, 121, 122, 123, 370, 371, 372, 373, 245, 246, 247, 248, 374, 375, 376, 377, 162, 163, 164, 165, 257, 258, 259, 260, 774, 775, 776, 777, 778, 779, 780, 781, 782, 783, 784, 785] rfl (by decide +kernel)
set_option maxRecDepth 20000 in
theorem gL_law_X7_standby : GoodIn wsL_law (wsV RL 52 RX7 yX7_standby wsX7_standby) := goodIn_app (goodIn_of _ (by decide +kernel)) ggL_law_X7_standby
set_option maxRecDepth 20000 in
theorem ggL_law_X6_show : GoodIn wsL_law wsX6_show := goodIn_r _ [485, 16, 386, 387, 390, 468, 486, 391, 392, 393, 15, 394, 192, 769, 770, 771, 772, 773, 786, 787, 788, 789, 790, 791, 792, 793, 794, 814, 815, 816, 817, 818, 819, 820, 821, 822] rfl (by decide +kernel)
set_option maxRecDepth 20000 in
theorem gL_law_X6_show : GoodIn wsL_law (wsV RL 53 RX6 yX6_show wsX6_show) := goodIn_app (goodIn_of _ (by decide +kernel)) ggL_law_X6_show
set_option maxRecDepth 20000 in
theorem ggL_law_X7_show : GoodIn wsL_law wsX7_show := goodIn_r _ [490, 416, 417, 418, 5, 419, 74, 98, 99, 100, 241, 242, 243, 244, 478, 479, 480, 481, 257, 258, 259, 260, 774, 775, 776, 777, 778, 779, 780, 781, 782, 783, 784, 785] rfl (by decide +kernel)
set_option maxRecDepth 20000 in
theorem gL_law_X7_show : GoodIn wsL_law (wsV RL 56 RX7 yX7_show wsX7_show) := goodIn_app (goodIn_of _ (by decide +kernel)) ggL_law_X7_show
set_option maxRecDepth 20000 in
theorem ggL_law_X6_end : GoodIn wsL_law wsX6_end := goodIn_r _ [494, 16, 468, 495, 496, 497, 15, 498, 192, 37, 269, 219, 187, 439, 35, 217, 40, 499, 500, 501, 44, 502, 503, 53, 504, 505, 446, 506, 320, 321, 322, 323, 198, 199, 200, 46, 201, 202, 203, 769, 770, 771, 772, 773, 786, 787, 788, 789, 790, 791, 792, 793, 794, 814, 815, 816, 817, 818, 819, 820, 821, 822, 811, 812, 813] rfl (by decide +kernel)
set_option maxRecDepth 20000 in
theorem gL_law_X6_end : GoodIn wsL_law (wsV RL 57 RX6 yX6_end wsX6_end) := goodIn_app (goodIn_of _ (by decide +kernel)) ggL_law_X6_end
set_option maxRecDepth 20000 in
theorem ggL_law_X7_end : GoodIn wsL_law wsX7_end := goodIn_r _ [510, 74, 478, 479, 480, 5, 481, 241, 242, 243, 244, 257, 258, 259, 260, 511, 512, 513, 514, 253, 254, 255, 256, 142, 143, 144, 145, 162, 163, 164, 165, 460, 461, 462, 463, 774, 775, 776, 777, 778, 779, 780, 781, 782, 783, 784, 785] rfl (by decide +kernel)
set_option maxRecDepth 20000 in
theorem gL_law_X7_end : GoodIn wsL_law (wsV RL 60 RX7 yX7_end wsX7_end) := goodIn_app (goodIn_of _ (by decide +kernel)) ggL_law_X7_end
set_option maxRecDepth 20000 in
theorem ggL_law_X6_onRoute : GoodIn wsL_law wsX6_onRoute := goodIn_r _ [518, 16, 105, 106, 107, 519, 505, 446, 506, 176, 177, 178, 15, 179, 180, 109, 110, 111, 91, 181, 2, 182, 520, 300, 301, 302, 192, 37, 221, 303, 304, 305, 46, 306, 208, 198, 199, 200, 201, 202, 203, 291, 292, 293, 294, 33, 93, 295, 296, 297, 298, 92, 299, 265, 266, 267, 268, 269, 769, 770, 771, 772, 773, 786, 787, 788, 789, 790, 791, 792, 793, 794, 809, 810, 814, 815, 816, 817, 818, 819, 820, 821, 822] rfl (by decide +kernel)
set_option maxRecDepth 20000 in
theorem gL_law_X6_onRoute : GoodIn wsL_law (wsV RL 61 RX6 yX6_onRoute wsX6_onRoute) := goodIn_app (goodIn_of _ (by decide +kernel)) ggL_law_X6_onRoute
set_option maxRecDepth 20000 in
theorem ggL_law_X7_onRoute : GoodIn wsL_law wsX7_onRoute := goodIn_r _ [524, 116, 117, 118, 5, 119, 74, 98, 99, 100, 230, 231, 232, 120, 121, 122, 123, 124, 125, 126, 127, 370, 371, 372, 373, 241, 242, 243, 244, 245, 246, 247, 248, 366, 367, 368, 369, 340, 341, 342, 343, 774, 775, 776, 777, 778, 779, 780, 781, 782, 783, 784, 785] rfl (by decide +kernel)
set_option maxRecDepth 20000 in
theorem gL_law_X7_onRoute : GoodIn wsL_law (wsV RL 65 RX7 yX7_onRoute wsX7_onRoute) := goodIn_app (goodIn_of _ (by decide +kernel)) ggL_law_X7_onRoute
set_option maxRecDepth 20000 in
theorem ggL_law_X6_climber : GoodIn wsL_law wsX6_climber := goodIn_r _ [528, 16, 170, 529, 530, 531, 172, 173, 174, 15, 175, 137, 532, 533, 534, 535, 192, 37, 269, 193, 194, 195, 46, 196, 197, 536, 537, 538, 539, 335, 540, 541, 542, 543, 438, 544, 545, 546, 547, 769, 770, 771, 772, 773, 786, 787, 788, 789, 790, 791, 792, 793, 794, 811, 812, 813, 814, 815, 816, 817, 818, 819, 820, 821, 822] rfl (by decide +kernel)
set_option maxRecDepth 20000 in
theorem gL_law_X6_climber : GoodIn wsL_law (wsV RL 66 RX6 yX6_climber wsX6_climber) := goodIn_app (goodIn_of _ (by decide +kernel)) ggL_law_X6_climber
set_option maxRecDepth 20000 in
theorem ggL_law_X7_climber : GoodIn wsL_law wsX7_climber := goodIn_r _ [551, 226, 227, 228, 5, 229, 74, 98, 99, 100, 253, 254, 255, 256, 552, 553, 554, 555, 241, 242, 243, 244, 774, 775, 776, 777, 778, 779, 780, 781, 782, 783, 784, 785] rfl (by decide +kernel)
set_option maxRecDepth 20000 in
theorem gL_law_X7_climber : GoodIn wsL_law (wsV RL 69 RX7 yX7_climber wsX7_climber) := goodIn_app (goodIn_of _ (by decide +kernel)) ggL_law_X7_climber
set_option maxRecDepth 20000 in
theorem ggL_law_X6_application : GoodIn wsL_law wsX6_application := goodIn_r _ [559, 16, 386, 560, 389, 390, 469, 387, 470, 388, 486, 561, 391, 392, 393, 15, 394, 192, 562, 287, 288, 289, 40, 35, 217, 290, 769, 770, 771, 772, 773, 786, 787, 788, 789, 790, 791, 792, 793, 794, 814, 815, 816, 817, 818, 819, 820, 821, 822, 811, 812, 813] rfl (by decide +kernel)
set_option maxRecDepth 20000 in
theorem gL_law_X6_application : GoodIn wsL_law (wsV RL 70 RX6 yX6_application wsX6_application) := goodIn_app (goodIn_of _ (by decide +kernel)) ggL_law_X6_application
set_option maxRecDepth 20000 in
theorem ggL_law_X7_application : GoodIn wsL_law wsX7_application := goodIn_r _ [566, 416, 417, 418, 5, 419, 74, 98, 99, 100, 241, 242, 243, 244, 352, 353, 354, 355, 162, 163, 164, 165, 253, 254, 255, 256, 774, 775, 776, 777, 778, 779, 780, 781, 782, 783, 784, 785] rfl (by decide +kernel)
set_option maxRecDepth 20000 in
theorem gL_law_X7_application : GoodIn wsL_law (wsV RL 73 RX7 yX7_application wsX7_application) := goodIn_app (goodIn_of _ (by decide +kernel)) ggL_law_X7_application
set_option maxRecDepth 20000 in
theorem ggL_law_X6_count : GoodIn wsL_law wsX6_count := goodIn_r _ [570, 16, 153, 468, 86, 132, 171, 27, 571, 532, 533, 534, 15, 535, 192, 37, 269, 193, 194, 195, 46, 196, 197, 536, 537, 538, 539, 335, 540, 541, 542, 543, 438, 572, 573, 574, 575, 38, 769, 770, 771, 772, 773, 786, 787, 788, 789, 790, 791, 792, 793, 794, 802, 803, 804, 805, 806, 807, 808, 814, 815, 816, 817, 818, 819, 820, 821, 822] rfl (by decide +kernel)
set_option maxRecDepth 20000 in
theorem gL_law_X6_count : GoodIn wsL_law (wsV RL 74 RX6 yX6_count wsX6_count) := goodIn_app (goodIn_of _ (by decide +kernel)) ggL_law_X6_count
set_option maxRecDepth 20000 in
theorem ggL_law_X7_count : GoodIn wsL_law wsX7_count := goodIn_r _ [579, 74, 580, 98, 99, 5, 100, 581, 582, 583, 584, 241, 242, 243, 244, 162, 163, 164, 165, 585, 586, 587, 588, 774, 775, 776, 777, 778, 779, 780, 781, 782, 783, 784, 785] rfl (by decide +kernel)
set_option maxRecDepth 20000 in
theorem gL_law_X7_count : GoodIn wsL_law (wsV RL 77 RX7 yX7_count wsX7_count) := goodIn_app (goodIn_of _ (by decide +kernel)) ggL_law_X7_count
set_option maxRecDepth 20000 in
theorem ggL_law_X6_nextWaiting : GoodIn wsL_law wsX6_nextWaiting := goodIn_r _ [592, 16, 176, 177, 178, 15, 179, 180, 109, 110, 111, 91, 181, 2, 182, 183, 184, 185, 186, 187, 38, 291, 292, 293, 294, 33, 93, 295, 296, 297, 298, 92, 299, 300, 301, 302, 192, 37, 221, 303, 304, 305, 46, 306, 208, 198, 199, 200, 201, 202, 203, 593, 407, 408, 409, 269, 35, 217, 290, 410, 282, 283, 284, 219, 285, 210, 211, 44, 212, 53, 769, 770, 771, 772, 773, 786, 787, 788, 789, 790, 791, 792, 793, 794, 809, 810, 814, 815, 816, 817, 818, 819, 820, 821, 822, 811, 812, 813] rfl (by decide +kernel)
set_option maxRecDepth 20000 in
theorem gL_law_X6_nextWaiting : GoodIn wsL_law (wsV RL 78 RX6 yX6_nextWaiting wsX6_nextWaiting) := goodIn_app (goodIn_of _ (by decide +kernel)) ggL_law_X6_nextWaiting
set_option maxRecDepth 20000 in
theorem ggL_law_X7_nextWaiting : GoodIn wsL_law wsX7_nextWaiting := goodIn_r _ [597, 74, 116, 117, 118, 5, 119, 98, 99, 100, 230, 231, 232, 366, 367, 368, 369, 120, 121, 122, 123, 124, 125, 126, 127, 370, 371, 372, 373, 241, 242, 243, 244, 245, 246, 247, 248, 424, 425, 426, 427, 253, 254, 255, 256, 249, 250, 251, 252, 233, 234, 235, 236, 774, 775, 776, 777, 778, 779, 780, 781, 782, 783, 784, 785] rfl (by decide +kernel)
set_option maxRecDepth 20000 in
theorem gL_law_X7_nextWaiting : GoodIn wsL_law (wsV RL 81 RX7 yX7_nextWaiting wsX7_nextWaiting) := goodIn_app (goodIn_of _ (by decide +kernel)) ggL_law_X7_nextWaiting
set_option maxRecDepth 20000 in
theorem ggL_law_X6_odds : GoodIn wsL_law wsX6_odds := goodIn_r _ [601, 16, 386, 23, 389, 390, 602, 603, 604, 391, 392, 393, 15, 394, 192, 270, 271, 272, 22, 273, 274, 275, 276, 277, 278, 60, 61, 279, 62, 280, 199, 200, 46, 201, 202, 203, 281, 282, 283, 284, 35, 217, 219, 285, 210, 211, 44, 212, 53, 286, 287, 288, 289, 40, 290, 605, 606, 607, 608, 769, 770, 771, 772, 773, 786, 787, 788, 789, 790, 791, 792, 793, 794, 814, 815, 816, 817, 818, 819, 820, 821, 822, 795, 796, 797, 798, 799, 800, 801, 811, 812, 813] rfl (by decide +kernel)
set_option maxRecDepth 20000 in
theorem gL_law_X6_odds : GoodIn wsL_law (wsV RL 82 RX6 yX6_odds wsX6_odds) := goodIn_app (goodIn_of _ (by decide +kernel)) ggL_law_X6_odds
set_option maxRecDepth 20000 in
theorem ggL_law_X7_odds : GoodIn wsL_law wsX7_odds := goodIn_r _ [612, 74, 613, 416, 417, 418, 5, 419, 98, 99, 100, 241, 242, 243, 244, 249, 250, 251, 252, 253, 254, 255, 256, 245, 246, 247, 248, 352, 353, 354, 355, 162, 163, 164, 165, 774, 775, 776, 777, 778, 779, 780, 781, 782, 783, 784, 785] rfl (by decide +kernel)
set_option maxRecDepth 20000 in
theorem gL_law_X7_odds : GoodIn wsL_law (wsV RL 85 RX7 yX7_odds wsX7_odds) := goodIn_app (goodIn_of _ (by decide +kernel)) ggL_law_X7_odds
set_option maxRecDepth 20000 in
theorem ggL_law_X6_tries : GoodIn wsL_law wsX6_tries := goodIn_r _ [617, 16, 386, 387, 390, 23, 389, 153, 618, 391, 392, 393, 15, 394, 192, 183, 184, 185, 186, 187, 38, 181, 2, 182, 270, 271, 272, 22, 273, 274, 275, 276, 277, 278, 60, 61, 279, 62, 280, 199, 200, 46, 201, 202, 203, 281, 282, 283, 284, 35, 217, 219, 285, 210, 211, 44, 212, 53, 286, 287, 288, 289, 40, 290, 605, 606, 607, 608, 291, 292, 293, 294, 33, 93, 295, 296, 297, 298, 92, 299, 300, 301, 302, 37, 221, 303, 304, 305, 306, 208, 198, 307, 308, 309, 310, 63, 64, 311, 312, 313, 314, 315, 316, 317, 318, 319, 769, 770, 771, 772, 773, 786, 787, 788, 789, 790, 791, 792, 793, 794, 814, 815, 816, 817, 818, 819, 820, 821, 822, 795, 796, 797, 798, 799, 800, 801, 811, 812, 813, 809, 810] rfl (by decide +kernel)
set_option maxRecDepth 20000 in
theorem gL_law_X6_tries : GoodIn wsL_law (wsV RL 86 RX6 yX6_tries wsX6_tries) := goodIn_app (goodIn_of _ (by decide +kernel)) ggL_law_X6_tries
set_option maxRecDepth 20000 in
theorem ggL_law_X7_tries : GoodIn wsL_law wsX7_tries := goodIn_r _ [622, 74, 416, 417, 418, 5, 419, 98, 99, 100, 241, 242, 243, 244, 233, 234, 235, 236, 623, 624, 625, 626, 75, 344, 345, 346, 347, 79, 348, 349, 350, 351, 80, 245, 246, 247, 248, 249, 250, 251, 252, 253, 254, 255, 256, 352, 353, 354, 355, 162, 163, 164, 165, 257, 258, 259, 260, 356, 357, 358, 359, 360, 361, 362, 363, 364, 365, 366, 367, 368, 369, 120, 121, 122, 123, 124, 125, 126, 127, 370, 371, 372, 373, 374, 375, 376, 377, 378, 379, 380, 381, 142, 143, 144, 145, 627, 628, 629, 630, 774, 775, 776, 777, 778, 779, 780, 781, 782, 783, 784, 785] rfl (by decide +kernel)
set_option maxRecDepth 20000 in
theorem gL_law_X7_tries : GoodIn wsL_law (wsV RL 89 RX7 yX7_tries wsX7_tries) := goodIn_app (goodIn_of _ (by decide +kernel)) ggL_law_X7_tries
set_option maxRecDepth 20000 in
theorem ggL_law_X6_put : GoodIn wsL_law wsX6_put := goodIn_r _ [634, 27, 571, 635, 636, 26, 637, 638, 639, 640, 641, 642, 643, 644, 69, 645, 769, 770, 771, 772, 773, 802, 803, 804, 805, 806, 807, 808] rfl (by decide +kernel)
set_option maxRecDepth 20000 in
theorem gL_law_X6_put : GoodIn wsL_law (wsV RL 92 RX6 yX6_put wsX6_put) := goodIn_app (goodIn_of _ (by decide +kernel)) ggL_law_X6_put
set_option maxRecDepth 20000 in
theorem ggL_law_X7_put : GoodIn wsL_law wsX7_put := goodIn_r _ [649, 650, 580, 78, 98, 99, 5, 100, 774, 775, 776, 777, 778, 779, 780, 781, 782, 783, 784, 785] rfl (by decide +kernel)
set_option maxRecDepth 20000 in
theorem gL_law_X7_put : GoodIn wsL_law (wsV RL 96 RX7 yX7_put wsX7_put) := goodIn_app (goodIn_of _ (by decide +kernel)) ggL_law_X7_put
set_option maxRecDepth 20000 in
theorem ggL_law_X6_wipe : GoodIn wsL_law wsX6_wipe := goodIn_r _ [654, 27, 571, 769, 770, 771, 772, 773, 802, 803, 804, 805, 806, 807, 808] rfl (by decide +kernel)
set_option maxRecDepth 20000 in
theorem gL_law_X6_wipe : GoodIn wsL_law (wsV RL 97 RX6 yX6_wipe wsX6_wipe) := goodIn_app (goodIn_of _ (by decide +kernel)) ggL_law_X6_wipe
set_option maxRecDepth 20000 in
theorem ggL_law_X7_wipe : GoodIn wsL_law wsX7_wipe := goodIn_r _ [658, 580, 774, 775, 776, 777, 778, 779, 780, 781, 782, 783, 784, 785] rfl (by decide +kernel)
set_option maxRecDepth 20000 in
theorem gL_law_X7_wipe : GoodIn wsL_law (wsV RL 100 RX7 yX7_wipe wsX7_wipe) := goodIn_app (goodIn_of _ (by decide +kernel)) ggL_law_X7_wipe
set_option maxRecDepth 20000 in
theorem ggL_law_X6_fault : GoodIn wsL_law wsX6_fault := goodIn_r _ [662, 27, 663, 664, 665, 26, 666, 667, 645, 668, 669, 670, 671, 672, 673, 674, 675, 676, 677, 678, 679, 69, 680, 681, 682, 683, 684, 685, 686, 687, 769, 770, 771, 772, 773, 802, 803, 804, 805, 806, 807, 808] rfl (by decide +kernel)
set_option maxRecDepth 20000 in
theorem gL_law_X6_fault : GoodIn wsL_law (wsV RL 101 RX6 yX6_fault wsX6_fault) := goodIn_app (goodIn_of _ (by decide +kernel)) ggL_law_X6_fault
set_option maxRecDepth 20000 in
theorem ggL_law_X7_fault : GoodIn wsL_law wsX7_fault := goodIn_r _ [691, 692, 693, 694, 580, 695, 696, 697, 5, 698, 81, 699, 700, 701, 702, 703, 704, 705, 706, 78, 707, 708, 709, 710, 98, 99, 100, 774, 775, 776, 777, 778, 779, 780, 781, 782, 783, 784, 785] rfl (by decide +kernel)
set_option maxRecDepth 20000 in
theorem gL_law_X7_fault : GoodIn wsL_law (wsV RL 104 RX7 yX7_fault wsX7_fault) := goodIn_app (goodIn_of _ (by decide +kernel)) ggL_law_X7_fault
set_option maxRecDepth 20000 in
theorem ggL_law_X6_load : GoodIn wsL_law wsX6_load := goodIn_r _ [714, 27, 715, 571, 716, 717, 718, 719, 663, 664, 665, 26, 666, 667, 645, 668, 669, 670, 671, 672, 673, 674, 675, 676, 677, 678, 679, 69, 680, 681, 682, 683, 684, 685, 686, 687, 720, 721, 167, 168, 2, 169, 16, 170, 171, 172, 173, 174, 15, 175, 137, 176, 177, 178, 179, 180, 109, 110, 111, 91, 181, 182, 183, 184, 185, 186, 187, 38, 188, 189, 190, 191, 192, 37, 193, 194, 195, 46, 196, 197, 198, 199, 200, 201, 202, 203, 204, 205, 206, 207, 208, 209, 210, 211, 44, 212, 53, 213, 214, 215, 216, 217, 218, 219, 220, 221, 722, 769, 770, 771, 772, 773, 802, 803, 804, 805, 806, 807, 808, 786, 787, 788, 789, 790, 791, 792, 793, 794, 814, 815, 816, 817, 818, 819, 820, 821, 822, 811, 812, 813] rfl (by decide +kernel)
set_option maxRecDepth 20000 in
theorem gL_law_X6_load : GoodIn wsL_law (wsV RL 105 RX6 yX6_load wsX6_load) := goodIn_app (goodIn_of _ (by decide +kernel)) ggL_law_X6_load
set_option maxRecDepth 20000 in
theorem ggL_law_X7_load : GoodIn wsL_law wsX7_load := goodIn_r _ [726, 694, 81, 580, 727, 689, 690, 5, 691, 692, 693, 695, 696, 697, 698, 699, 700, 701, 702, 703, 704, 705, 706, 78, 707, 708, 709, 710, 98, 99, 100, 728, 223, 224, 225, 74, 226, 227, 228, 229, 116, 117, 118, 119, 230, 231, 232, 233, 234, 235, 236, 237, 238, 239, 240, 241, 242, 243, 244, 245, 246, 247, 248, 249, 250, 251, 252, 253, 254, 255, 256, 257, 258, 259, 260, 774, 775, 776, 777, 778, 779, 780, 781, 782, 783, 784, 785] rfl (by decide +kernel)
set_option maxRecDepth 20000 in
theorem gL_law_X7_load : GoodIn wsL_law (wsV RL 108 RX7 yX7_load wsX7_load) := goodIn_app (goodIn_of _ (by decide +kernel)) ggL_law_X7_load
set_option maxRecDepth 20000 in
theorem ggL_law_X6_save : GoodIn wsL_law wsX6_save := goodIn_r _ [732, 17, 16, 19, 468, 733, 734, 735, 15, 736, 187, 91, 137, 192, 33, 35, 37, 38, 40, 737, 738, 739, 42, 740, 741, 742, 743, 744, 745, 44, 746, 747, 503, 53, 748, 749, 750, 46, 751, 197, 203, 202, 752, 753, 208, 754, 755, 756, 769, 770, 771, 772, 773, 786, 787, 788, 789, 790, 791, 792, 793, 794, 809, 810, 811, 812, 813, 814, 815, 816, 817, 818, 819, 820, 821, 822] rfl (by decide +kernel)
set_option maxRecDepth 20000 in
theorem gL_law_X6_save : GoodIn wsL_law (wsV RL 109 RX6 yX6_save wsX6_save) := goodIn_app (goodIn_of _ (by decide +kernel)) ggL_law_X6_save
set_option maxRecDepth 20000 in
theorem ggL_law_X7_save : GoodIn wsL_law wsX7_save := goodIn_r _ [760, 76, 74, 77, 98, 99, 5, 100, 774, 775, 776, 777, 778, 779, 780, 781, 782, 783, 784, 785] rfl (by decide +kernel)
set_option maxRecDepth 20000 in
theorem gL_law_X7_save : GoodIn wsL_law (wsV RL 112 RX7 yX7_save wsX7_save) := goodIn_app (goodIn_of _ (by decide +kernel)) ggL_law_X7_save
set_option maxRecDepth 20000 in
theorem ggL_law_X6_restore : GoodIn wsL_law wsX6_restore := goodIn_r _ [764, 19, 16, 17, 468, 733, 734, 735, 15, 736, 187, 91, 137, 192, 33, 35, 37, 38, 40, 737, 738, 739, 42, 740, 741, 742, 743, 744, 745, 44, 746, 747, 503, 53, 748, 749, 750, 46, 751, 197, 203, 202, 752, 753, 208, 754, 755, 756, 769, 770, 771, 772, 773, 786, 787, 788, 789, 790, 791, 792, 793, 794, 809, 810, 811, 812, 813, 814, 815, 816, 817, 818, 819, 820, 821, 822] rfl (by decide +kernel)
set_option maxRecDepth 20000 in
theorem gL_law_X6_restore : GoodIn wsL_law (wsV RL 113 RX6 yX6_restore wsX6_restore) := goodIn_app (goodIn_of _ (by decide +kernel)) ggL_law_X6_restore
set_option maxRecDepth 20000 in
theorem ggL_law_X7_restore : GoodIn wsL_law wsX7_restore := goodIn_r _ [768, 77, 74, 76, 98, 99, 5, 100, 774, 775, 776, 777, 778, 779, 780, 781, 782, 783, 784, 785] rfl (by decide +kernel)
set_option maxRecDepth 20000 in
theorem gL_law_X7_restore : GoodIn wsL_law (wsV RL 116 RX7 yX7_restore wsX7_restore) := goodIn_app (goodIn_of _ (by decide +kernel)) ggL_law_X7_restore
theorem dL_law_0 : decode cL_law 0 = .ok (.new 7, 3) := by decide +kernel
theorem dL_law_3 : decode cL_law 3 = .ok (.dup, 1) := by decide +kernel
theorem dL_law_4 : decode cL_law 4 = .ok (.invokespecial 9, 3) := by decide +kernel
theorem dL_law_7 : decode cL_law 7 = .ok (.astore_n 1, 1) := by decide +kernel
theorem dL_law_8 : decode cL_law 8 = .ok (.new 10, 3) := by decide +kernel
theorem dL_law_11 : decode cL_law 11 = .ok (.dup, 1) := by decide +kernel
theorem dL_law_12 : decode cL_law 12 = .ok (.invokespecial 12, 3) := by decide +kernel
theorem dL_law_15 : decode cL_law 15 = .ok (.astore_n 2, 1) := by decide +kernel
theorem dL_law_16 : decode cL_law 16 = .ok (.iconst 0, 1) := by decide +kernel
theorem dL_law_17 : decode cL_law 17 = .ok (.istore_n 3, 1) := by decide +kernel
theorem dL_law_18 : decode cL_law 18 = .ok (.iload_n 3, 1) := by decide +kernel
theorem dL_law_19 : decode cL_law 19 = .ok (.aload_n 0, 1) := by decide +kernel
theorem dL_law_20 : decode cL_law 20 = .ok (.arraylength, 1) := by decide +kernel
theorem dL_law_21 : decode cL_law 21 = .ok (.iconst 5, 1) := by decide +kernel
theorem dL_law_22 : decode cL_law 22 = .ok (.isub, 1) := by decide +kernel
theorem dL_law_23 : decode cL_law 23 = .ok (.if_icmp .gt 789, 3) := by decide +kernel
theorem dL_law_26 : decode cL_law 26 = .ok (.aload_n 0, 1) := by decide +kernel
theorem dL_law_27 : decode cL_law 27 = .ok (.iload_n 3, 1) := by decide +kernel
theorem dL_law_28 : decode cL_law 28 = .ok (.iaload, 1) := by decide +kernel
theorem dL_law_29 : decode cL_law 29 = .ok (.bipush 31, 2) := by decide +kernel
theorem dL_law_31 : decode cL_law 31 = .ok (.iand, 1) := by decide +kernel
theorem dL_law_32 : decode cL_law 32 = .ok (.tableswitch 774 0 23 #[112, 145, 178, 191, 224, 277, 310, 333, 356, 379, 402, 415, 458, 491, 524, 547, 580, 603, 636, 689, 702, 715, 728, 751], 112) := by decide +kernel
theorem dL_law_144 : decode cL_law 144 = .ok (.aload_n 1, 1) := by decide +kernel
theorem dL_law_145 : decode cL_law 145 = .ok (.aload_n 0, 1) := by decide +kernel
theorem dL_law_146 : decode cL_law 146 = .ok (.iload_n 3, 1) := by decide +kernel
theorem dL_law_147 : decode cL_law 147 = .ok (.iconst 1, 1) := by decide +kernel
theorem dL_law_148 : decode cL_law 148 = .ok (.iadd, 1) := by decide +kernel
theorem dL_law_149 : decode cL_law 149 = .ok (.iaload, 1) := by decide +kernel
theorem dL_law_150 : decode cL_law 150 = .ok (.aload_n 0, 1) := by decide +kernel
theorem dL_law_151 : decode cL_law 151 = .ok (.iload_n 3, 1) := by decide +kernel
theorem dL_law_152 : decode cL_law 152 = .ok (.iconst 2, 1) := by decide +kernel
theorem dL_law_153 : decode cL_law 153 = .ok (.iadd, 1) := by decide +kernel
theorem dL_law_154 : decode cL_law 154 = .ok (.iaload, 1) := by decide +kernel
theorem dL_law_155 : decode cL_law 155 = .ok (.invokevirtual 13, 3) := by decide +kernel
theorem dL_law_158 : decode cL_law 158 = .ok (.aload_n 2, 1) := by decide +kernel
theorem dL_law_159 : decode cL_law 159 = .ok (.aload_n 0, 1) := by decide +kernel
theorem dL_law_160 : decode cL_law 160 = .ok (.iload_n 3, 1) := by decide +kernel
theorem dL_law_161 : decode cL_law 161 = .ok (.iconst 1, 1) := by decide +kernel
theorem dL_law_162 : decode cL_law 162 = .ok (.iadd, 1) := by decide +kernel
theorem dL_law_163 : decode cL_law 163 = .ok (.iaload, 1) := by decide +kernel
theorem dL_law_164 : decode cL_law 164 = .ok (.aload_n 0, 1) := by decide +kernel
theorem dL_law_165 : decode cL_law 165 = .ok (.iload_n 3, 1) := by decide +kernel
theorem dL_law_166 : decode cL_law 166 = .ok (.iconst 2, 1) := by decide +kernel
theorem dL_law_167 : decode cL_law 167 = .ok (.iadd, 1) := by decide +kernel
theorem dL_law_168 : decode cL_law 168 = .ok (.iaload, 1) := by decide +kernel
theorem dL_law_169 : decode cL_law 169 = .ok (.invokevirtual 17, 3) := by decide +kernel
theorem dL_law_172 : decode cL_law 172 = .ok (.if_icmp .eq 634, 3) := by decide +kernel
theorem dL_law_175 : decode cL_law 175 = .ok (.iconst 0, 1) := by decide +kernel
theorem dL_law_176 : decode cL_law 176 = .ok (.ireturn, 1) := by decide +kernel
theorem dL_law_177 : decode cL_law 177 = .ok (.aload_n 1, 1) := by decide +kernel
theorem dL_law_178 : decode cL_law 178 = .ok (.aload_n 0, 1) := by decide +kernel
theorem dL_law_179 : decode cL_law 179 = .ok (.iload_n 3, 1) := by decide +kernel
theorem dL_law_180 : decode cL_law 180 = .ok (.iconst 1, 1) := by decide +kernel
theorem dL_law_181 : decode cL_law 181 = .ok (.iadd, 1) := by decide +kernel
theorem dL_law_182 : decode cL_law 182 = .ok (.iaload, 1) := by decide +kernel
theorem dL_law_183 : decode cL_law 183 = .ok (.aload_n 0, 1) := by decide +kernel
theorem dL_law_184 : decode cL_law 184 = .ok (.iload_n 3, 1) := by decide +kernel
theorem dL_law_185 : decode cL_law 185 = .ok (.iconst 2, 1) := by decide +kernel
theorem dL_law_186 : decode cL_law 186 = .ok (.iadd, 1) := by decide +kernel
theorem dL_law_187 : decode cL_law 187 = .ok (.iaload, 1) := by decide +kernel
theorem dL_law_188 : decode cL_law 188 = .ok (.invokevirtual 18, 3) := by decide +kernel
theorem dL_law_191 : decode cL_law 191 = .ok (.aload_n 2, 1) := by decide +kernel
theorem dL_law_192 : decode cL_law 192 = .ok (.aload_n 0, 1) := by decide +kernel
theorem dL_law_193 : decode cL_law 193 = .ok (.iload_n 3, 1) := by decide +kernel
theorem dL_law_194 : decode cL_law 194 = .ok (.iconst 1, 1) := by decide +kernel
theorem dL_law_195 : decode cL_law 195 = .ok (.iadd, 1) := by decide +kernel
theorem dL_law_196 : decode cL_law 196 = .ok (.iaload, 1) := by decide +kernel
theorem dL_law_197 : decode cL_law 197 = .ok (.aload_n 0, 1) := by decide +kernel
theorem dL_law_198 : decode cL_law 198 = .ok (.iload_n 3, 1) := by decide +kernel
theorem dL_law_199 : decode cL_law 199 = .ok (.iconst 2, 1) := by decide +kernel
theorem dL_law_200 : decode cL_law 200 = .ok (.iadd, 1) := by decide +kernel
theorem dL_law_201 : decode cL_law 201 = .ok (.iaload, 1) := by decide +kernel
theorem dL_law_202 : decode cL_law 202 = .ok (.invokevirtual 21, 3) := by decide +kernel
theorem dL_law_205 : decode cL_law 205 = .ok (.if_icmp .eq 601, 3) := by decide +kernel
theorem dL_law_208 : decode cL_law 208 = .ok (.iconst 0, 1) := by decide +kernel
theorem dL_law_209 : decode cL_law 209 = .ok (.ireturn, 1) := by decide +kernel
theorem dL_law_210 : decode cL_law 210 = .ok (.aload_n 1, 1) := by decide +kernel
theorem dL_law_211 : decode cL_law 211 = .ok (.invokevirtual 22, 3) := by decide +kernel
theorem dL_law_214 : decode cL_law 214 = .ok (.aload_n 2, 1) := by decide +kernel
theorem dL_law_215 : decode cL_law 215 = .ok (.invokevirtual 26, 3) := by decide +kernel
theorem dL_law_218 : decode cL_law 218 = .ok (.if_icmp .eq 588, 3) := by decide +kernel
theorem dL_law_221 : decode cL_law 221 = .ok (.iconst 0, 1) := by decide +kernel
theorem dL_law_222 : decode cL_law 222 = .ok (.ireturn, 1) := by decide +kernel
theorem dL_law_223 : decode cL_law 223 = .ok (.aload_n 1, 1) := by decide +kernel
theorem dL_law_224 : decode cL_law 224 = .ok (.aload_n 0, 1) := by decide +kernel
theorem dL_law_225 : decode cL_law 225 = .ok (.iload_n 3, 1) := by decide +kernel
theorem dL_law_226 : decode cL_law 226 = .ok (.iconst 1, 1) := by decide +kernel
theorem dL_law_227 : decode cL_law 227 = .ok (.iadd, 1) := by decide +kernel
theorem dL_law_228 : decode cL_law 228 = .ok (.iaload, 1) := by decide +kernel
theorem dL_law_229 : decode cL_law 229 = .ok (.aload_n 0, 1) := by decide +kernel
theorem dL_law_230 : decode cL_law 230 = .ok (.iload_n 3, 1) := by decide +kernel
theorem dL_law_231 : decode cL_law 231 = .ok (.iconst 2, 1) := by decide +kernel
theorem dL_law_232 : decode cL_law 232 = .ok (.iadd, 1) := by decide +kernel
theorem dL_law_233 : decode cL_law 233 = .ok (.iaload, 1) := by decide +kernel
theorem dL_law_234 : decode cL_law 234 = .ok (.invokevirtual 27, 3) := by decide +kernel
theorem dL_law_237 : decode cL_law 237 = .ok (.aload_n 2, 1) := by decide +kernel
theorem dL_law_238 : decode cL_law 238 = .ok (.aload_n 0, 1) := by decide +kernel
theorem dL_law_239 : decode cL_law 239 = .ok (.iload_n 3, 1) := by decide +kernel
theorem dL_law_240 : decode cL_law 240 = .ok (.iconst 1, 1) := by decide +kernel
theorem dL_law_241 : decode cL_law 241 = .ok (.iadd, 1) := by decide +kernel
theorem dL_law_242 : decode cL_law 242 = .ok (.iaload, 1) := by decide +kernel
theorem dL_law_243 : decode cL_law 243 = .ok (.aload_n 0, 1) := by decide +kernel
theorem dL_law_244 : decode cL_law 244 = .ok (.iload_n 3, 1) := by decide +kernel
theorem dL_law_245 : decode cL_law 245 = .ok (.iconst 2, 1) := by decide +kernel
theorem dL_law_246 : decode cL_law 246 = .ok (.iadd, 1) := by decide +kernel
theorem dL_law_247 : decode cL_law 247 = .ok (.iaload, 1) := by decide +kernel
theorem dL_law_248 : decode cL_law 248 = .ok (.invokevirtual 30, 3) := by decide +kernel
theorem dL_law_251 : decode cL_law 251 = .ok (.if_icmp .eq 555, 3) := by decide +kernel
theorem dL_law_254 : decode cL_law 254 = .ok (.iconst 0, 1) := by decide +kernel
theorem dL_law_255 : decode cL_law 255 = .ok (.ireturn, 1) := by decide +kernel
theorem dL_law_256 : decode cL_law 256 = .ok (.aload_n 1, 1) := by decide +kernel
theorem dL_law_257 : decode cL_law 257 = .ok (.aload_n 0, 1) := by decide +kernel
theorem dL_law_258 : decode cL_law 258 = .ok (.iload_n 3, 1) := by decide +kernel
theorem dL_law_259 : decode cL_law 259 = .ok (.iconst 1, 1) := by decide +kernel
theorem dL_law_260 : decode cL_law 260 = .ok (.iadd, 1) := by decide +kernel
theorem dL_law_261 : decode cL_law 261 = .ok (.iaload, 1) := by decide +kernel
theorem dL_law_262 : decode cL_law 262 = .ok (.aload_n 0, 1) := by decide +kernel
theorem dL_law_263 : decode cL_law 263 = .ok (.iload_n 3, 1) := by decide +kernel
theorem dL_law_264 : decode cL_law 264 = .ok (.iconst 2, 1) := by decide +kernel
theorem dL_law_265 : decode cL_law 265 = .ok (.iadd, 1) := by decide +kernel
theorem dL_law_266 : decode cL_law 266 = .ok (.iaload, 1) := by decide +kernel
theorem dL_law_267 : decode cL_law 267 = .ok (.aload_n 0, 1) := by decide +kernel
theorem dL_law_268 : decode cL_law 268 = .ok (.iload_n 3, 1) := by decide +kernel
theorem dL_law_269 : decode cL_law 269 = .ok (.iconst 3, 1) := by decide +kernel
theorem dL_law_270 : decode cL_law 270 = .ok (.iadd, 1) := by decide +kernel
theorem dL_law_271 : decode cL_law 271 = .ok (.iaload, 1) := by decide +kernel
theorem dL_law_272 : decode cL_law 272 = .ok (.aload_n 0, 1) := by decide +kernel
theorem dL_law_273 : decode cL_law 273 = .ok (.iload_n 3, 1) := by decide +kernel
theorem dL_law_274 : decode cL_law 274 = .ok (.iconst 4, 1) := by decide +kernel
theorem dL_law_275 : decode cL_law 275 = .ok (.iadd, 1) := by decide +kernel
theorem dL_law_276 : decode cL_law 276 = .ok (.iaload, 1) := by decide +kernel
theorem dL_law_277 : decode cL_law 277 = .ok (.invokevirtual 31, 3) := by decide +kernel
theorem dL_law_280 : decode cL_law 280 = .ok (.aload_n 2, 1) := by decide +kernel
theorem dL_law_281 : decode cL_law 281 = .ok (.aload_n 0, 1) := by decide +kernel
theorem dL_law_282 : decode cL_law 282 = .ok (.iload_n 3, 1) := by decide +kernel
theorem dL_law_283 : decode cL_law 283 = .ok (.iconst 1, 1) := by decide +kernel
theorem dL_law_284 : decode cL_law 284 = .ok (.iadd, 1) := by decide +kernel
theorem dL_law_285 : decode cL_law 285 = .ok (.iaload, 1) := by decide +kernel
theorem dL_law_286 : decode cL_law 286 = .ok (.aload_n 0, 1) := by decide +kernel
theorem dL_law_287 : decode cL_law 287 = .ok (.iload_n 3, 1) := by decide +kernel
theorem dL_law_288 : decode cL_law 288 = .ok (.iconst 2, 1) := by decide +kernel
theorem dL_law_289 : decode cL_law 289 = .ok (.iadd, 1) := by decide +kernel
theorem dL_law_290 : decode cL_law 290 = .ok (.iaload, 1) := by decide +kernel
theorem dL_law_291 : decode cL_law 291 = .ok (.aload_n 0, 1) := by decide +kernel
theorem dL_law_292 : decode cL_law 292 = .ok (.iload_n 3, 1) := by decide +kernel
theorem dL_law_293 : decode cL_law 293 = .ok (.iconst 3, 1) := by decide +kernel
theorem dL_law_294 : decode cL_law 294 = .ok (.iadd, 1) := by decide +kernel
theorem dL_law_295 : decode cL_law 295 = .ok (.iaload, 1) := by decide +kernel
theorem dL_law_296 : decode cL_law 296 = .ok (.aload_n 0, 1) := by decide +kernel
theorem dL_law_297 : decode cL_law 297 = .ok (.iload_n 3, 1) := by decide +kernel
theorem dL_law_298 : decode cL_law 298 = .ok (.iconst 4, 1) := by decide +kernel
theorem dL_law_299 : decode cL_law 299 = .ok (.iadd, 1) := by decide +kernel
theorem dL_law_300 : decode cL_law 300 = .ok (.iaload, 1) := by decide +kernel
theorem dL_law_301 : decode cL_law 301 = .ok (.invokevirtual 35, 3) := by decide +kernel
theorem dL_law_304 : decode cL_law 304 = .ok (.if_icmp .eq 502, 3) := by decide +kernel
theorem dL_law_307 : decode cL_law 307 = .ok (.iconst 0, 1) := by decide +kernel
theorem dL_law_308 : decode cL_law 308 = .ok (.ireturn, 1) := by decide +kernel
theorem dL_law_309 : decode cL_law 309 = .ok (.aload_n 1, 1) := by decide +kernel
theorem dL_law_310 : decode cL_law 310 = .ok (.aload_n 0, 1) := by decide +kernel
theorem dL_law_311 : decode cL_law 311 = .ok (.iload_n 3, 1) := by decide +kernel
theorem dL_law_312 : decode cL_law 312 = .ok (.iconst 1, 1) := by decide +kernel
theorem dL_law_313 : decode cL_law 313 = .ok (.iadd, 1) := by decide +kernel
theorem dL_law_314 : decode cL_law 314 = .ok (.iaload, 1) := by decide +kernel
theorem dL_law_315 : decode cL_law 315 = .ok (.aload_n 0, 1) := by decide +kernel
theorem dL_law_316 : decode cL_law 316 = .ok (.iload_n 3, 1) := by decide +kernel
theorem dL_law_317 : decode cL_law 317 = .ok (.iconst 2, 1) := by decide +kernel
theorem dL_law_318 : decode cL_law 318 = .ok (.iadd, 1) := by decide +kernel
theorem dL_law_319 : decode cL_law 319 = .ok (.iaload, 1) := by decide +kernel
theorem dL_law_320 : decode cL_law 320 = .ok (.invokevirtual 36, 3) := by decide +kernel
theorem dL_law_323 : decode cL_law 323 = .ok (.aload_n 2, 1) := by decide +kernel
theorem dL_law_324 : decode cL_law 324 = .ok (.aload_n 0, 1) := by decide +kernel
theorem dL_law_325 : decode cL_law 325 = .ok (.iload_n 3, 1) := by decide +kernel
theorem dL_law_326 : decode cL_law 326 = .ok (.iconst 1, 1) := by decide +kernel
theorem dL_law_327 : decode cL_law 327 = .ok (.iadd, 1) := by decide +kernel
theorem dL_law_328 : decode cL_law 328 = .ok (.iaload, 1) := by decide +kernel
theorem dL_law_329 : decode cL_law 329 = .ok (.aload_n 0, 1) := by decide +kernel
theorem dL_law_330 : decode cL_law 330 = .ok (.iload_n 3, 1) := by decide +kernel
theorem dL_law_331 : decode cL_law 331 = .ok (.iconst 2, 1) := by decide +kernel
theorem dL_law_332 : decode cL_law 332 = .ok (.iadd, 1) := by decide +kernel
theorem dL_law_333 : decode cL_law 333 = .ok (.iaload, 1) := by decide +kernel
theorem dL_law_334 : decode cL_law 334 = .ok (.invokevirtual 39, 3) := by decide +kernel
theorem dL_law_337 : decode cL_law 337 = .ok (.if_icmp .eq 469, 3) := by decide +kernel
theorem dL_law_340 : decode cL_law 340 = .ok (.iconst 0, 1) := by decide +kernel
theorem dL_law_341 : decode cL_law 341 = .ok (.ireturn, 1) := by decide +kernel
theorem dL_law_342 : decode cL_law 342 = .ok (.aload_n 1, 1) := by decide +kernel
theorem dL_law_343 : decode cL_law 343 = .ok (.aload_n 0, 1) := by decide +kernel
theorem dL_law_344 : decode cL_law 344 = .ok (.iload_n 3, 1) := by decide +kernel
theorem dL_law_345 : decode cL_law 345 = .ok (.iconst 1, 1) := by decide +kernel
theorem dL_law_346 : decode cL_law 346 = .ok (.iadd, 1) := by decide +kernel
theorem dL_law_347 : decode cL_law 347 = .ok (.iaload, 1) := by decide +kernel
theorem dL_law_348 : decode cL_law 348 = .ok (.invokevirtual 40, 3) := by decide +kernel
theorem dL_law_351 : decode cL_law 351 = .ok (.aload_n 2, 1) := by decide +kernel
theorem dL_law_352 : decode cL_law 352 = .ok (.aload_n 0, 1) := by decide +kernel
theorem dL_law_353 : decode cL_law 353 = .ok (.iload_n 3, 1) := by decide +kernel
theorem dL_law_354 : decode cL_law 354 = .ok (.iconst 1, 1) := by decide +kernel
theorem dL_law_355 : decode cL_law 355 = .ok (.iadd, 1) := by decide +kernel
theorem dL_law_356 : decode cL_law 356 = .ok (.iaload, 1) := by decide +kernel
theorem dL_law_357 : decode cL_law 357 = .ok (.invokevirtual 44, 3) := by decide +kernel
theorem dL_law_360 : decode cL_law 360 = .ok (.if_icmp .eq 446, 3) := by decide +kernel
theorem dL_law_363 : decode cL_law 363 = .ok (.iconst 0, 1) := by decide +kernel
theorem dL_law_364 : decode cL_law 364 = .ok (.ireturn, 1) := by decide +kernel
theorem dL_law_365 : decode cL_law 365 = .ok (.aload_n 1, 1) := by decide +kernel
theorem dL_law_366 : decode cL_law 366 = .ok (.aload_n 0, 1) := by decide +kernel
theorem dL_law_367 : decode cL_law 367 = .ok (.iload_n 3, 1) := by decide +kernel
theorem dL_law_368 : decode cL_law 368 = .ok (.iconst 1, 1) := by decide +kernel
theorem dL_law_369 : decode cL_law 369 = .ok (.iadd, 1) := by decide +kernel
theorem dL_law_370 : decode cL_law 370 = .ok (.iaload, 1) := by decide +kernel
theorem dL_law_371 : decode cL_law 371 = .ok (.invokevirtual 45, 3) := by decide +kernel
theorem dL_law_374 : decode cL_law 374 = .ok (.aload_n 2, 1) := by decide +kernel
theorem dL_law_375 : decode cL_law 375 = .ok (.aload_n 0, 1) := by decide +kernel
theorem dL_law_376 : decode cL_law 376 = .ok (.iload_n 3, 1) := by decide +kernel
theorem dL_law_377 : decode cL_law 377 = .ok (.iconst 1, 1) := by decide +kernel
theorem dL_law_378 : decode cL_law 378 = .ok (.iadd, 1) := by decide +kernel
theorem dL_law_379 : decode cL_law 379 = .ok (.iaload, 1) := by decide +kernel
theorem dL_law_380 : decode cL_law 380 = .ok (.invokevirtual 48, 3) := by decide +kernel
theorem dL_law_383 : decode cL_law 383 = .ok (.if_icmp .eq 423, 3) := by decide +kernel
theorem dL_law_386 : decode cL_law 386 = .ok (.iconst 0, 1) := by decide +kernel
theorem dL_law_387 : decode cL_law 387 = .ok (.ireturn, 1) := by decide +kernel
theorem dL_law_388 : decode cL_law 388 = .ok (.aload_n 1, 1) := by decide +kernel
theorem dL_law_389 : decode cL_law 389 = .ok (.aload_n 0, 1) := by decide +kernel
theorem dL_law_390 : decode cL_law 390 = .ok (.iload_n 3, 1) := by decide +kernel
theorem dL_law_391 : decode cL_law 391 = .ok (.iconst 1, 1) := by decide +kernel
theorem dL_law_392 : decode cL_law 392 = .ok (.iadd, 1) := by decide +kernel
theorem dL_law_393 : decode cL_law 393 = .ok (.iaload, 1) := by decide +kernel
theorem dL_law_394 : decode cL_law 394 = .ok (.invokevirtual 49, 3) := by decide +kernel
theorem dL_law_397 : decode cL_law 397 = .ok (.aload_n 2, 1) := by decide +kernel
theorem dL_law_398 : decode cL_law 398 = .ok (.aload_n 0, 1) := by decide +kernel
theorem dL_law_399 : decode cL_law 399 = .ok (.iload_n 3, 1) := by decide +kernel
theorem dL_law_400 : decode cL_law 400 = .ok (.iconst 1, 1) := by decide +kernel
theorem dL_law_401 : decode cL_law 401 = .ok (.iadd, 1) := by decide +kernel
theorem dL_law_402 : decode cL_law 402 = .ok (.iaload, 1) := by decide +kernel
theorem dL_law_403 : decode cL_law 403 = .ok (.invokevirtual 52, 3) := by decide +kernel
theorem dL_law_406 : decode cL_law 406 = .ok (.if_icmp .eq 400, 3) := by decide +kernel
theorem dL_law_409 : decode cL_law 409 = .ok (.iconst 0, 1) := by decide +kernel
theorem dL_law_410 : decode cL_law 410 = .ok (.ireturn, 1) := by decide +kernel
theorem dL_law_411 : decode cL_law 411 = .ok (.aload_n 1, 1) := by decide +kernel
theorem dL_law_412 : decode cL_law 412 = .ok (.aload_n 0, 1) := by decide +kernel
theorem dL_law_413 : decode cL_law 413 = .ok (.iload_n 3, 1) := by decide +kernel
theorem dL_law_414 : decode cL_law 414 = .ok (.iconst 1, 1) := by decide +kernel
theorem dL_law_415 : decode cL_law 415 = .ok (.iadd, 1) := by decide +kernel
theorem dL_law_416 : decode cL_law 416 = .ok (.iaload, 1) := by decide +kernel
theorem dL_law_417 : decode cL_law 417 = .ok (.invokevirtual 53, 3) := by decide +kernel
theorem dL_law_420 : decode cL_law 420 = .ok (.aload_n 2, 1) := by decide +kernel
theorem dL_law_421 : decode cL_law 421 = .ok (.aload_n 0, 1) := by decide +kernel
theorem dL_law_422 : decode cL_law 422 = .ok (.iload_n 3, 1) := by decide +kernel
theorem dL_law_423 : decode cL_law 423 = .ok (.iconst 1, 1) := by decide +kernel
theorem dL_law_424 : decode cL_law 424 = .ok (.iadd, 1) := by decide +kernel
theorem dL_law_425 : decode cL_law 425 = .ok (.iaload, 1) := by decide +kernel
theorem dL_law_426 : decode cL_law 426 = .ok (.invokevirtual 56, 3) := by decide +kernel
theorem dL_law_429 : decode cL_law 429 = .ok (.if_icmp .eq 377, 3) := by decide +kernel
theorem dL_law_432 : decode cL_law 432 = .ok (.iconst 0, 1) := by decide +kernel
theorem dL_law_433 : decode cL_law 433 = .ok (.ireturn, 1) := by decide +kernel
theorem dL_law_434 : decode cL_law 434 = .ok (.aload_n 1, 1) := by decide +kernel
theorem dL_law_435 : decode cL_law 435 = .ok (.invokevirtual 57, 3) := by decide +kernel
theorem dL_law_438 : decode cL_law 438 = .ok (.aload_n 2, 1) := by decide +kernel
theorem dL_law_439 : decode cL_law 439 = .ok (.invokevirtual 60, 3) := by decide +kernel
theorem dL_law_442 : decode cL_law 442 = .ok (.if_icmp .eq 364, 3) := by decide +kernel
theorem dL_law_445 : decode cL_law 445 = .ok (.iconst 0, 1) := by decide +kernel
theorem dL_law_446 : decode cL_law 446 = .ok (.ireturn, 1) := by decide +kernel
theorem dL_law_447 : decode cL_law 447 = .ok (.aload_n 1, 1) := by decide +kernel
theorem dL_law_448 : decode cL_law 448 = .ok (.aload_n 0, 1) := by decide +kernel
theorem dL_law_449 : decode cL_law 449 = .ok (.iload_n 3, 1) := by decide +kernel
theorem dL_law_450 : decode cL_law 450 = .ok (.iconst 1, 1) := by decide +kernel
theorem dL_law_451 : decode cL_law 451 = .ok (.iadd, 1) := by decide +kernel
theorem dL_law_452 : decode cL_law 452 = .ok (.iaload, 1) := by decide +kernel
theorem dL_law_453 : decode cL_law 453 = .ok (.aload_n 0, 1) := by decide +kernel
theorem dL_law_454 : decode cL_law 454 = .ok (.iload_n 3, 1) := by decide +kernel
theorem dL_law_455 : decode cL_law 455 = .ok (.iconst 2, 1) := by decide +kernel
theorem dL_law_456 : decode cL_law 456 = .ok (.iadd, 1) := by decide +kernel
theorem dL_law_457 : decode cL_law 457 = .ok (.iaload, 1) := by decide +kernel
theorem dL_law_458 : decode cL_law 458 = .ok (.aload_n 0, 1) := by decide +kernel
theorem dL_law_459 : decode cL_law 459 = .ok (.iload_n 3, 1) := by decide +kernel
theorem dL_law_460 : decode cL_law 460 = .ok (.iconst 3, 1) := by decide +kernel
theorem dL_law_461 : decode cL_law 461 = .ok (.iadd, 1) := by decide +kernel
theorem dL_law_462 : decode cL_law 462 = .ok (.iaload, 1) := by decide +kernel
theorem dL_law_463 : decode cL_law 463 = .ok (.invokevirtual 61, 3) := by decide +kernel
theorem dL_law_466 : decode cL_law 466 = .ok (.aload_n 2, 1) := by decide +kernel
theorem dL_law_467 : decode cL_law 467 = .ok (.aload_n 0, 1) := by decide +kernel
theorem dL_law_468 : decode cL_law 468 = .ok (.iload_n 3, 1) := by decide +kernel
theorem dL_law_469 : decode cL_law 469 = .ok (.iconst 1, 1) := by decide +kernel
theorem dL_law_470 : decode cL_law 470 = .ok (.iadd, 1) := by decide +kernel
theorem dL_law_471 : decode cL_law 471 = .ok (.iaload, 1) := by decide +kernel
theorem dL_law_472 : decode cL_law 472 = .ok (.aload_n 0, 1) := by decide +kernel
theorem dL_law_473 : decode cL_law 473 = .ok (.iload_n 3, 1) := by decide +kernel
theorem dL_law_474 : decode cL_law 474 = .ok (.iconst 2, 1) := by decide +kernel
theorem dL_law_475 : decode cL_law 475 = .ok (.iadd, 1) := by decide +kernel
theorem dL_law_476 : decode cL_law 476 = .ok (.iaload, 1) := by decide +kernel
theorem dL_law_477 : decode cL_law 477 = .ok (.aload_n 0, 1) := by decide +kernel
theorem dL_law_478 : decode cL_law 478 = .ok (.iload_n 3, 1) := by decide +kernel
theorem dL_law_479 : decode cL_law 479 = .ok (.iconst 3, 1) := by decide +kernel
theorem dL_law_480 : decode cL_law 480 = .ok (.iadd, 1) := by decide +kernel
theorem dL_law_481 : decode cL_law 481 = .ok (.iaload, 1) := by decide +kernel
theorem dL_law_482 : decode cL_law 482 = .ok (.invokevirtual 65, 3) := by decide +kernel
theorem dL_law_485 : decode cL_law 485 = .ok (.if_icmp .eq 321, 3) := by decide +kernel
theorem dL_law_488 : decode cL_law 488 = .ok (.iconst 0, 1) := by decide +kernel
theorem dL_law_489 : decode cL_law 489 = .ok (.ireturn, 1) := by decide +kernel
theorem dL_law_490 : decode cL_law 490 = .ok (.aload_n 1, 1) := by decide +kernel
theorem dL_law_491 : decode cL_law 491 = .ok (.aload_n 0, 1) := by decide +kernel
theorem dL_law_492 : decode cL_law 492 = .ok (.iload_n 3, 1) := by decide +kernel
theorem dL_law_493 : decode cL_law 493 = .ok (.iconst 1, 1) := by decide +kernel
theorem dL_law_494 : decode cL_law 494 = .ok (.iadd, 1) := by decide +kernel
theorem dL_law_495 : decode cL_law 495 = .ok (.iaload, 1) := by decide +kernel
theorem dL_law_496 : decode cL_law 496 = .ok (.aload_n 0, 1) := by decide +kernel
theorem dL_law_497 : decode cL_law 497 = .ok (.iload_n 3, 1) := by decide +kernel
theorem dL_law_498 : decode cL_law 498 = .ok (.iconst 2, 1) := by decide +kernel
theorem dL_law_499 : decode cL_law 499 = .ok (.iadd, 1) := by decide +kernel
theorem dL_law_500 : decode cL_law 500 = .ok (.iaload, 1) := by decide +kernel
theorem dL_law_501 : decode cL_law 501 = .ok (.invokevirtual 66, 3) := by decide +kernel
theorem dL_law_504 : decode cL_law 504 = .ok (.aload_n 2, 1) := by decide +kernel
theorem dL_law_505 : decode cL_law 505 = .ok (.aload_n 0, 1) := by decide +kernel
theorem dL_law_506 : decode cL_law 506 = .ok (.iload_n 3, 1) := by decide +kernel
theorem dL_law_507 : decode cL_law 507 = .ok (.iconst 1, 1) := by decide +kernel
theorem dL_law_508 : decode cL_law 508 = .ok (.iadd, 1) := by decide +kernel
theorem dL_law_509 : decode cL_law 509 = .ok (.iaload, 1) := by decide +kernel
theorem dL_law_510 : decode cL_law 510 = .ok (.aload_n 0, 1) := by decide +kernel
theorem dL_law_511 : decode cL_law 511 = .ok (.iload_n 3, 1) := by decide +kernel
theorem dL_law_512 : decode cL_law 512 = .ok (.iconst 2, 1) := by decide +kernel
theorem dL_law_513 : decode cL_law 513 = .ok (.iadd, 1) := by decide +kernel
theorem dL_law_514 : decode cL_law 514 = .ok (.iaload, 1) := by decide +kernel
theorem dL_law_515 : decode cL_law 515 = .ok (.invokevirtual 69, 3) := by decide +kernel
theorem dL_law_518 : decode cL_law 518 = .ok (.if_icmp .eq 288, 3) := by decide +kernel
theorem dL_law_521 : decode cL_law 521 = .ok (.iconst 0, 1) := by decide +kernel
theorem dL_law_522 : decode cL_law 522 = .ok (.ireturn, 1) := by decide +kernel
theorem dL_law_523 : decode cL_law 523 = .ok (.aload_n 1, 1) := by decide +kernel
theorem dL_law_524 : decode cL_law 524 = .ok (.aload_n 0, 1) := by decide +kernel
theorem dL_law_525 : decode cL_law 525 = .ok (.iload_n 3, 1) := by decide +kernel
theorem dL_law_526 : decode cL_law 526 = .ok (.iconst 1, 1) := by decide +kernel
theorem dL_law_527 : decode cL_law 527 = .ok (.iadd, 1) := by decide +kernel
theorem dL_law_528 : decode cL_law 528 = .ok (.iaload, 1) := by decide +kernel
theorem dL_law_529 : decode cL_law 529 = .ok (.aload_n 0, 1) := by decide +kernel
theorem dL_law_530 : decode cL_law 530 = .ok (.iload_n 3, 1) := by decide +kernel
theorem dL_law_531 : decode cL_law 531 = .ok (.iconst 2, 1) := by decide +kernel
theorem dL_law_532 : decode cL_law 532 = .ok (.iadd, 1) := by decide +kernel
theorem dL_law_533 : decode cL_law 533 = .ok (.iaload, 1) := by decide +kernel
theorem dL_law_534 : decode cL_law 534 = .ok (.invokevirtual 70, 3) := by decide +kernel
theorem dL_law_537 : decode cL_law 537 = .ok (.aload_n 2, 1) := by decide +kernel
theorem dL_law_538 : decode cL_law 538 = .ok (.aload_n 0, 1) := by decide +kernel
theorem dL_law_539 : decode cL_law 539 = .ok (.iload_n 3, 1) := by decide +kernel
theorem dL_law_540 : decode cL_law 540 = .ok (.iconst 1, 1) := by decide +kernel
theorem dL_law_541 : decode cL_law 541 = .ok (.iadd, 1) := by decide +kernel
theorem dL_law_542 : decode cL_law 542 = .ok (.iaload, 1) := by decide +kernel
theorem dL_law_543 : decode cL_law 543 = .ok (.aload_n 0, 1) := by decide +kernel
theorem dL_law_544 : decode cL_law 544 = .ok (.iload_n 3, 1) := by decide +kernel
theorem dL_law_545 : decode cL_law 545 = .ok (.iconst 2, 1) := by decide +kernel
theorem dL_law_546 : decode cL_law 546 = .ok (.iadd, 1) := by decide +kernel
theorem dL_law_547 : decode cL_law 547 = .ok (.iaload, 1) := by decide +kernel
theorem dL_law_548 : decode cL_law 548 = .ok (.invokevirtual 73, 3) := by decide +kernel
theorem dL_law_551 : decode cL_law 551 = .ok (.if_icmp .eq 255, 3) := by decide +kernel
theorem dL_law_554 : decode cL_law 554 = .ok (.iconst 0, 1) := by decide +kernel
theorem dL_law_555 : decode cL_law 555 = .ok (.ireturn, 1) := by decide +kernel
theorem dL_law_556 : decode cL_law 556 = .ok (.aload_n 1, 1) := by decide +kernel
theorem dL_law_557 : decode cL_law 557 = .ok (.aload_n 0, 1) := by decide +kernel
theorem dL_law_558 : decode cL_law 558 = .ok (.iload_n 3, 1) := by decide +kernel
theorem dL_law_559 : decode cL_law 559 = .ok (.iconst 1, 1) := by decide +kernel
theorem dL_law_560 : decode cL_law 560 = .ok (.iadd, 1) := by decide +kernel
theorem dL_law_561 : decode cL_law 561 = .ok (.iaload, 1) := by decide +kernel
theorem dL_law_562 : decode cL_law 562 = .ok (.invokevirtual 74, 3) := by decide +kernel
theorem dL_law_565 : decode cL_law 565 = .ok (.aload_n 2, 1) := by decide +kernel
theorem dL_law_566 : decode cL_law 566 = .ok (.aload_n 0, 1) := by decide +kernel
theorem dL_law_567 : decode cL_law 567 = .ok (.iload_n 3, 1) := by decide +kernel
theorem dL_law_568 : decode cL_law 568 = .ok (.iconst 1, 1) := by decide +kernel
theorem dL_law_569 : decode cL_law 569 = .ok (.iadd, 1) := by decide +kernel
theorem dL_law_570 : decode cL_law 570 = .ok (.iaload, 1) := by decide +kernel
theorem dL_law_571 : decode cL_law 571 = .ok (.invokevirtual 77, 3) := by decide +kernel
theorem dL_law_574 : decode cL_law 574 = .ok (.if_icmp .eq 232, 3) := by decide +kernel
theorem dL_law_577 : decode cL_law 577 = .ok (.iconst 0, 1) := by decide +kernel
theorem dL_law_578 : decode cL_law 578 = .ok (.ireturn, 1) := by decide +kernel
theorem dL_law_579 : decode cL_law 579 = .ok (.aload_n 1, 1) := by decide +kernel
theorem dL_law_580 : decode cL_law 580 = .ok (.aload_n 0, 1) := by decide +kernel
theorem dL_law_581 : decode cL_law 581 = .ok (.iload_n 3, 1) := by decide +kernel
theorem dL_law_582 : decode cL_law 582 = .ok (.iconst 1, 1) := by decide +kernel
theorem dL_law_583 : decode cL_law 583 = .ok (.iadd, 1) := by decide +kernel
theorem dL_law_584 : decode cL_law 584 = .ok (.iaload, 1) := by decide +kernel
theorem dL_law_585 : decode cL_law 585 = .ok (.aload_n 0, 1) := by decide +kernel
theorem dL_law_586 : decode cL_law 586 = .ok (.iload_n 3, 1) := by decide +kernel
theorem dL_law_587 : decode cL_law 587 = .ok (.iconst 2, 1) := by decide +kernel
theorem dL_law_588 : decode cL_law 588 = .ok (.iadd, 1) := by decide +kernel
theorem dL_law_589 : decode cL_law 589 = .ok (.iaload, 1) := by decide +kernel
theorem dL_law_590 : decode cL_law 590 = .ok (.invokevirtual 78, 3) := by decide +kernel
theorem dL_law_593 : decode cL_law 593 = .ok (.aload_n 2, 1) := by decide +kernel
theorem dL_law_594 : decode cL_law 594 = .ok (.aload_n 0, 1) := by decide +kernel
theorem dL_law_595 : decode cL_law 595 = .ok (.iload_n 3, 1) := by decide +kernel
theorem dL_law_596 : decode cL_law 596 = .ok (.iconst 1, 1) := by decide +kernel
theorem dL_law_597 : decode cL_law 597 = .ok (.iadd, 1) := by decide +kernel
theorem dL_law_598 : decode cL_law 598 = .ok (.iaload, 1) := by decide +kernel
theorem dL_law_599 : decode cL_law 599 = .ok (.aload_n 0, 1) := by decide +kernel
theorem dL_law_600 : decode cL_law 600 = .ok (.iload_n 3, 1) := by decide +kernel
theorem dL_law_601 : decode cL_law 601 = .ok (.iconst 2, 1) := by decide +kernel
theorem dL_law_602 : decode cL_law 602 = .ok (.iadd, 1) := by decide +kernel
theorem dL_law_603 : decode cL_law 603 = .ok (.iaload, 1) := by decide +kernel
theorem dL_law_604 : decode cL_law 604 = .ok (.invokevirtual 81, 3) := by decide +kernel
theorem dL_law_607 : decode cL_law 607 = .ok (.if_icmp .eq 199, 3) := by decide +kernel
theorem dL_law_610 : decode cL_law 610 = .ok (.iconst 0, 1) := by decide +kernel
theorem dL_law_611 : decode cL_law 611 = .ok (.ireturn, 1) := by decide +kernel
theorem dL_law_612 : decode cL_law 612 = .ok (.aload_n 1, 1) := by decide +kernel
theorem dL_law_613 : decode cL_law 613 = .ok (.aload_n 0, 1) := by decide +kernel
theorem dL_law_614 : decode cL_law 614 = .ok (.iload_n 3, 1) := by decide +kernel
theorem dL_law_615 : decode cL_law 615 = .ok (.iconst 1, 1) := by decide +kernel
theorem dL_law_616 : decode cL_law 616 = .ok (.iadd, 1) := by decide +kernel
theorem dL_law_617 : decode cL_law 617 = .ok (.iaload, 1) := by decide +kernel
theorem dL_law_618 : decode cL_law 618 = .ok (.invokevirtual 82, 3) := by decide +kernel
theorem dL_law_621 : decode cL_law 621 = .ok (.aload_n 2, 1) := by decide +kernel
theorem dL_law_622 : decode cL_law 622 = .ok (.aload_n 0, 1) := by decide +kernel
theorem dL_law_623 : decode cL_law 623 = .ok (.iload_n 3, 1) := by decide +kernel
theorem dL_law_624 : decode cL_law 624 = .ok (.iconst 1, 1) := by decide +kernel
theorem dL_law_625 : decode cL_law 625 = .ok (.iadd, 1) := by decide +kernel
theorem dL_law_626 : decode cL_law 626 = .ok (.iaload, 1) := by decide +kernel
theorem dL_law_627 : decode cL_law 627 = .ok (.invokevirtual 85, 3) := by decide +kernel
theorem dL_law_630 : decode cL_law 630 = .ok (.if_icmp .eq 176, 3) := by decide +kernel
theorem dL_law_633 : decode cL_law 633 = .ok (.iconst 0, 1) := by decide +kernel
theorem dL_law_634 : decode cL_law 634 = .ok (.ireturn, 1) := by decide +kernel
theorem dL_law_635 : decode cL_law 635 = .ok (.aload_n 1, 1) := by decide +kernel
theorem dL_law_636 : decode cL_law 636 = .ok (.aload_n 0, 1) := by decide +kernel
theorem dL_law_637 : decode cL_law 637 = .ok (.iload_n 3, 1) := by decide +kernel
theorem dL_law_638 : decode cL_law 638 = .ok (.iconst 1, 1) := by decide +kernel
theorem dL_law_639 : decode cL_law 639 = .ok (.iadd, 1) := by decide +kernel
theorem dL_law_640 : decode cL_law 640 = .ok (.iaload, 1) := by decide +kernel
theorem dL_law_641 : decode cL_law 641 = .ok (.aload_n 0, 1) := by decide +kernel
theorem dL_law_642 : decode cL_law 642 = .ok (.iload_n 3, 1) := by decide +kernel
theorem dL_law_643 : decode cL_law 643 = .ok (.iconst 2, 1) := by decide +kernel
theorem dL_law_644 : decode cL_law 644 = .ok (.iadd, 1) := by decide +kernel
theorem dL_law_645 : decode cL_law 645 = .ok (.iaload, 1) := by decide +kernel
theorem dL_law_646 : decode cL_law 646 = .ok (.invokevirtual 86, 3) := by decide +kernel
theorem dL_law_649 : decode cL_law 649 = .ok (.aload_n 2, 1) := by decide +kernel
theorem dL_law_650 : decode cL_law 650 = .ok (.aload_n 0, 1) := by decide +kernel
theorem dL_law_651 : decode cL_law 651 = .ok (.iload_n 3, 1) := by decide +kernel
theorem dL_law_652 : decode cL_law 652 = .ok (.iconst 1, 1) := by decide +kernel
theorem dL_law_653 : decode cL_law 653 = .ok (.iadd, 1) := by decide +kernel
theorem dL_law_654 : decode cL_law 654 = .ok (.iaload, 1) := by decide +kernel
theorem dL_law_655 : decode cL_law 655 = .ok (.aload_n 0, 1) := by decide +kernel
theorem dL_law_656 : decode cL_law 656 = .ok (.iload_n 3, 1) := by decide +kernel
theorem dL_law_657 : decode cL_law 657 = .ok (.iconst 2, 1) := by decide +kernel
theorem dL_law_658 : decode cL_law 658 = .ok (.iadd, 1) := by decide +kernel
theorem dL_law_659 : decode cL_law 659 = .ok (.iaload, 1) := by decide +kernel
theorem dL_law_660 : decode cL_law 660 = .ok (.invokevirtual 89, 3) := by decide +kernel
theorem dL_law_663 : decode cL_law 663 = .ok (.if_icmp .eq 143, 3) := by decide +kernel
theorem dL_law_666 : decode cL_law 666 = .ok (.iconst 0, 1) := by decide +kernel
theorem dL_law_667 : decode cL_law 667 = .ok (.ireturn, 1) := by decide +kernel
theorem dL_law_668 : decode cL_law 668 = .ok (.aload_n 1, 1) := by decide +kernel
theorem dL_law_669 : decode cL_law 669 = .ok (.aload_n 0, 1) := by decide +kernel
theorem dL_law_670 : decode cL_law 670 = .ok (.iload_n 3, 1) := by decide +kernel
theorem dL_law_671 : decode cL_law 671 = .ok (.iconst 1, 1) := by decide +kernel
theorem dL_law_672 : decode cL_law 672 = .ok (.iadd, 1) := by decide +kernel
theorem dL_law_673 : decode cL_law 673 = .ok (.iaload, 1) := by decide +kernel
theorem dL_law_674 : decode cL_law 674 = .ok (.i2l, 1) := by decide +kernel
theorem dL_law_675 : decode cL_law 675 = .ok (.bipush 32, 2) := by decide +kernel
theorem dL_law_677 : decode cL_law 677 = .ok (.lshl, 1) := by decide +kernel
theorem dL_law_678 : decode cL_law 678 = .ok (.aload_n 0, 1) := by decide +kernel
theorem dL_law_679 : decode cL_law 679 = .ok (.iload_n 3, 1) := by decide +kernel
theorem dL_law_680 : decode cL_law 680 = .ok (.iconst 2, 1) := by decide +kernel
theorem dL_law_681 : decode cL_law 681 = .ok (.iadd, 1) := by decide +kernel
theorem dL_law_682 : decode cL_law 682 = .ok (.iaload, 1) := by decide +kernel
theorem dL_law_683 : decode cL_law 683 = .ok (.i2l, 1) := by decide +kernel
theorem dL_law_684 : decode cL_law 684 = .ok (.ldc2_w 90, 3) := by decide +kernel
theorem dL_law_687 : decode cL_law 687 = .ok (.land, 1) := by decide +kernel
theorem dL_law_688 : decode cL_law 688 = .ok (.lor, 1) := by decide +kernel
theorem dL_law_689 : decode cL_law 689 = .ok (.invokevirtual 92, 3) := by decide +kernel
theorem dL_law_692 : decode cL_law 692 = .ok (.aload_n 2, 1) := by decide +kernel
theorem dL_law_693 : decode cL_law 693 = .ok (.aload_n 0, 1) := by decide +kernel
theorem dL_law_694 : decode cL_law 694 = .ok (.iload_n 3, 1) := by decide +kernel
theorem dL_law_695 : decode cL_law 695 = .ok (.iconst 1, 1) := by decide +kernel
theorem dL_law_696 : decode cL_law 696 = .ok (.iadd, 1) := by decide +kernel
theorem dL_law_697 : decode cL_law 697 = .ok (.iaload, 1) := by decide +kernel
theorem dL_law_698 : decode cL_law 698 = .ok (.i2l, 1) := by decide +kernel
theorem dL_law_699 : decode cL_law 699 = .ok (.bipush 32, 2) := by decide +kernel
theorem dL_law_701 : decode cL_law 701 = .ok (.lshl, 1) := by decide +kernel
theorem dL_law_702 : decode cL_law 702 = .ok (.aload_n 0, 1) := by decide +kernel
theorem dL_law_703 : decode cL_law 703 = .ok (.iload_n 3, 1) := by decide +kernel
theorem dL_law_704 : decode cL_law 704 = .ok (.iconst 2, 1) := by decide +kernel
theorem dL_law_705 : decode cL_law 705 = .ok (.iadd, 1) := by decide +kernel
theorem dL_law_706 : decode cL_law 706 = .ok (.iaload, 1) := by decide +kernel
theorem dL_law_707 : decode cL_law 707 = .ok (.i2l, 1) := by decide +kernel
theorem dL_law_708 : decode cL_law 708 = .ok (.ldc2_w 90, 3) := by decide +kernel
theorem dL_law_711 : decode cL_law 711 = .ok (.land, 1) := by decide +kernel
theorem dL_law_712 : decode cL_law 712 = .ok (.lor, 1) := by decide +kernel
theorem dL_law_713 : decode cL_law 713 = .ok (.invokevirtual 96, 3) := by decide +kernel
theorem dL_law_716 : decode cL_law 716 = .ok (.if_icmp .eq 90, 3) := by decide +kernel
theorem dL_law_719 : decode cL_law 719 = .ok (.iconst 0, 1) := by decide +kernel
theorem dL_law_720 : decode cL_law 720 = .ok (.ireturn, 1) := by decide +kernel
theorem dL_law_721 : decode cL_law 721 = .ok (.aload_n 1, 1) := by decide +kernel
theorem dL_law_722 : decode cL_law 722 = .ok (.invokevirtual 97, 3) := by decide +kernel
theorem dL_law_725 : decode cL_law 725 = .ok (.aload_n 2, 1) := by decide +kernel
theorem dL_law_726 : decode cL_law 726 = .ok (.invokevirtual 100, 3) := by decide +kernel
theorem dL_law_729 : decode cL_law 729 = .ok (.if_icmp .eq 77, 3) := by decide +kernel
theorem dL_law_732 : decode cL_law 732 = .ok (.iconst 0, 1) := by decide +kernel
theorem dL_law_733 : decode cL_law 733 = .ok (.ireturn, 1) := by decide +kernel
theorem dL_law_734 : decode cL_law 734 = .ok (.aload_n 1, 1) := by decide +kernel
theorem dL_law_735 : decode cL_law 735 = .ok (.invokevirtual 101, 3) := by decide +kernel
theorem dL_law_738 : decode cL_law 738 = .ok (.aload_n 2, 1) := by decide +kernel
theorem dL_law_739 : decode cL_law 739 = .ok (.invokevirtual 104, 3) := by decide +kernel
theorem dL_law_742 : decode cL_law 742 = .ok (.if_icmp .eq 64, 3) := by decide +kernel
theorem dL_law_745 : decode cL_law 745 = .ok (.iconst 0, 1) := by decide +kernel
theorem dL_law_746 : decode cL_law 746 = .ok (.ireturn, 1) := by decide +kernel
theorem dL_law_747 : decode cL_law 747 = .ok (.aload_n 1, 1) := by decide +kernel
theorem dL_law_748 : decode cL_law 748 = .ok (.invokevirtual 105, 3) := by decide +kernel
theorem dL_law_751 : decode cL_law 751 = .ok (.aload_n 2, 1) := by decide +kernel
theorem dL_law_752 : decode cL_law 752 = .ok (.invokevirtual 108, 3) := by decide +kernel
theorem dL_law_755 : decode cL_law 755 = .ok (.if_icmp .eq 51, 3) := by decide +kernel
theorem dL_law_758 : decode cL_law 758 = .ok (.iconst 0, 1) := by decide +kernel
theorem dL_law_759 : decode cL_law 759 = .ok (.ireturn, 1) := by decide +kernel
theorem dL_law_760 : decode cL_law 760 = .ok (.aload_n 1, 1) := by decide +kernel
theorem dL_law_761 : decode cL_law 761 = .ok (.aload_n 0, 1) := by decide +kernel
theorem dL_law_762 : decode cL_law 762 = .ok (.iload_n 3, 1) := by decide +kernel
theorem dL_law_763 : decode cL_law 763 = .ok (.iconst 1, 1) := by decide +kernel
theorem dL_law_764 : decode cL_law 764 = .ok (.iadd, 1) := by decide +kernel
theorem dL_law_765 : decode cL_law 765 = .ok (.iaload, 1) := by decide +kernel
theorem dL_law_766 : decode cL_law 766 = .ok (.invokevirtual 109, 3) := by decide +kernel
theorem dL_law_769 : decode cL_law 769 = .ok (.aload_n 2, 1) := by decide +kernel
theorem dL_law_770 : decode cL_law 770 = .ok (.aload_n 0, 1) := by decide +kernel
theorem dL_law_771 : decode cL_law 771 = .ok (.iload_n 3, 1) := by decide +kernel
theorem dL_law_772 : decode cL_law 772 = .ok (.iconst 1, 1) := by decide +kernel
theorem dL_law_773 : decode cL_law 773 = .ok (.iadd, 1) := by decide +kernel
theorem dL_law_774 : decode cL_law 774 = .ok (.iaload, 1) := by decide +kernel
theorem dL_law_775 : decode cL_law 775 = .ok (.invokevirtual 112, 3) := by decide +kernel
theorem dL_law_778 : decode cL_law 778 = .ok (.if_icmp .eq 28, 3) := by decide +kernel
theorem dL_law_781 : decode cL_law 781 = .ok (.iconst 0, 1) := by decide +kernel
theorem dL_law_782 : decode cL_law 782 = .ok (.ireturn, 1) := by decide +kernel
theorem dL_law_783 : decode cL_law 783 = .ok (.aload_n 1, 1) := by decide +kernel
theorem dL_law_784 : decode cL_law 784 = .ok (.aload_n 0, 1) := by decide +kernel
theorem dL_law_785 : decode cL_law 785 = .ok (.iload_n 3, 1) := by decide +kernel
theorem dL_law_786 : decode cL_law 786 = .ok (.iconst 1, 1) := by decide +kernel
theorem dL_law_787 : decode cL_law 787 = .ok (.iadd, 1) := by decide +kernel
theorem dL_law_788 : decode cL_law 788 = .ok (.iaload, 1) := by decide +kernel
theorem dL_law_789 : decode cL_law 789 = .ok (.invokevirtual 113, 3) := by decide +kernel
theorem dL_law_792 : decode cL_law 792 = .ok (.aload_n 2, 1) := by decide +kernel
theorem dL_law_793 : decode cL_law 793 = .ok (.aload_n 0, 1) := by decide +kernel
theorem dL_law_794 : decode cL_law 794 = .ok (.iload_n 3, 1) := by decide +kernel
theorem dL_law_795 : decode cL_law 795 = .ok (.iconst 1, 1) := by decide +kernel
theorem dL_law_796 : decode cL_law 796 = .ok (.iadd, 1) := by decide +kernel
theorem dL_law_797 : decode cL_law 797 = .ok (.iaload, 1) := by decide +kernel
theorem dL_law_798 : decode cL_law 798 = .ok (.invokevirtual 116, 3) := by decide +kernel
theorem dL_law_801 : decode cL_law 801 = .ok (.if_icmp .eq 5, 3) := by decide +kernel
theorem dL_law_804 : decode cL_law 804 = .ok (.iconst 0, 1) := by decide +kernel
theorem dL_law_805 : decode cL_law 805 = .ok (.ireturn, 1) := by decide +kernel
theorem dL_law_806 : decode cL_law 806 = .ok (.iinc 3 5, 3) := by decide +kernel
theorem dL_law_809 : decode cL_law 809 = .ok (.goto (-791), 3) := by decide +kernel
theorem dL_law_812 : decode cL_law 812 = .ok (.iconst 1, 1) := by decide +kernel
theorem dL_law_813 : decode cL_law 813 = .ok (.ireturn, 1) := by decide +kernel
