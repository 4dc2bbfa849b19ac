theorem dX5_init_0 : decode cX5_init 0 = .ok (.aload_n 0, 1) := by decide +kernel
theorem dX5_init_1 : decode cX5_init 1 = .ok (.invokespecial 3, 3) := by decide +kernel
theorem dX5_init_4 : decode cX5_init 4 = .ok (.aload_n 0, 1) := by decide +kernel
theorem dX5_init_5 : decode cX5_init 5 = .ok (.bipush 6, 2) := by decide +kernel
theorem dX5_init_7 : decode cX5_init 7 = .ok (.putfield 9, 3) := by decide +kernel
theorem dX5_init_10 : decode cX5_init 10 = .ok (.aload_n 0, 1) := by decide +kernel
theorem dX5_init_11 : decode cX5_init 11 = .ok (.bipush 10, 2) := by decide +kernel
theorem dX5_init_13 : decode cX5_init 13 = .ok (.newarray .int, 2) := by decide +kernel
theorem dX5_init_15 : decode cX5_init 15 = .ok (.putfield 15, 3) := by decide +kernel
theorem dX5_init_18 : decode cX5_init 18 = .ok (.aload_n 0, 1) := by decide +kernel
theorem dX5_init_19 : decode cX5_init 19 = .ok (.bipush 10, 2) := by decide +kernel
theorem dX5_init_21 : decode cX5_init 21 = .ok (.newarray .int, 2) := by decide +kernel
theorem dX5_init_23 : decode cX5_init 23 = .ok (.putfield 19, 3) := by decide +kernel
theorem dX5_init_26 : decode cX5_init 26 = .ok (.aload_n 0, 1) := by decide +kernel
theorem dX5_init_27 : decode cX5_init 27 = .ok (.bipush 10, 2) := by decide +kernel
theorem dX5_init_29 : decode cX5_init 29 = .ok (.newarray .int, 2) := by decide +kernel
theorem dX5_init_31 : decode cX5_init 31 = .ok (.putfield 22, 3) := by decide +kernel
theorem dX5_init_34 : decode cX5_init 34 = .ok (.aload_n 0, 1) := by decide +kernel
theorem dX5_init_35 : decode cX5_init 35 = .ok (.bipush 10, 2) := by decide +kernel
theorem dX5_init_37 : decode cX5_init 37 = .ok (.newarray .int, 2) := by decide +kernel
theorem dX5_init_39 : decode cX5_init 39 = .ok (.putfield 25, 3) := by decide +kernel
theorem dX5_init_42 : decode cX5_init 42 = .ok (.aload_n 0, 1) := by decide +kernel
theorem dX5_init_43 : decode cX5_init 43 = .ok (.bipush 10, 2) := by decide +kernel
theorem dX5_init_45 : decode cX5_init 45 = .ok (.newarray .int, 2) := by decide +kernel
theorem dX5_init_47 : decode cX5_init 47 = .ok (.putfield 28, 3) := by decide +kernel
theorem dX5_init_50 : decode cX5_init 50 = .ok (.aload_n 0, 1) := by decide +kernel
theorem dX5_init_51 : decode cX5_init 51 = .ok (.bipush 90, 2) := by decide +kernel
theorem dX5_init_53 : decode cX5_init 53 = .ok (.newarray .int, 2) := by decide +kernel
theorem dX5_init_55 : decode cX5_init 55 = .ok (.putfield 31, 3) := by decide +kernel
theorem dX5_init_58 : decode cX5_init 58 = .ok (.aload_n 0, 1) := by decide +kernel
theorem dX5_init_59 : decode cX5_init 59 = .ok (.bipush 9, 2) := by decide +kernel
theorem dX5_init_61 : decode cX5_init 61 = .ok (.newarray .int, 2) := by decide +kernel
theorem dX5_init_63 : decode cX5_init 63 = .ok (.putfield 34, 3) := by decide +kernel
theorem dX5_init_66 : decode cX5_init 66 = .ok (.aload_n 0, 1) := by decide +kernel
theorem dX5_init_67 : decode cX5_init 67 = .ok (.bipush 10, 2) := by decide +kernel
theorem dX5_init_69 : decode cX5_init 69 = .ok (.newarray .long, 2) := by decide +kernel
theorem dX5_init_71 : decode cX5_init 71 = .ok (.putfield 37, 3) := by decide +kernel
theorem dX5_init_74 : decode cX5_init 74 = .ok (.return_, 1) := by decide +kernel
set_option maxRecDepth 20000 in
theorem ggX5_empty_X6_fill : GoodIn wsX5_empty wsX6_fill := goodIn_r _ [8] (by decide +kernel) (by decide +kernel)
set_option maxRecDepth 20000 in
theorem gX5_empty_X6_fill_n47 : GoodIn wsX5_empty (wsX6_fill) := ggX5_empty_X6_fill
theorem dX5_empty_0 : decode cX5_empty 0 = .ok (.aload_n 0, 1) := by decide +kernel
theorem dX5_empty_1 : decode cX5_empty 1 = .ok (.iload_n 1, 1) := by decide +kernel
theorem dX5_empty_2 : decode cX5_empty 2 = .ok (.putfield 9, 3) := by decide +kernel
theorem dX5_empty_5 : decode cX5_empty 5 = .ok (.aload_n 0, 1) := by decide +kernel
theorem dX5_empty_6 : decode cX5_empty 6 = .ok (.iconst 0, 1) := by decide +kernel
theorem dX5_empty_7 : decode cX5_empty 7 = .ok (.putfield 41, 3) := by decide +kernel
theorem dX5_empty_10 : decode cX5_empty 10 = .ok (.aload_n 0, 1) := by decide +kernel
theorem dX5_empty_11 : decode cX5_empty 11 = .ok (.iconst 0, 1) := by decide +kernel
theorem dX5_empty_12 : decode cX5_empty 12 = .ok (.putfield 44, 3) := by decide +kernel
theorem dX5_empty_15 : decode cX5_empty 15 = .ok (.aload_n 0, 1) := by decide +kernel
theorem dX5_empty_16 : decode cX5_empty 16 = .ok (.getfield 31, 3) := by decide +kernel
theorem dX5_empty_19 : decode cX5_empty 19 = .ok (.iconst 0, 1) := by decide +kernel
theorem dX5_empty_20 : decode cX5_empty 20 = .ok (.invokestatic 47, 3) := by decide +kernel
theorem dX5_empty_23 : decode cX5_empty 23 = .ok (.aload_n 0, 1) := by decide +kernel
theorem dX5_empty_24 : decode cX5_empty 24 = .ok (.getfield 34, 3) := by decide +kernel
theorem dX5_empty_27 : decode cX5_empty 27 = .ok (.iconst 0, 1) := by decide +kernel
theorem dX5_empty_28 : decode cX5_empty 28 = .ok (.invokestatic 47, 3) := by decide +kernel
theorem dX5_empty_31 : decode cX5_empty 31 = .ok (.return_, 1) := by decide +kernel
set_option maxRecDepth 20000 in
theorem ggX5_become_X6_copy : GoodIn wsX5_become wsX6_copy := goodIn_r _ [13, 14, 15, 16, 17, 18, 19, 20, 21] (by decide +kernel) (by decide +kernel)
set_option maxRecDepth 20000 in
theorem gX5_become_X6_copy_n51 : GoodIn wsX5_become (wsX6_copy) := ggX5_become_X6_copy
theorem dX5_become_0 : decode cX5_become 0 = .ok (.aload_n 1, 1) := by decide +kernel
theorem dX5_become_1 : decode cX5_become 1 = .ok (.ifnonnull 4, 3) := by decide +kernel
theorem dX5_become_4 : decode cX5_become 4 = .ok (.return_, 1) := by decide +kernel
theorem dX5_become_5 : decode cX5_become 5 = .ok (.aload_n 0, 1) := by decide +kernel
theorem dX5_become_6 : decode cX5_become 6 = .ok (.aload_n 1, 1) := by decide +kernel
theorem dX5_become_7 : decode cX5_become 7 = .ok (.getfield 9, 3) := by decide +kernel
theorem dX5_become_10 : decode cX5_become 10 = .ok (.putfield 9, 3) := by decide +kernel
theorem dX5_become_13 : decode cX5_become 13 = .ok (.aload_n 0, 1) := by decide +kernel
theorem dX5_become_14 : decode cX5_become 14 = .ok (.aload_n 1, 1) := by decide +kernel
theorem dX5_become_15 : decode cX5_become 15 = .ok (.getfield 41, 3) := by decide +kernel
theorem dX5_become_18 : decode cX5_become 18 = .ok (.putfield 41, 3) := by decide +kernel
theorem dX5_become_21 : decode cX5_become 21 = .ok (.aload_n 0, 1) := by decide +kernel
theorem dX5_become_22 : decode cX5_become 22 = .ok (.aload_n 1, 1) := by decide +kernel
theorem dX5_become_23 : decode cX5_become 23 = .ok (.getfield 44, 3) := by decide +kernel
theorem dX5_become_26 : decode cX5_become 26 = .ok (.putfield 44, 3) := by decide +kernel
theorem dX5_become_29 : decode cX5_become 29 = .ok (.aload_n 1, 1) := by decide +kernel
theorem dX5_become_30 : decode cX5_become 30 = .ok (.getfield 15, 3) := by decide +kernel
theorem dX5_become_33 : decode cX5_become 33 = .ok (.aload_n 0, 1) := by decide +kernel
theorem dX5_become_34 : decode cX5_become 34 = .ok (.getfield 15, 3) := by decide +kernel
theorem dX5_become_37 : decode cX5_become 37 = .ok (.invokestatic 51, 3) := by decide +kernel
theorem dX5_become_40 : decode cX5_become 40 = .ok (.aload_n 1, 1) := by decide +kernel
theorem dX5_become_41 : decode cX5_become 41 = .ok (.getfield 19, 3) := by decide +kernel
theorem dX5_become_44 : decode cX5_become 44 = .ok (.aload_n 0, 1) := by decide +kernel
theorem dX5_become_45 : decode cX5_become 45 = .ok (.getfield 19, 3) := by decide +kernel
theorem dX5_become_48 : decode cX5_become 48 = .ok (.invokestatic 51, 3) := by decide +kernel
theorem dX5_become_51 : decode cX5_become 51 = .ok (.aload_n 1, 1) := by decide +kernel
theorem dX5_become_52 : decode cX5_become 52 = .ok (.getfield 22, 3) := by decide +kernel
theorem dX5_become_55 : decode cX5_become 55 = .ok (.aload_n 0, 1) := by decide +kernel
theorem dX5_become_56 : decode cX5_become 56 = .ok (.getfield 22, 3) := by decide +kernel
theorem dX5_become_59 : decode cX5_become 59 = .ok (.invokestatic 51, 3) := by decide +kernel
theorem dX5_become_62 : decode cX5_become 62 = .ok (.aload_n 1, 1) := by decide +kernel
theorem dX5_become_63 : decode cX5_become 63 = .ok (.getfield 25, 3) := by decide +kernel
theorem dX5_become_66 : decode cX5_become 66 = .ok (.aload_n 0, 1) := by decide +kernel
theorem dX5_become_67 : decode cX5_become 67 = .ok (.getfield 25, 3) := by decide +kernel
theorem dX5_become_70 : decode cX5_become 70 = .ok (.invokestatic 51, 3) := by decide +kernel
theorem dX5_become_73 : decode cX5_become 73 = .ok (.aload_n 1, 1) := by decide +kernel
theorem dX5_become_74 : decode cX5_become 74 = .ok (.getfield 28, 3) := by decide +kernel
theorem dX5_become_77 : decode cX5_become 77 = .ok (.aload_n 0, 1) := by decide +kernel
theorem dX5_become_78 : decode cX5_become 78 = .ok (.getfield 28, 3) := by decide +kernel
theorem dX5_become_81 : decode cX5_become 81 = .ok (.invokestatic 51, 3) := by decide +kernel
theorem dX5_become_84 : decode cX5_become 84 = .ok (.aload_n 1, 1) := by decide +kernel
theorem dX5_become_85 : decode cX5_become 85 = .ok (.getfield 31, 3) := by decide +kernel
theorem dX5_become_88 : decode cX5_become 88 = .ok (.aload_n 0, 1) := by decide +kernel
theorem dX5_become_89 : decode cX5_become 89 = .ok (.getfield 31, 3) := by decide +kernel
theorem dX5_become_92 : decode cX5_become 92 = .ok (.invokestatic 51, 3) := by decide +kernel
theorem dX5_become_95 : decode cX5_become 95 = .ok (.aload_n 1, 1) := by decide +kernel
theorem dX5_become_96 : decode cX5_become 96 = .ok (.getfield 34, 3) := by decide +kernel
theorem dX5_become_99 : decode cX5_become 99 = .ok (.aload_n 0, 1) := by decide +kernel
theorem dX5_become_100 : decode cX5_become 100 = .ok (.getfield 34, 3) := by decide +kernel
theorem dX5_become_103 : decode cX5_become 103 = .ok (.invokestatic 51, 3) := by decide +kernel
theorem dX5_become_106 : decode cX5_become 106 = .ok (.return_, 1) := by decide +kernel
set_option maxRecDepth 20000 in
theorem ggX5_give_X6_set : GoodIn wsX5_give wsX6_set := goodIn_r _ [7] (by decide +kernel) (by decide +kernel)
set_option maxRecDepth 20000 in
theorem gX5_give_X6_set_n55 : GoodIn wsX5_give (wsX6_set) := ggX5_give_X6_set
theorem dX5_give_0 : decode cX5_give 0 = .ok (.aload_n 0, 1) := by decide +kernel
theorem dX5_give_1 : decode cX5_give 1 = .ok (.dup, 1) := by decide +kernel
theorem dX5_give_2 : decode cX5_give 2 = .ok (.getfield 41, 3) := by decide +kernel
theorem dX5_give_5 : decode cX5_give 5 = .ok (.iconst 1, 1) := by decide +kernel
theorem dX5_give_6 : decode cX5_give 6 = .ok (.iload_n 1, 1) := by decide +kernel
theorem dX5_give_7 : decode cX5_give 7 = .ok (.ishl, 1) := by decide +kernel
theorem dX5_give_8 : decode cX5_give 8 = .ok (.ior, 1) := by decide +kernel
theorem dX5_give_9 : decode cX5_give 9 = .ok (.putfield 41, 3) := by decide +kernel
theorem dX5_give_12 : decode cX5_give 12 = .ok (.aload_n 0, 1) := by decide +kernel
theorem dX5_give_13 : decode cX5_give 13 = .ok (.getfield 15, 3) := by decide +kernel
theorem dX5_give_16 : decode cX5_give 16 = .ok (.iload_n 1, 1) := by decide +kernel
theorem dX5_give_17 : decode cX5_give 17 = .ok (.iload_n 2, 1) := by decide +kernel
theorem dX5_give_18 : decode cX5_give 18 = .ok (.invokestatic 55, 3) := by decide +kernel
theorem dX5_give_21 : decode cX5_give 21 = .ok (.aload_n 0, 1) := by decide +kernel
theorem dX5_give_22 : decode cX5_give 22 = .ok (.getfield 19, 3) := by decide +kernel
theorem dX5_give_25 : decode cX5_give 25 = .ok (.iload_n 1, 1) := by decide +kernel
theorem dX5_give_26 : decode cX5_give 26 = .ok (.iload_n 3, 1) := by decide +kernel
theorem dX5_give_27 : decode cX5_give 27 = .ok (.invokestatic 55, 3) := by decide +kernel
theorem dX5_give_30 : decode cX5_give 30 = .ok (.aload_n 0, 1) := by decide +kernel
theorem dX5_give_31 : decode cX5_give 31 = .ok (.getfield 22, 3) := by decide +kernel
theorem dX5_give_34 : decode cX5_give 34 = .ok (.iload_n 1, 1) := by decide +kernel
theorem dX5_give_35 : decode cX5_give 35 = .ok (.iload 4, 2) := by decide +kernel
theorem dX5_give_37 : decode cX5_give 37 = .ok (.invokestatic 55, 3) := by decide +kernel
theorem dX5_give_40 : decode cX5_give 40 = .ok (.return_, 1) := by decide +kernel
set_option maxRecDepth 20000 in
theorem ggX5_isGiven_X6_hasBit : GoodIn wsX5_isGiven wsX6_hasBit := goodIn_r _ [4] (by decide +kernel) (by decide +kernel)
set_option maxRecDepth 20000 in
theorem gX5_isGiven_X6_hasBit_n59 : GoodIn wsX5_isGiven (wsX6_hasBit) := ggX5_isGiven_X6_hasBit
theorem dX5_isGiven_0 : decode cX5_isGiven 0 = .ok (.aload_n 0, 1) := by decide +kernel
theorem dX5_isGiven_1 : decode cX5_isGiven 1 = .ok (.getfield 41, 3) := by decide +kernel
theorem dX5_isGiven_4 : decode cX5_isGiven 4 = .ok (.iload_n 1, 1) := by decide +kernel
theorem dX5_isGiven_5 : decode cX5_isGiven 5 = .ok (.invokestatic 59, 3) := by decide +kernel
theorem dX5_isGiven_8 : decode cX5_isGiven 8 = .ok (.ireturn, 1) := by decide +kernel
set_option maxRecDepth 20000 in
theorem ggX5_isLaid_X6_hasBit : GoodIn wsX5_isLaid wsX6_hasBit := goodIn_r _ [4] (by decide +kernel) (by decide +kernel)
set_option maxRecDepth 20000 in
theorem gX5_isLaid_X6_hasBit_n59 : GoodIn wsX5_isLaid (wsX6_hasBit) := ggX5_isLaid_X6_hasBit
theorem dX5_isLaid_0 : decode cX5_isLaid 0 = .ok (.aload_n 0, 1) := by decide +kernel
theorem dX5_isLaid_1 : decode cX5_isLaid 1 = .ok (.getfield 44, 3) := by decide +kernel
theorem dX5_isLaid_4 : decode cX5_isLaid 4 = .ok (.iload_n 1, 1) := by decide +kernel
theorem dX5_isLaid_5 : decode cX5_isLaid 5 = .ok (.invokestatic 59, 3) := by decide +kernel
theorem dX5_isLaid_8 : decode cX5_isLaid 8 = .ok (.ireturn, 1) := by decide +kernel
set_option maxRecDepth 20000 in
theorem ggX5_isFree_X5_freeGuests : GoodIn wsX5_isFree wsX5_freeGuests := goodIn_r _ [5, 6, 7, 11, 12, 13, 14, 15, 16, 17, 18, 19, 20, 21] (by decide +kernel) (by decide +kernel)
set_option maxRecDepth 20000 in
theorem gX5_isFree_X5_freeGuests : GoodIn wsX5_isFree (wsV RX5 63 RX5 yX5_freeGuests wsX5_freeGuests) := goodIn_app (goodIn_of _ (by decide +kernel)) ggX5_isFree_X5_freeGuests
set_option maxRecDepth 20000 in
theorem ggX5_isFree_X6_hasBit : GoodIn wsX5_isFree wsX6_hasBit := goodIn_r _ [10] (by decide +kernel) (by decide +kernel)
set_option maxRecDepth 20000 in
theorem gX5_isFree_X6_hasBit_n59 : GoodIn wsX5_isFree (wsX6_hasBit) := ggX5_isFree_X6_hasBit
theorem dX5_isFree_0 : decode cX5_isFree 0 = .ok (.aload_n 0, 1) := by decide +kernel
theorem dX5_isFree_1 : decode cX5_isFree 1 = .ok (.invokevirtual 63, 3) := by decide +kernel
theorem dX5_isFree_4 : decode cX5_isFree 4 = .ok (.iload_n 1, 1) := by decide +kernel
theorem dX5_isFree_5 : decode cX5_isFree 5 = .ok (.invokestatic 59, 3) := by decide +kernel
theorem dX5_isFree_8 : decode cX5_isFree 8 = .ok (.ireturn, 1) := by decide +kernel
theorem dX5_freeGuests_0 : decode cX5_freeGuests 0 = .ok (.aload_n 0, 1) := by decide +kernel
theorem dX5_freeGuests_1 : decode cX5_freeGuests 1 = .ok (.getfield 41, 3) := by decide +kernel
theorem dX5_freeGuests_4 : decode cX5_freeGuests 4 = .ok (.aload_n 0, 1) := by decide +kernel
theorem dX5_freeGuests_5 : decode cX5_freeGuests 5 = .ok (.getfield 44, 3) := by decide +kernel
theorem dX5_freeGuests_8 : decode cX5_freeGuests 8 = .ok (.iconst (-1), 1) := by decide +kernel
theorem dX5_freeGuests_9 : decode cX5_freeGuests 9 = .ok (.ixor, 1) := by decide +kernel
theorem dX5_freeGuests_10 : decode cX5_freeGuests 10 = .ok (.iand, 1) := by decide +kernel
theorem dX5_freeGuests_11 : decode cX5_freeGuests 11 = .ok (.ireturn, 1) := by decide +kernel
set_option maxRecDepth 20000 in
theorem ggX5_placeOf_X5_isLaid : GoodIn wsX5_placeOf wsX5_isLaid := goodIn_r _ [7, 8, 9, 10, 11, 14, 15, 16, 17, 18, 19, 20, 21, 22, 23, 24] (by decide +kernel) (by decide +kernel)
set_option maxRecDepth 20000 in
theorem gX5_placeOf_X5_isLaid : GoodIn wsX5_placeOf (wsV RX5 67 RX5 yX5_isLaid wsX5_isLaid) := goodIn_app (goodIn_of _ (by decide +kernel)) ggX5_placeOf_X5_isLaid
set_option maxRecDepth 20000 in
theorem ggX5_placeOf_X6_at : GoodIn wsX5_placeOf wsX6_at := goodIn_r _ [13] (by decide +kernel) (by decide +kernel)
set_option maxRecDepth 20000 in
theorem gX5_placeOf_X6_at_n71 : GoodIn wsX5_placeOf (wsX6_at) := ggX5_placeOf_X6_at
theorem dX5_placeOf_0 : decode cX5_placeOf 0 = .ok (.aload_n 0, 1) := by decide +kernel
theorem dX5_placeOf_1 : decode cX5_placeOf 1 = .ok (.iload_n 1, 1) := by decide +kernel
theorem dX5_placeOf_2 : decode cX5_placeOf 2 = .ok (.invokevirtual 67, 3) := by decide +kernel
theorem dX5_placeOf_5 : decode cX5_placeOf 5 = .ok (.ifCond .ne 6, 3) := by decide +kernel
theorem dX5_placeOf_8 : decode cX5_placeOf 8 = .ok (.bipush (-6), 2) := by decide +kernel
theorem dX5_placeOf_10 : decode cX5_placeOf 10 = .ok (.ireturn, 1) := by decide +kernel
theorem dX5_placeOf_11 : decode cX5_placeOf 11 = .ok (.iload_n 2, 1) := by decide +kernel
theorem dX5_placeOf_12 : decode cX5_placeOf 12 = .ok (.ifCond .ne 14, 3) := by decide +kernel
theorem dX5_placeOf_15 : decode cX5_placeOf 15 = .ok (.aload_n 0, 1) := by decide +kernel
theorem dX5_placeOf_16 : decode cX5_placeOf 16 = .ok (.getfield 25, 3) := by decide +kernel
theorem dX5_placeOf_19 : decode cX5_placeOf 19 = .ok (.iload_n 1, 1) := by decide +kernel
theorem dX5_placeOf_20 : decode cX5_placeOf 20 = .ok (.invokestatic 71, 3) := by decide +kernel
theorem dX5_placeOf_23 : decode cX5_placeOf 23 = .ok (.goto 11, 3) := by decide +kernel
theorem dX5_placeOf_26 : decode cX5_placeOf 26 = .ok (.aload_n 0, 1) := by decide +kernel
theorem dX5_placeOf_27 : decode cX5_placeOf 27 = .ok (.getfield 28, 3) := by decide +kernel
theorem dX5_placeOf_30 : decode cX5_placeOf 30 = .ok (.iload_n 1, 1) := by decide +kernel
theorem dX5_placeOf_31 : decode cX5_placeOf 31 = .ok (.invokestatic 71, 3) := by decide +kernel
theorem dX5_placeOf_34 : decode cX5_placeOf 34 = .ok (.ireturn, 1) := by decide +kernel
set_option maxRecDepth 20000 in
theorem ggX5_tallest_X6_at : GoodIn wsX5_tallest wsX6_at := goodIn_r _ [8] (by decide +kernel) (by decide +kernel)
set_option maxRecDepth 20000 in
theorem gX5_tallest_X6_at_n71 : GoodIn wsX5_tallest (wsX6_at) := ggX5_tallest_X6_at
theorem dX5_tallest_0 : decode cX5_tallest 0 = .ok (.iconst 0, 1) := by decide +kernel
theorem dX5_tallest_1 : decode cX5_tallest 1 = .ok (.istore_n 1, 1) := by decide +kernel
theorem dX5_tallest_2 : decode cX5_tallest 2 = .ok (.iconst 0, 1) := by decide +kernel
theorem dX5_tallest_3 : decode cX5_tallest 3 = .ok (.istore_n 2, 1) := by decide +kernel
theorem dX5_tallest_4 : decode cX5_tallest 4 = .ok (.iload_n 2, 1) := by decide +kernel
theorem dX5_tallest_5 : decode cX5_tallest 5 = .ok (.bipush 9, 2) := by decide +kernel
theorem dX5_tallest_7 : decode cX5_tallest 7 = .ok (.if_icmp .ge 22, 3) := by decide +kernel
theorem dX5_tallest_10 : decode cX5_tallest 10 = .ok (.iload_n 1, 1) := by decide +kernel
theorem dX5_tallest_11 : decode cX5_tallest 11 = .ok (.aload_n 0, 1) := by decide +kernel
theorem dX5_tallest_12 : decode cX5_tallest 12 = .ok (.getfield 34, 3) := by decide +kernel
theorem dX5_tallest_15 : decode cX5_tallest 15 = .ok (.iload_n 2, 1) := by decide +kernel
theorem dX5_tallest_16 : decode cX5_tallest 16 = .ok (.invokestatic 71, 3) := by decide +kernel
theorem dX5_tallest_19 : decode cX5_tallest 19 = .ok (.invokestatic 75, 3) := by decide +kernel
theorem dX5_tallest_22 : decode cX5_tallest 22 = .ok (.istore_n 1, 1) := by decide +kernel
theorem dX5_tallest_23 : decode cX5_tallest 23 = .ok (.iinc 2 1, 3) := by decide +kernel
theorem dX5_tallest_26 : decode cX5_tallest 26 = .ok (.goto (-22), 3) := by decide +kernel
theorem dX5_tallest_29 : decode cX5_tallest 29 = .ok (.iload_n 1, 1) := by decide +kernel
theorem dX5_tallest_30 : decode cX5_tallest 30 = .ok (.ireturn, 1) := by decide +kernel
set_option maxRecDepth 20000 in
theorem ggX5_put_X5_isFree : GoodIn wsX5_put wsX5_isFree := goodIn_r _ [7, 8, 9, 10, 6, 11, 12, 13, 14, 15, 16, 86, 87, 88, 89, 90, 91, 92, 93, 94, 95, 96] (by decide +kernel) (by decide +kernel)
set_option maxRecDepth 20000 in
theorem gX5_put_X5_isFree : GoodIn wsX5_put (wsV RX5 81 RX5 yX5_isFree wsX5_isFree) := goodIn_app (goodIn_of _ (by decide +kernel)) ggX5_put_X5_isFree
set_option maxRecDepth 20000 in
theorem ggX5_put_X6_at : GoodIn wsX5_put wsX6_at := goodIn_r _ [18] (by decide +kernel) (by decide +kernel)
set_option maxRecDepth 20000 in
theorem gX5_put_X6_at_n71 : GoodIn wsX5_put (wsX6_at) := ggX5_put_X6_at
set_option maxRecDepth 20000 in
theorem ggX5_put_X5_rowOnTop : GoodIn wsX5_put wsX5_rowOnTop := goodIn_r _ [22, 23, 24, 25, 26, 27, 17, 15, 18, 86, 87, 88, 89, 90, 91, 92, 93, 94, 95, 96] (by decide +kernel) (by decide +kernel)
set_option maxRecDepth 20000 in
theorem gX5_put_X5_rowOnTop : GoodIn wsX5_put (wsV RX5 84 RX5 yX5_rowOnTop wsX5_rowOnTop) := goodIn_app (goodIn_of _ (by decide +kernel)) ggX5_put_X5_rowOnTop
set_option maxRecDepth 20000 in
theorem ggX5_put_X5_heldCells : GoodIn wsX5_put wsX5_heldCells := goodIn_r _ [31, 32, 86, 87, 88, 89, 90, 91, 92, 93, 94, 95, 96] (by decide +kernel) (by decide +kernel)
set_option maxRecDepth 20000 in
theorem gX5_put_X5_heldCells : GoodIn wsX5_put (wsV RX5 87 RX5 yX5_heldCells wsX5_heldCells) := goodIn_app (goodIn_of _ (by decide +kernel)) ggX5_put_X5_heldCells
set_option maxRecDepth 20000 in
theorem ggX5_put_X5_lay : GoodIn wsX5_put wsX5_lay := goodIn_r _ [36, 13, 37, 38, 1, 32, 23, 39, 15, 40, 17, 18, 41, 42, 6, 43, 86, 87, 88, 89, 90, 91, 92, 93, 94, 95, 96] (by decide +kernel) (by decide +kernel)
set_option maxRecDepth 20000 in
theorem gX5_put_X5_lay : GoodIn wsX5_put (wsV RX5 91 RX5 yX5_lay wsX5_lay) := goodIn_app (goodIn_of _ (by decide +kernel)) ggX5_put_X5_lay
set_option maxRecDepth 20000 in
theorem ggX5_put_X5_weigh : GoodIn wsX5_put wsX5_weigh := goodIn_r _ [47, 48, 37, 49, 15, 50, 51, 52, 53, 6, 54, 23, 24, 25, 26, 27, 17, 18, 55, 56, 57, 58, 13, 14, 16, 59, 60, 61, 62, 1, 38, 63, 64, 32, 28, 29, 30, 31, 65, 66, 41, 42, 43, 67, 68, 86, 87, 88, 89, 90, 91, 92, 93, 94, 95, 96] (by decide +kernel) (by decide +kernel)
set_option maxRecDepth 20000 in
theorem gX5_put_X5_weigh : GoodIn wsX5_put (wsV RX5 95 RX5 yX5_weigh wsX5_weigh) := goodIn_app (goodIn_of _ (by decide +kernel)) ggX5_put_X5_weigh
set_option maxRecDepth 20000 in
theorem ggX5_put_X5_isAnyTooHeavy : GoodIn wsX5_put wsX5_isAnyTooHeavy := goodIn_r _ [72, 55, 56, 57, 6, 58, 13, 14, 15, 16, 73, 74, 75, 76, 48, 77, 64, 65, 66, 17, 18, 86, 87, 88, 89, 90, 91, 92, 93, 94, 95, 96] (by decide +kernel) (by decide +kernel)
set_option maxRecDepth 20000 in
theorem gX5_put_X5_isAnyTooHeavy : GoodIn wsX5_put (wsV RX5 98 RX5 yX5_isAnyTooHeavy wsX5_isAnyTooHeavy) := goodIn_app (goodIn_of _ (by decide +kernel)) ggX5_put_X5_isAnyTooHeavy
set_option maxRecDepth 20000 in
theorem ggX5_put_X5_lift : GoodIn wsX5_put wsX5_lift := goodIn_r _ [81, 13, 37, 38, 1, 32, 23, 55, 56, 57, 6, 58, 14, 15, 16, 17, 18, 41, 42, 43, 39, 40, 82, 83, 84, 85, 86, 87, 88, 89, 90, 91, 92, 93, 94, 95, 96] (by decide +kernel) (by decide +kernel)
set_option maxRecDepth 20000 in
theorem gX5_put_X5_lift : GoodIn wsX5_put (wsV RX5 102 RX5 yX5_lift wsX5_lift) := goodIn_app (goodIn_of _ (by decide +kernel)) ggX5_put_X5_lift
theorem dX5_put_0 : decode cX5_put 0 = .ok (.aload_n 0, 1) := by decide +kernel
theorem dX5_put_1 : decode cX5_put 1 = .ok (.iload_n 1, 1) := by decide +kernel
theorem dX5_put_2 : decode cX5_put 2 = .ok (.invokevirtual 81, 3) := by decide +kernel
theorem dX5_put_5 : decode cX5_put 5 = .ok (.ifCond .ne 5, 3) := by decide +kernel
theorem dX5_put_8 : decode cX5_put 8 = .ok (.iconst 1, 1) := by decide +kernel
theorem dX5_put_9 : decode cX5_put 9 = .ok (.ireturn, 1) := by decide +kernel
theorem dX5_put_10 : decode cX5_put 10 = .ok (.aload_n 0, 1) := by decide +kernel
theorem dX5_put_11 : decode cX5_put 11 = .ok (.getfield 15, 3) := by decide +kernel
theorem dX5_put_14 : decode cX5_put 14 = .ok (.iload_n 1, 1) := by decide +kernel
theorem dX5_put_15 : decode cX5_put 15 = .ok (.invokestatic 71, 3) := by decide +kernel
theorem dX5_put_18 : decode cX5_put 18 = .ok (.istore_n 3, 1) := by decide +kernel
theorem dX5_put_19 : decode cX5_put 19 = .ok (.iload_n 2, 1) := by decide +kernel
theorem dX5_put_20 : decode cX5_put 20 = .ok (.ifCond .lt 13, 3) := by decide +kernel
theorem dX5_put_23 : decode cX5_put 23 = .ok (.iload_n 2, 1) := by decide +kernel
theorem dX5_put_24 : decode cX5_put 24 = .ok (.iload_n 3, 1) := by decide +kernel
theorem dX5_put_25 : decode cX5_put 25 = .ok (.iadd, 1) := by decide +kernel
theorem dX5_put_26 : decode cX5_put 26 = .ok (.aload_n 0, 1) := by decide +kernel
theorem dX5_put_27 : decode cX5_put 27 = .ok (.getfield 9, 3) := by decide +kernel
theorem dX5_put_30 : decode cX5_put 30 = .ok (.if_icmp .le 5, 3) := by decide +kernel
theorem dX5_put_33 : decode cX5_put 33 = .ok (.iconst 2, 1) := by decide +kernel
theorem dX5_put_34 : decode cX5_put 34 = .ok (.ireturn, 1) := by decide +kernel
theorem dX5_put_35 : decode cX5_put 35 = .ok (.aload_n 0, 1) := by decide +kernel
theorem dX5_put_36 : decode cX5_put 36 = .ok (.iload_n 2, 1) := by decide +kernel
theorem dX5_put_37 : decode cX5_put 37 = .ok (.iload_n 3, 1) := by decide +kernel
theorem dX5_put_38 : decode cX5_put 38 = .ok (.invokevirtual 84, 3) := by decide +kernel
theorem dX5_put_41 : decode cX5_put 41 = .ok (.istore 4, 2) := by decide +kernel
theorem dX5_put_43 : decode cX5_put 43 = .ok (.iconst 2, 1) := by decide +kernel
theorem dX5_put_44 : decode cX5_put 44 = .ok (.aload_n 0, 1) := by decide +kernel
theorem dX5_put_45 : decode cX5_put 45 = .ok (.iload 4, 2) := by decide +kernel
theorem dX5_put_47 : decode cX5_put 47 = .ok (.iload_n 2, 1) := by decide +kernel
theorem dX5_put_48 : decode cX5_put 48 = .ok (.iload_n 3, 1) := by decide +kernel
theorem dX5_put_49 : decode cX5_put 49 = .ok (.invokevirtual 87, 3) := by decide +kernel
theorem dX5_put_52 : decode cX5_put 52 = .ok (.imul, 1) := by decide +kernel
theorem dX5_put_53 : decode cX5_put 53 = .ok (.iload_n 3, 1) := by decide +kernel
theorem dX5_put_54 : decode cX5_put 54 = .ok (.if_icmp .ge 5, 3) := by decide +kernel
theorem dX5_put_57 : decode cX5_put 57 = .ok (.iconst 3, 1) := by decide +kernel
theorem dX5_put_58 : decode cX5_put 58 = .ok (.ireturn, 1) := by decide +kernel
theorem dX5_put_59 : decode cX5_put 59 = .ok (.aload_n 0, 1) := by decide +kernel
theorem dX5_put_60 : decode cX5_put 60 = .ok (.iload_n 1, 1) := by decide +kernel
theorem dX5_put_61 : decode cX5_put 61 = .ok (.iload 4, 2) := by decide +kernel
theorem dX5_put_63 : decode cX5_put 63 = .ok (.iload_n 2, 1) := by decide +kernel
theorem dX5_put_64 : decode cX5_put 64 = .ok (.invokevirtual 91, 3) := by decide +kernel
theorem dX5_put_67 : decode cX5_put 67 = .ok (.iload 4, 2) := by decide +kernel
theorem dX5_put_69 : decode cX5_put 69 = .ok (.ifCond .ne 5, 3) := by decide +kernel
theorem dX5_put_72 : decode cX5_put 72 = .ok (.iconst 0, 1) := by decide +kernel
theorem dX5_put_73 : decode cX5_put 73 = .ok (.ireturn, 1) := by decide +kernel
theorem dX5_put_74 : decode cX5_put 74 = .ok (.aload_n 0, 1) := by decide +kernel
theorem dX5_put_75 : decode cX5_put 75 = .ok (.invokevirtual 95, 3) := by decide +kernel
theorem dX5_put_78 : decode cX5_put 78 = .ok (.aload_n 0, 1) := by decide +kernel
theorem dX5_put_79 : decode cX5_put 79 = .ok (.invokevirtual 98, 3) := by decide +kernel
theorem dX5_put_82 : decode cX5_put 82 = .ok (.ifCond .eq 10, 3) := by decide +kernel
theorem dX5_put_85 : decode cX5_put 85 = .ok (.aload_n 0, 1) := by decide +kernel
theorem dX5_put_86 : decode cX5_put 86 = .ok (.iload_n 1, 1) := by decide +kernel
theorem dX5_put_87 : decode cX5_put 87 = .ok (.invokevirtual 102, 3) := by decide +kernel
theorem dX5_put_90 : decode cX5_put 90 = .ok (.iconst 4, 1) := by decide +kernel
theorem dX5_put_91 : decode cX5_put 91 = .ok (.ireturn, 1) := by decide +kernel
theorem dX5_put_92 : decode cX5_put 92 = .ok (.iconst 0, 1) := by decide +kernel
theorem dX5_put_93 : decode cX5_put 93 = .ok (.ireturn, 1) := by decide +kernel
set_option maxRecDepth 20000 in
theorem ggX5_take_X5_isLaid : GoodIn wsX5_take wsX5_isLaid := goodIn_r _ [5, 6, 7, 8, 9, 34, 35, 36, 37, 38, 39, 40, 41, 42, 43, 44] (by decide +kernel) (by decide +kernel)
set_option maxRecDepth 20000 in
theorem gX5_take_X5_isLaid : GoodIn wsX5_take (wsV RX5 67 RX5 yX5_isLaid wsX5_isLaid) := goodIn_app (goodIn_of _ (by decide +kernel)) ggX5_take_X5_isLaid
set_option maxRecDepth 20000 in
theorem ggX5_take_X5_isCovered : GoodIn wsX5_take wsX5_isCovered := goodIn_r _ [13, 14, 15, 16, 17, 18, 8, 19, 20, 21, 4, 22, 34, 35, 36, 37, 38, 39, 40, 41, 42, 43, 44] (by decide +kernel) (by decide +kernel)
set_option maxRecDepth 20000 in
theorem gX5_take_X5_isCovered : GoodIn wsX5_take (wsV RX5 106 RX5 yX5_isCovered wsX5_isCovered) := goodIn_app (goodIn_of _ (by decide +kernel)) ggX5_take_X5_isCovered
set_option maxRecDepth 20000 in
theorem ggX5_take_X5_lift : GoodIn wsX5_take wsX5_lift := goodIn_r _ [26, 6, 16, 17, 14, 15, 27, 1, 2, 3, 4, 5, 7, 8, 9, 18, 19, 20, 21, 22, 28, 29, 30, 31, 32, 33, 34, 35, 36, 37, 38, 39, 40, 41, 42, 43, 44] (by decide +kernel) (by decide +kernel)
set_option maxRecDepth 20000 in
theorem gX5_take_X5_lift : GoodIn wsX5_take (wsV RX5 102 RX5 yX5_lift wsX5_lift) := goodIn_app (goodIn_of _ (by decide +kernel)) ggX5_take_X5_lift
theorem dX5_take_0 : decode cX5_take 0 = .ok (.aload_n 0, 1) := by decide +kernel
theorem dX5_take_1 : decode cX5_take 1 = .ok (.iload_n 1, 1) := by decide +kernel
theorem dX5_take_2 : decode cX5_take 2 = .ok (.invokevirtual 67, 3) := by decide +kernel
theorem dX5_take_5 : decode cX5_take 5 = .ok (.ifCond .ne 5, 3) := by decide +kernel
theorem dX5_take_8 : decode cX5_take 8 = .ok (.iconst 1, 1) := by decide +kernel
theorem dX5_take_9 : decode cX5_take 9 = .ok (.ireturn, 1) := by decide +kernel
theorem dX5_take_10 : decode cX5_take 10 = .ok (.aload_n 0, 1) := by decide +kernel
theorem dX5_take_11 : decode cX5_take 11 = .ok (.iload_n 1, 1) := by decide +kernel
theorem dX5_take_12 : decode cX5_take 12 = .ok (.invokevirtual 106, 3) := by decide +kernel
theorem dX5_take_15 : decode cX5_take 15 = .ok (.ifCond .eq 5, 3) := by decide +kernel
theorem dX5_take_18 : decode cX5_take 18 = .ok (.iconst 5, 1) := by decide +kernel
theorem dX5_take_19 : decode cX5_take 19 = .ok (.ireturn, 1) := by decide +kernel
theorem dX5_take_20 : decode cX5_take 20 = .ok (.aload_n 0, 1) := by decide +kernel
theorem dX5_take_21 : decode cX5_take 21 = .ok (.iload_n 1, 1) := by decide +kernel
theorem dX5_take_22 : decode cX5_take 22 = .ok (.invokevirtual 102, 3) := by decide +kernel
theorem dX5_take_25 : decode cX5_take 25 = .ok (.iconst 0, 1) := by decide +kernel
theorem dX5_take_26 : decode cX5_take 26 = .ok (.ireturn, 1) := by decide +kernel
set_option maxRecDepth 20000 in
theorem ggX5_rowOnTop_X6_at : GoodIn wsX5_rowOnTop wsX6_at := goodIn_r _ [8] (by decide +kernel) (by decide +kernel)
set_option maxRecDepth 20000 in
theorem gX5_rowOnTop_X6_at_n71 : GoodIn wsX5_rowOnTop (wsX6_at) := ggX5_rowOnTop_X6_at
theorem dX5_rowOnTop_0 : decode cX5_rowOnTop 0 = .ok (.iconst 0, 1) := by decide +kernel
theorem dX5_rowOnTop_1 : decode cX5_rowOnTop 1 = .ok (.istore_n 3, 1) := by decide +kernel
theorem dX5_rowOnTop_2 : decode cX5_rowOnTop 2 = .ok (.iconst 0, 1) := by decide +kernel
theorem dX5_rowOnTop_3 : decode cX5_rowOnTop 3 = .ok (.istore 4, 2) := by decide +kernel
theorem dX5_rowOnTop_5 : decode cX5_rowOnTop 5 = .ok (.iload 4, 2) := by decide +kernel
theorem dX5_rowOnTop_7 : decode cX5_rowOnTop 7 = .ok (.iload_n 2, 1) := by decide +kernel
theorem dX5_rowOnTop_8 : decode cX5_rowOnTop 8 = .ok (.if_icmp .ge 25, 3) := by decide +kernel
theorem dX5_rowOnTop_11 : decode cX5_rowOnTop 11 = .ok (.iload_n 3, 1) := by decide +kernel
theorem dX5_rowOnTop_12 : decode cX5_rowOnTop 12 = .ok (.aload_n 0, 1) := by decide +kernel
theorem dX5_rowOnTop_13 : decode cX5_rowOnTop 13 = .ok (.getfield 34, 3) := by decide +kernel
theorem dX5_rowOnTop_16 : decode cX5_rowOnTop 16 = .ok (.iload_n 1, 1) := by decide +kernel
theorem dX5_rowOnTop_17 : decode cX5_rowOnTop 17 = .ok (.iload 4, 2) := by decide +kernel
theorem dX5_rowOnTop_19 : decode cX5_rowOnTop 19 = .ok (.iadd, 1) := by decide +kernel
theorem dX5_rowOnTop_20 : decode cX5_rowOnTop 20 = .ok (.invokestatic 71, 3) := by decide +kernel
theorem dX5_rowOnTop_23 : decode cX5_rowOnTop 23 = .ok (.invokestatic 75, 3) := by decide +kernel
theorem dX5_rowOnTop_26 : decode cX5_rowOnTop 26 = .ok (.istore_n 3, 1) := by decide +kernel
theorem dX5_rowOnTop_27 : decode cX5_rowOnTop 27 = .ok (.iinc 4 1, 3) := by decide +kernel
theorem dX5_rowOnTop_30 : decode cX5_rowOnTop 30 = .ok (.goto (-25), 3) := by decide +kernel
theorem dX5_rowOnTop_33 : decode cX5_rowOnTop 33 = .ok (.iload_n 3, 1) := by decide +kernel
theorem dX5_rowOnTop_34 : decode cX5_rowOnTop 34 = .ok (.ireturn, 1) := by decide +kernel
theorem dX5_heldCells_0 : decode cX5_heldCells 0 = .ok (.iload_n 1, 1) := by decide +kernel
theorem dX5_heldCells_1 : decode cX5_heldCells 1 = .ok (.ifCond .ne 5, 3) := by decide +kernel
theorem dX5_heldCells_4 : decode cX5_heldCells 4 = .ok (.iload_n 3, 1) := by decide +kernel
theorem dX5_heldCells_5 : decode cX5_heldCells 5 = .ok (.ireturn, 1) := by decide +kernel
theorem dX5_heldCells_6 : decode cX5_heldCells 6 = .ok (.iconst 0, 1) := by decide +kernel
theorem dX5_heldCells_7 : decode cX5_heldCells 7 = .ok (.istore 4, 2) := by decide +kernel
theorem dX5_heldCells_9 : decode cX5_heldCells 9 = .ok (.iload_n 1, 1) := by decide +kernel
theorem dX5_heldCells_10 : decode cX5_heldCells 10 = .ok (.iconst 1, 1) := by decide +kernel
theorem dX5_heldCells_11 : decode cX5_heldCells 11 = .ok (.isub, 1) := by decide +kernel
theorem dX5_heldCells_12 : decode cX5_heldCells 12 = .ok (.bipush 9, 2) := by decide +kernel
theorem dX5_heldCells_14 : decode cX5_heldCells 14 = .ok (.imul, 1) := by decide +kernel
theorem dX5_heldCells_15 : decode cX5_heldCells 15 = .ok (.iload_n 2, 1) := by decide +kernel
theorem dX5_heldCells_16 : decode cX5_heldCells 16 = .ok (.iadd, 1) := by decide +kernel
theorem dX5_heldCells_17 : decode cX5_heldCells 17 = .ok (.istore 5, 2) := by decide +kernel
theorem dX5_heldCells_19 : decode cX5_heldCells 19 = .ok (.iconst 0, 1) := by decide +kernel
theorem dX5_heldCells_20 : decode cX5_heldCells 20 = .ok (.istore 6, 2) := by decide +kernel
theorem dX5_heldCells_22 : decode cX5_heldCells 22 = .ok (.iload 6, 2) := by decide +kernel
theorem dX5_heldCells_24 : decode cX5_heldCells 24 = .ok (.iload_n 3, 1) := by decide +kernel
theorem dX5_heldCells_25 : decode cX5_heldCells 25 = .ok (.if_icmp .ge 44, 3) := by decide +kernel
theorem dX5_heldCells_28 : decode cX5_heldCells 28 = .ok (.iload 5, 2) := by decide +kernel
theorem dX5_heldCells_30 : decode cX5_heldCells 30 = .ok (.iload 6, 2) := by decide +kernel
theorem dX5_heldCells_32 : decode cX5_heldCells 32 = .ok (.iadd, 1) := by decide +kernel
theorem dX5_heldCells_33 : decode cX5_heldCells 33 = .ok (.istore 7, 2) := by decide +kernel
theorem dX5_heldCells_35 : decode cX5_heldCells 35 = .ok (.iload 7, 2) := by decide +kernel
theorem dX5_heldCells_37 : decode cX5_heldCells 37 = .ok (.ifCond .lt 26, 3) := by decide +kernel
theorem dX5_heldCells_40 : decode cX5_heldCells 40 = .ok (.iload 7, 2) := by decide +kernel
theorem dX5_heldCells_42 : decode cX5_heldCells 42 = .ok (.aload_n 0, 1) := by decide +kernel
theorem dX5_heldCells_43 : decode cX5_heldCells 43 = .ok (.getfield 31, 3) := by decide +kernel
theorem dX5_heldCells_46 : decode cX5_heldCells 46 = .ok (.arraylength, 1) := by decide +kernel
theorem dX5_heldCells_47 : decode cX5_heldCells 47 = .ok (.if_icmp .ge 16, 3) := by decide +kernel
theorem dX5_heldCells_50 : decode cX5_heldCells 50 = .ok (.aload_n 0, 1) := by decide +kernel
theorem dX5_heldCells_51 : decode cX5_heldCells 51 = .ok (.getfield 31, 3) := by decide +kernel
theorem dX5_heldCells_54 : decode cX5_heldCells 54 = .ok (.iload 7, 2) := by decide +kernel
theorem dX5_heldCells_56 : decode cX5_heldCells 56 = .ok (.iaload, 1) := by decide +kernel
theorem dX5_heldCells_57 : decode cX5_heldCells 57 = .ok (.ifCond .eq 6, 3) := by decide +kernel
theorem dX5_heldCells_60 : decode cX5_heldCells 60 = .ok (.iinc 4 1, 3) := by decide +kernel
theorem dX5_heldCells_63 : decode cX5_heldCells 63 = .ok (.iinc 6 1, 3) := by decide +kernel
theorem dX5_heldCells_66 : decode cX5_heldCells 66 = .ok (.goto (-44), 3) := by decide +kernel
theorem dX5_heldCells_69 : decode cX5_heldCells 69 = .ok (.iload 4, 2) := by decide +kernel
theorem dX5_heldCells_71 : decode cX5_heldCells 71 = .ok (.ireturn, 1) := by decide +kernel
theorem dX5_cellAt_0 : decode cX5_cellAt 0 = .ok (.iload_n 0, 1) := by decide +kernel
theorem dX5_cellAt_1 : decode cX5_cellAt 1 = .ok (.bipush 9, 2) := by decide +kernel
theorem dX5_cellAt_3 : decode cX5_cellAt 3 = .ok (.imul, 1) := by decide +kernel
theorem dX5_cellAt_4 : decode cX5_cellAt 4 = .ok (.iload_n 1, 1) := by decide +kernel
theorem dX5_cellAt_5 : decode cX5_cellAt 5 = .ok (.iadd, 1) := by decide +kernel
theorem dX5_cellAt_6 : decode cX5_cellAt 6 = .ok (.ireturn, 1) := by decide +kernel
set_option maxRecDepth 20000 in
theorem ggX5_isCovered_X6_at : GoodIn wsX5_isCovered wsX6_at := goodIn_r _ [7] (by decide +kernel) (by decide +kernel)
set_option maxRecDepth 20000 in
theorem gX5_isCovered_X6_at_n71 : GoodIn wsX5_isCovered (wsX6_at) := ggX5_isCovered_X6_at
set_option maxRecDepth 20000 in
theorem ggX5_isCovered_X5_cellAt : GoodIn wsX5_isCovered wsX5_cellAt := goodIn_r _ [11] (by decide +kernel) (by decide +kernel)
set_option maxRecDepth 20000 in
theorem gX5_isCovered_X5_cellAt : GoodIn wsX5_isCovered (va_wsS RX5 109 yX5_cellAt wsX5_cellAt) := goodIn_app (goodIn_of _ (by decide +kernel)) ggX5_isCovered_X5_cellAt
theorem dX5_isCovered_0 : decode cX5_isCovered 0 = .ok (.aload_n 0, 1) := by decide +kernel
theorem dX5_isCovered_1 : decode cX5_isCovered 1 = .ok (.getfield 15, 3) := by decide +kernel
theorem dX5_isCovered_4 : decode cX5_isCovered 4 = .ok (.iload_n 1, 1) := by decide +kernel
theorem dX5_isCovered_5 : decode cX5_isCovered 5 = .ok (.invokestatic 71, 3) := by decide +kernel
theorem dX5_isCovered_8 : decode cX5_isCovered 8 = .ok (.istore_n 2, 1) := by decide +kernel
theorem dX5_isCovered_9 : decode cX5_isCovered 9 = .ok (.iconst 0, 1) := by decide +kernel
theorem dX5_isCovered_10 : decode cX5_isCovered 10 = .ok (.istore_n 3, 1) := by decide +kernel
theorem dX5_isCovered_11 : decode cX5_isCovered 11 = .ok (.iload_n 3, 1) := by decide +kernel
theorem dX5_isCovered_12 : decode cX5_isCovered 12 = .ok (.iload_n 2, 1) := by decide +kernel
theorem dX5_isCovered_13 : decode cX5_isCovered 13 = .ok (.if_icmp .ge 44, 3) := by decide +kernel
theorem dX5_isCovered_16 : decode cX5_isCovered 16 = .ok (.aload_n 0, 1) := by decide +kernel
theorem dX5_isCovered_17 : decode cX5_isCovered 17 = .ok (.getfield 31, 3) := by decide +kernel
theorem dX5_isCovered_20 : decode cX5_isCovered 20 = .ok (.aload_n 0, 1) := by decide +kernel
theorem dX5_isCovered_21 : decode cX5_isCovered 21 = .ok (.getfield 25, 3) := by decide +kernel
theorem dX5_isCovered_24 : decode cX5_isCovered 24 = .ok (.iload_n 1, 1) := by decide +kernel
theorem dX5_isCovered_25 : decode cX5_isCovered 25 = .ok (.invokestatic 71, 3) := by decide +kernel
theorem dX5_isCovered_28 : decode cX5_isCovered 28 = .ok (.iconst 1, 1) := by decide +kernel
theorem dX5_isCovered_29 : decode cX5_isCovered 29 = .ok (.iadd, 1) := by decide +kernel
theorem dX5_isCovered_30 : decode cX5_isCovered 30 = .ok (.aload_n 0, 1) := by decide +kernel
theorem dX5_isCovered_31 : decode cX5_isCovered 31 = .ok (.getfield 28, 3) := by decide +kernel
theorem dX5_isCovered_34 : decode cX5_isCovered 34 = .ok (.iload_n 1, 1) := by decide +kernel
theorem dX5_isCovered_35 : decode cX5_isCovered 35 = .ok (.invokestatic 71, 3) := by decide +kernel
theorem dX5_isCovered_38 : decode cX5_isCovered 38 = .ok (.iload_n 3, 1) := by decide +kernel
theorem dX5_isCovered_39 : decode cX5_isCovered 39 = .ok (.iadd, 1) := by decide +kernel
theorem dX5_isCovered_40 : decode cX5_isCovered 40 = .ok (.invokestatic 109, 3) := by decide +kernel
theorem dX5_isCovered_43 : decode cX5_isCovered 43 = .ok (.invokestatic 71, 3) := by decide +kernel
theorem dX5_isCovered_46 : decode cX5_isCovered 46 = .ok (.ifCond .eq 5, 3) := by decide +kernel
theorem dX5_isCovered_49 : decode cX5_isCovered 49 = .ok (.iconst 1, 1) := by decide +kernel
theorem dX5_isCovered_50 : decode cX5_isCovered 50 = .ok (.ireturn, 1) := by decide +kernel
theorem dX5_isCovered_51 : decode cX5_isCovered 51 = .ok (.iinc 3 1, 3) := by decide +kernel
theorem dX5_isCovered_54 : decode cX5_isCovered 54 = .ok (.goto (-43), 3) := by decide +kernel
theorem dX5_isCovered_57 : decode cX5_isCovered 57 = .ok (.iconst 0, 1) := by decide +kernel
theorem dX5_isCovered_58 : decode cX5_isCovered 58 = .ok (.ireturn, 1) := by decide +kernel
set_option maxRecDepth 20000 in
theorem ggX5_lay_X6_set : GoodIn wsX5_lay wsX6_set := goodIn_r _ [9] (by decide +kernel) (by decide +kernel)
set_option maxRecDepth 20000 in
theorem gX5_lay_X6_set_n55 : GoodIn wsX5_lay (wsX6_set) := ggX5_lay_X6_set
set_option maxRecDepth 20000 in
theorem ggX5_lay_X6_at : GoodIn wsX5_lay wsX6_at := goodIn_r _ [11] (by decide +kernel) (by decide +kernel)
set_option maxRecDepth 20000 in
theorem gX5_lay_X6_at_n71 : GoodIn wsX5_lay (wsX6_at) := ggX5_lay_X6_at
set_option maxRecDepth 20000 in
theorem ggX5_lay_X5_cellAt : GoodIn wsX5_lay wsX5_cellAt := goodIn_r _ [15] (by decide +kernel) (by decide +kernel)
set_option maxRecDepth 20000 in
theorem gX5_lay_X5_cellAt : GoodIn wsX5_lay (va_wsS RX5 109 yX5_cellAt wsX5_cellAt) := goodIn_app (goodIn_of _ (by decide +kernel)) ggX5_lay_X5_cellAt
theorem dX5_lay_0 : decode cX5_lay 0 = .ok (.aload_n 0, 1) := by decide +kernel
theorem dX5_lay_1 : decode cX5_lay 1 = .ok (.dup, 1) := by decide +kernel
theorem dX5_lay_2 : decode cX5_lay 2 = .ok (.getfield 44, 3) := by decide +kernel
theorem dX5_lay_5 : decode cX5_lay 5 = .ok (.iconst 1, 1) := by decide +kernel
theorem dX5_lay_6 : decode cX5_lay 6 = .ok (.iload_n 1, 1) := by decide +kernel
theorem dX5_lay_7 : decode cX5_lay 7 = .ok (.ishl, 1) := by decide +kernel
theorem dX5_lay_8 : decode cX5_lay 8 = .ok (.ior, 1) := by decide +kernel
theorem dX5_lay_9 : decode cX5_lay 9 = .ok (.putfield 44, 3) := by decide +kernel
theorem dX5_lay_12 : decode cX5_lay 12 = .ok (.aload_n 0, 1) := by decide +kernel
theorem dX5_lay_13 : decode cX5_lay 13 = .ok (.getfield 25, 3) := by decide +kernel
theorem dX5_lay_16 : decode cX5_lay 16 = .ok (.iload_n 1, 1) := by decide +kernel
theorem dX5_lay_17 : decode cX5_lay 17 = .ok (.iload_n 2, 1) := by decide +kernel
theorem dX5_lay_18 : decode cX5_lay 18 = .ok (.invokestatic 55, 3) := by decide +kernel
theorem dX5_lay_21 : decode cX5_lay 21 = .ok (.aload_n 0, 1) := by decide +kernel
theorem dX5_lay_22 : decode cX5_lay 22 = .ok (.getfield 28, 3) := by decide +kernel
theorem dX5_lay_25 : decode cX5_lay 25 = .ok (.iload_n 1, 1) := by decide +kernel
theorem dX5_lay_26 : decode cX5_lay 26 = .ok (.iload_n 3, 1) := by decide +kernel
theorem dX5_lay_27 : decode cX5_lay 27 = .ok (.invokestatic 55, 3) := by decide +kernel
theorem dX5_lay_30 : decode cX5_lay 30 = .ok (.aload_n 0, 1) := by decide +kernel
theorem dX5_lay_31 : decode cX5_lay 31 = .ok (.getfield 15, 3) := by decide +kernel
theorem dX5_lay_34 : decode cX5_lay 34 = .ok (.iload_n 1, 1) := by decide +kernel
theorem dX5_lay_35 : decode cX5_lay 35 = .ok (.invokestatic 71, 3) := by decide +kernel
theorem dX5_lay_38 : decode cX5_lay 38 = .ok (.istore 4, 2) := by decide +kernel
theorem dX5_lay_40 : decode cX5_lay 40 = .ok (.iconst 0, 1) := by decide +kernel
theorem dX5_lay_41 : decode cX5_lay 41 = .ok (.istore 5, 2) := by decide +kernel
theorem dX5_lay_43 : decode cX5_lay 43 = .ok (.iload 5, 2) := by decide +kernel
theorem dX5_lay_45 : decode cX5_lay 45 = .ok (.iload 4, 2) := by decide +kernel
theorem dX5_lay_47 : decode cX5_lay 47 = .ok (.if_icmp .ge 41, 3) := by decide +kernel
theorem dX5_lay_50 : decode cX5_lay 50 = .ok (.aload_n 0, 1) := by decide +kernel
theorem dX5_lay_51 : decode cX5_lay 51 = .ok (.getfield 31, 3) := by decide +kernel
theorem dX5_lay_54 : decode cX5_lay 54 = .ok (.iload_n 2, 1) := by decide +kernel
theorem dX5_lay_55 : decode cX5_lay 55 = .ok (.iload_n 3, 1) := by decide +kernel
theorem dX5_lay_56 : decode cX5_lay 56 = .ok (.iload 5, 2) := by decide +kernel
theorem dX5_lay_58 : decode cX5_lay 58 = .ok (.iadd, 1) := by decide +kernel
theorem dX5_lay_59 : decode cX5_lay 59 = .ok (.invokestatic 109, 3) := by decide +kernel
theorem dX5_lay_62 : decode cX5_lay 62 = .ok (.iload_n 1, 1) := by decide +kernel
theorem dX5_lay_63 : decode cX5_lay 63 = .ok (.iconst 1, 1) := by decide +kernel
theorem dX5_lay_64 : decode cX5_lay 64 = .ok (.iadd, 1) := by decide +kernel
theorem dX5_lay_65 : decode cX5_lay 65 = .ok (.invokestatic 55, 3) := by decide +kernel
theorem dX5_lay_68 : decode cX5_lay 68 = .ok (.aload_n 0, 1) := by decide +kernel
theorem dX5_lay_69 : decode cX5_lay 69 = .ok (.getfield 34, 3) := by decide +kernel
theorem dX5_lay_72 : decode cX5_lay 72 = .ok (.iload_n 3, 1) := by decide +kernel
theorem dX5_lay_73 : decode cX5_lay 73 = .ok (.iload 5, 2) := by decide +kernel
theorem dX5_lay_75 : decode cX5_lay 75 = .ok (.iadd, 1) := by decide +kernel
theorem dX5_lay_76 : decode cX5_lay 76 = .ok (.iload_n 2, 1) := by decide +kernel
theorem dX5_lay_77 : decode cX5_lay 77 = .ok (.iconst 1, 1) := by decide +kernel
theorem dX5_lay_78 : decode cX5_lay 78 = .ok (.iadd, 1) := by decide +kernel
theorem dX5_lay_79 : decode cX5_lay 79 = .ok (.invokestatic 55, 3) := by decide +kernel
theorem dX5_lay_82 : decode cX5_lay 82 = .ok (.iinc 5 1, 3) := by decide +kernel
theorem dX5_lay_85 : decode cX5_lay 85 = .ok (.goto (-42), 3) := by decide +kernel
theorem dX5_lay_88 : decode cX5_lay 88 = .ok (.return_, 1) := by decide +kernel
set_option maxRecDepth 20000 in
theorem ggX5_lift_X5_isLaid : GoodIn wsX5_lift wsX5_isLaid := goodIn_r _ [11, 1, 12, 13, 14, 26, 27, 28, 29, 30, 31, 32, 33, 34, 35, 36] (by decide +kernel) (by decide +kernel)
set_option maxRecDepth 20000 in
theorem gX5_lift_X5_isLaid : GoodIn wsX5_lift (wsV RX5 67 RX5 yX5_isLaid wsX5_isLaid) := goodIn_app (goodIn_of _ (by decide +kernel)) ggX5_lift_X5_isLaid
set_option maxRecDepth 20000 in
theorem ggX5_lift_X6_at : GoodIn wsX5_lift wsX6_at := goodIn_r _ [16] (by decide +kernel) (by decide +kernel)
set_option maxRecDepth 20000 in
theorem gX5_lift_X6_at_n71 : GoodIn wsX5_lift (wsX6_at) := ggX5_lift_X6_at
set_option maxRecDepth 20000 in
theorem ggX5_lift_X5_cellAt : GoodIn wsX5_lift wsX5_cellAt := goodIn_r _ [19] (by decide +kernel) (by decide +kernel)
set_option maxRecDepth 20000 in
theorem gX5_lift_X5_cellAt : GoodIn wsX5_lift (va_wsS RX5 109 yX5_cellAt wsX5_cellAt) := goodIn_app (goodIn_of _ (by decide +kernel)) ggX5_lift_X5_cellAt
set_option maxRecDepth 20000 in
theorem ggX5_lift_X6_set : GoodIn wsX5_lift wsX6_set := goodIn_r _ [21] (by decide +kernel) (by decide +kernel)
set_option maxRecDepth 20000 in
theorem gX5_lift_X6_set_n55 : GoodIn wsX5_lift (wsX6_set) := ggX5_lift_X6_set
set_option maxRecDepth 20000 in
theorem ggX5_lift_X5_heightBelow : GoodIn wsX5_lift wsX5_heightBelow := goodIn_r _ [25, 5, 17, 18, 10, 19, 15, 13, 16, 26, 27, 28, 29, 30, 31, 32, 33, 34, 35, 36] (by decide +kernel) (by decide +kernel)
set_option maxRecDepth 20000 in
theorem gX5_lift_X5_heightBelow : GoodIn wsX5_lift (wsV RX5 112 RX5 yX5_heightBelow wsX5_heightBelow) := goodIn_app (goodIn_of _ (by decide +kernel)) ggX5_lift_X5_heightBelow
theorem dX5_lift_0 : decode cX5_lift 0 = .ok (.aload_n 0, 1) := by decide +kernel
theorem dX5_lift_1 : decode cX5_lift 1 = .ok (.iload_n 1, 1) := by decide +kernel
theorem dX5_lift_2 : decode cX5_lift 2 = .ok (.invokevirtual 67, 3) := by decide +kernel
theorem dX5_lift_5 : decode cX5_lift 5 = .ok (.ifCond .ne 4, 3) := by decide +kernel
theorem dX5_lift_8 : decode cX5_lift 8 = .ok (.return_, 1) := by decide +kernel
theorem dX5_lift_9 : decode cX5_lift 9 = .ok (.aload_n 0, 1) := by decide +kernel
theorem dX5_lift_10 : decode cX5_lift 10 = .ok (.dup, 1) := by decide +kernel
theorem dX5_lift_11 : decode cX5_lift 11 = .ok (.getfield 44, 3) := by decide +kernel
theorem dX5_lift_14 : decode cX5_lift 14 = .ok (.iconst 1, 1) := by decide +kernel
theorem dX5_lift_15 : decode cX5_lift 15 = .ok (.iload_n 1, 1) := by decide +kernel
theorem dX5_lift_16 : decode cX5_lift 16 = .ok (.ishl, 1) := by decide +kernel
theorem dX5_lift_17 : decode cX5_lift 17 = .ok (.iconst (-1), 1) := by decide +kernel
theorem dX5_lift_18 : decode cX5_lift 18 = .ok (.ixor, 1) := by decide +kernel
theorem dX5_lift_19 : decode cX5_lift 19 = .ok (.iand, 1) := by decide +kernel
theorem dX5_lift_20 : decode cX5_lift 20 = .ok (.putfield 44, 3) := by decide +kernel
theorem dX5_lift_23 : decode cX5_lift 23 = .ok (.aload_n 0, 1) := by decide +kernel
theorem dX5_lift_24 : decode cX5_lift 24 = .ok (.getfield 25, 3) := by decide +kernel
theorem dX5_lift_27 : decode cX5_lift 27 = .ok (.iload_n 1, 1) := by decide +kernel
theorem dX5_lift_28 : decode cX5_lift 28 = .ok (.invokestatic 71, 3) := by decide +kernel
theorem dX5_lift_31 : decode cX5_lift 31 = .ok (.istore_n 2, 1) := by decide +kernel
theorem dX5_lift_32 : decode cX5_lift 32 = .ok (.aload_n 0, 1) := by decide +kernel
theorem dX5_lift_33 : decode cX5_lift 33 = .ok (.getfield 28, 3) := by decide +kernel
theorem dX5_lift_36 : decode cX5_lift 36 = .ok (.iload_n 1, 1) := by decide +kernel
theorem dX5_lift_37 : decode cX5_lift 37 = .ok (.invokestatic 71, 3) := by decide +kernel
theorem dX5_lift_40 : decode cX5_lift 40 = .ok (.istore_n 3, 1) := by decide +kernel
theorem dX5_lift_41 : decode cX5_lift 41 = .ok (.aload_n 0, 1) := by decide +kernel
theorem dX5_lift_42 : decode cX5_lift 42 = .ok (.getfield 15, 3) := by decide +kernel
theorem dX5_lift_45 : decode cX5_lift 45 = .ok (.iload_n 1, 1) := by decide +kernel
theorem dX5_lift_46 : decode cX5_lift 46 = .ok (.invokestatic 71, 3) := by decide +kernel
theorem dX5_lift_49 : decode cX5_lift 49 = .ok (.istore 4, 2) := by decide +kernel
theorem dX5_lift_51 : decode cX5_lift 51 = .ok (.iconst 0, 1) := by decide +kernel
theorem dX5_lift_52 : decode cX5_lift 52 = .ok (.istore 5, 2) := by decide +kernel
theorem dX5_lift_54 : decode cX5_lift 54 = .ok (.iload 5, 2) := by decide +kernel
theorem dX5_lift_56 : decode cX5_lift 56 = .ok (.iload 4, 2) := by decide +kernel
theorem dX5_lift_58 : decode cX5_lift 58 = .ok (.if_icmp .ge 55, 3) := by decide +kernel
theorem dX5_lift_61 : decode cX5_lift 61 = .ok (.aload_n 0, 1) := by decide +kernel
theorem dX5_lift_62 : decode cX5_lift 62 = .ok (.getfield 31, 3) := by decide +kernel
theorem dX5_lift_65 : decode cX5_lift 65 = .ok (.iload_n 2, 1) := by decide +kernel
theorem dX5_lift_66 : decode cX5_lift 66 = .ok (.iload_n 3, 1) := by decide +kernel
theorem dX5_lift_67 : decode cX5_lift 67 = .ok (.iload 5, 2) := by decide +kernel
theorem dX5_lift_69 : decode cX5_lift 69 = .ok (.iadd, 1) := by decide +kernel
theorem dX5_lift_70 : decode cX5_lift 70 = .ok (.invokestatic 109, 3) := by decide +kernel
theorem dX5_lift_73 : decode cX5_lift 73 = .ok (.iconst 0, 1) := by decide +kernel
theorem dX5_lift_74 : decode cX5_lift 74 = .ok (.invokestatic 55, 3) := by decide +kernel
theorem dX5_lift_77 : decode cX5_lift 77 = .ok (.aload_n 0, 1) := by decide +kernel
theorem dX5_lift_78 : decode cX5_lift 78 = .ok (.getfield 34, 3) := by decide +kernel
theorem dX5_lift_81 : decode cX5_lift 81 = .ok (.iload_n 3, 1) := by decide +kernel
theorem dX5_lift_82 : decode cX5_lift 82 = .ok (.iload 5, 2) := by decide +kernel
theorem dX5_lift_84 : decode cX5_lift 84 = .ok (.iadd, 1) := by decide +kernel
theorem dX5_lift_85 : decode cX5_lift 85 = .ok (.aload_n 0, 1) := by decide +kernel
theorem dX5_lift_86 : decode cX5_lift 86 = .ok (.aload_n 0, 1) := by decide +kernel
theorem dX5_lift_87 : decode cX5_lift 87 = .ok (.getfield 34, 3) := by decide +kernel
theorem dX5_lift_90 : decode cX5_lift 90 = .ok (.iload_n 3, 1) := by decide +kernel
theorem dX5_lift_91 : decode cX5_lift 91 = .ok (.iload 5, 2) := by decide +kernel
theorem dX5_lift_93 : decode cX5_lift 93 = .ok (.iadd, 1) := by decide +kernel
theorem dX5_lift_94 : decode cX5_lift 94 = .ok (.invokestatic 71, 3) := by decide +kernel
theorem dX5_lift_97 : decode cX5_lift 97 = .ok (.iload_n 3, 1) := by decide +kernel
theorem dX5_lift_98 : decode cX5_lift 98 = .ok (.iload 5, 2) := by decide +kernel
theorem dX5_lift_100 : decode cX5_lift 100 = .ok (.iadd, 1) := by decide +kernel
theorem dX5_lift_101 : decode cX5_lift 101 = .ok (.invokevirtual 112, 3) := by decide +kernel
theorem dX5_lift_104 : decode cX5_lift 104 = .ok (.invokestatic 55, 3) := by decide +kernel
theorem dX5_lift_107 : decode cX5_lift 107 = .ok (.iinc 5 1, 3) := by decide +kernel
theorem dX5_lift_110 : decode cX5_lift 110 = .ok (.goto (-56), 3) := by decide +kernel
theorem dX5_lift_113 : decode cX5_lift 113 = .ok (.return_, 1) := by decide +kernel
set_option maxRecDepth 20000 in
theorem ggX5_heightBelow_X5_cellAt : GoodIn wsX5_heightBelow wsX5_cellAt := goodIn_r _ [5] (by decide +kernel) (by decide +kernel)
set_option maxRecDepth 20000 in
theorem gX5_heightBelow_X5_cellAt : GoodIn wsX5_heightBelow (va_wsS RX5 109 yX5_cellAt wsX5_cellAt) := goodIn_app (goodIn_of _ (by decide +kernel)) ggX5_heightBelow_X5_cellAt
set_option maxRecDepth 20000 in
theorem ggX5_heightBelow_X6_at : GoodIn wsX5_heightBelow wsX6_at := goodIn_r _ [8] (by decide +kernel) (by decide +kernel)
set_option maxRecDepth 20000 in
theorem gX5_heightBelow_X6_at_n71 : GoodIn wsX5_heightBelow (wsX6_at) := ggX5_heightBelow_X6_at
theorem dX5_heightBelow_0 : decode cX5_heightBelow 0 = .ok (.iload_n 1, 1) := by decide +kernel
theorem dX5_heightBelow_1 : decode cX5_heightBelow 1 = .ok (.istore_n 3, 1) := by decide +kernel
theorem dX5_heightBelow_2 : decode cX5_heightBelow 2 = .ok (.iload_n 3, 1) := by decide +kernel
theorem dX5_heightBelow_3 : decode cX5_heightBelow 3 = .ok (.ifCond .le 28, 3) := by decide +kernel
theorem dX5_heightBelow_6 : decode cX5_heightBelow 6 = .ok (.aload_n 0, 1) := by decide +kernel
theorem dX5_heightBelow_7 : decode cX5_heightBelow 7 = .ok (.getfield 31, 3) := by decide +kernel
theorem dX5_heightBelow_10 : decode cX5_heightBelow 10 = .ok (.iload_n 3, 1) := by decide +kernel
theorem dX5_heightBelow_11 : decode cX5_heightBelow 11 = .ok (.iconst 1, 1) := by decide +kernel
theorem dX5_heightBelow_12 : decode cX5_heightBelow 12 = .ok (.isub, 1) := by decide +kernel
theorem dX5_heightBelow_13 : decode cX5_heightBelow 13 = .ok (.iload_n 2, 1) := by decide +kernel
theorem dX5_heightBelow_14 : decode cX5_heightBelow 14 = .ok (.invokestatic 109, 3) := by decide +kernel
theorem dX5_heightBelow_17 : decode cX5_heightBelow 17 = .ok (.invokestatic 71, 3) := by decide +kernel
theorem dX5_heightBelow_20 : decode cX5_heightBelow 20 = .ok (.ifCond .eq 5, 3) := by decide +kernel
theorem dX5_heightBelow_23 : decode cX5_heightBelow 23 = .ok (.iload_n 3, 1) := by decide +kernel
theorem dX5_heightBelow_24 : decode cX5_heightBelow 24 = .ok (.ireturn, 1) := by decide +kernel
theorem dX5_heightBelow_25 : decode cX5_heightBelow 25 = .ok (.iinc 3 (-1), 3) := by decide +kernel
theorem dX5_heightBelow_28 : decode cX5_heightBelow 28 = .ok (.goto (-26), 3) := by decide +kernel
theorem dX5_heightBelow_31 : decode cX5_heightBelow 31 = .ok (.iconst 0, 1) := by decide +kernel
theorem dX5_heightBelow_32 : decode cX5_heightBelow 32 = .ok (.ireturn, 1) := by decide +kernel
set_option maxRecDepth 20000 in
theorem ggX5_liftAll_X6_hasBit : GoodIn wsX5_liftAll wsX6_hasBit := goodIn_r _ [3] (by decide +kernel) (by decide +kernel)
set_option maxRecDepth 20000 in
theorem gX5_liftAll_X6_hasBit_n59 : GoodIn wsX5_liftAll (wsX6_hasBit) := ggX5_liftAll_X6_hasBit
set_option maxRecDepth 20000 in
theorem ggX5_liftAll_X5_lift : GoodIn wsX5_liftAll wsX5_lift := goodIn_r _ [8, 9, 10, 11, 12, 13, 14, 15, 16, 17, 7, 18, 1, 2, 3, 19, 20, 21, 22, 23, 24, 25, 26, 27, 28, 29, 30, 31, 32, 33, 34, 35, 36, 37, 38, 39, 40] (by decide +kernel) (by decide +kernel)
set_option maxRecDepth 20000 in
theorem gX5_liftAll_X5_lift : GoodIn wsX5_liftAll (wsV RX5 102 RX5 yX5_lift wsX5_lift) := goodIn_app (goodIn_of _ (by decide +kernel)) ggX5_liftAll_X5_lift
theorem dX5_liftAll_0 : decode cX5_liftAll 0 = .ok (.iconst 0, 1) := by decide +kernel
theorem dX5_liftAll_1 : decode cX5_liftAll 1 = .ok (.istore_n 2, 1) := by decide +kernel
theorem dX5_liftAll_2 : decode cX5_liftAll 2 = .ok (.iload_n 2, 1) := by decide +kernel
theorem dX5_liftAll_3 : decode cX5_liftAll 3 = .ok (.bipush 10, 2) := by decide +kernel
theorem dX5_liftAll_5 : decode cX5_liftAll 5 = .ok (.if_icmp .ge 22, 3) := by decide +kernel
theorem dX5_liftAll_8 : decode cX5_liftAll 8 = .ok (.iload_n 1, 1) := by decide +kernel
theorem dX5_liftAll_9 : decode cX5_liftAll 9 = .ok (.iload_n 2, 1) := by decide +kernel
theorem dX5_liftAll_10 : decode cX5_liftAll 10 = .ok (.invokestatic 59, 3) := by decide +kernel
theorem dX5_liftAll_13 : decode cX5_liftAll 13 = .ok (.ifCond .eq 8, 3) := by decide +kernel
theorem dX5_liftAll_16 : decode cX5_liftAll 16 = .ok (.aload_n 0, 1) := by decide +kernel
theorem dX5_liftAll_17 : decode cX5_liftAll 17 = .ok (.iload_n 2, 1) := by decide +kernel
theorem dX5_liftAll_18 : decode cX5_liftAll 18 = .ok (.invokevirtual 102, 3) := by decide +kernel
theorem dX5_liftAll_21 : decode cX5_liftAll 21 = .ok (.iinc 2 1, 3) := by decide +kernel
theorem dX5_liftAll_24 : decode cX5_liftAll 24 = .ok (.goto (-22), 3) := by decide +kernel
theorem dX5_liftAll_27 : decode cX5_liftAll 27 = .ok (.return_, 1) := by decide +kernel
set_option maxRecDepth 20000 in
theorem ggX5_weigh_X6_fill_ : GoodIn wsX5_weigh wsX6_fill_ := goodIn_r _ [5] (by decide +kernel) (by decide +kernel)
set_option maxRecDepth 20000 in
theorem gX5_weigh_X6_fill__n115 : GoodIn wsX5_weigh (wsX6_fill_) := ggX5_weigh_X6_fill_
set_option maxRecDepth 20000 in
theorem ggX5_weigh_X5_tallest : GoodIn wsX5_weigh wsX5_tallest := goodIn_r _ [10, 11, 12, 13, 14, 15, 16, 4, 17, 45, 46, 47, 48, 49, 50, 51, 52, 53, 54, 55] (by decide +kernel) (by decide +kernel)
set_option maxRecDepth 20000 in
theorem gX5_weigh_X5_tallest : GoodIn wsX5_weigh (wsV RX5 118 RX5 yX5_tallest wsX5_tallest) := goodIn_app (goodIn_of _ (by decide +kernel)) ggX5_weigh_X5_tallest
set_option maxRecDepth 20000 in
theorem ggX5_weigh_X5_isLaid : GoodIn wsX5_weigh wsX5_isLaid := goodIn_r _ [21, 22, 23, 4, 24, 45, 46, 47, 48, 49, 50, 51, 52, 53, 54, 55] (by decide +kernel) (by decide +kernel)
set_option maxRecDepth 20000 in
theorem gX5_weigh_X5_isLaid : GoodIn wsX5_weigh (wsV RX5 67 RX5 yX5_isLaid wsX5_isLaid) := goodIn_app (goodIn_of _ (by decide +kernel)) ggX5_weigh_X5_isLaid
set_option maxRecDepth 20000 in
theorem ggX5_weigh_X6_at : GoodIn wsX5_weigh wsX6_at := goodIn_r _ [17] (by decide +kernel) (by decide +kernel)
set_option maxRecDepth 20000 in
theorem gX5_weigh_X6_at_n71 : GoodIn wsX5_weigh (wsX6_at) := ggX5_weigh_X6_at
set_option maxRecDepth 20000 in
theorem ggX5_weigh_X5_passDown : GoodIn wsX5_weigh wsX5_passDown := goodIn_r _ [28, 29, 30, 31, 32, 1, 33, 16, 4, 17, 34, 35, 36, 9, 37, 38, 39, 40, 41, 42, 43, 44, 45, 46, 47, 48, 49, 50, 51, 52, 53, 54, 55] (by decide +kernel) (by decide +kernel)
set_option maxRecDepth 20000 in
theorem gX5_weigh_X5_passDown : GoodIn wsX5_weigh (wsV RX5 121 RX5 yX5_passDown wsX5_passDown) := goodIn_app (goodIn_of _ (by decide +kernel)) ggX5_weigh_X5_passDown
theorem dX5_weigh_0 : decode cX5_weigh 0 = .ok (.aload_n 0, 1) := by decide +kernel
theorem dX5_weigh_1 : decode cX5_weigh 1 = .ok (.getfield 37, 3) := by decide +kernel
theorem dX5_weigh_4 : decode cX5_weigh 4 = .ok (.lconst 0, 1) := by decide +kernel
theorem dX5_weigh_5 : decode cX5_weigh 5 = .ok (.invokestatic 115, 3) := by decide +kernel
theorem dX5_weigh_8 : decode cX5_weigh 8 = .ok (.aload_n 0, 1) := by decide +kernel
theorem dX5_weigh_9 : decode cX5_weigh 9 = .ok (.invokevirtual 118, 3) := by decide +kernel
theorem dX5_weigh_12 : decode cX5_weigh 12 = .ok (.iconst 1, 1) := by decide +kernel
theorem dX5_weigh_13 : decode cX5_weigh 13 = .ok (.isub, 1) := by decide +kernel
theorem dX5_weigh_14 : decode cX5_weigh 14 = .ok (.istore_n 1, 1) := by decide +kernel
theorem dX5_weigh_15 : decode cX5_weigh 15 = .ok (.iload_n 1, 1) := by decide +kernel
theorem dX5_weigh_16 : decode cX5_weigh 16 = .ok (.ifCond .le 49, 3) := by decide +kernel
theorem dX5_weigh_19 : decode cX5_weigh 19 = .ok (.iconst 0, 1) := by decide +kernel
theorem dX5_weigh_20 : decode cX5_weigh 20 = .ok (.istore_n 2, 1) := by decide +kernel
theorem dX5_weigh_21 : decode cX5_weigh 21 = .ok (.iload_n 2, 1) := by decide +kernel
theorem dX5_weigh_22 : decode cX5_weigh 22 = .ok (.bipush 10, 2) := by decide +kernel
theorem dX5_weigh_24 : decode cX5_weigh 24 = .ok (.if_icmp .ge 35, 3) := by decide +kernel
theorem dX5_weigh_27 : decode cX5_weigh 27 = .ok (.aload_n 0, 1) := by decide +kernel
theorem dX5_weigh_28 : decode cX5_weigh 28 = .ok (.iload_n 2, 1) := by decide +kernel
theorem dX5_weigh_29 : decode cX5_weigh 29 = .ok (.invokevirtual 67, 3) := by decide +kernel
theorem dX5_weigh_32 : decode cX5_weigh 32 = .ok (.ifCond .eq 21, 3) := by decide +kernel
theorem dX5_weigh_35 : decode cX5_weigh 35 = .ok (.aload_n 0, 1) := by decide +kernel
theorem dX5_weigh_36 : decode cX5_weigh 36 = .ok (.getfield 25, 3) := by decide +kernel
theorem dX5_weigh_39 : decode cX5_weigh 39 = .ok (.iload_n 2, 1) := by decide +kernel
theorem dX5_weigh_40 : decode cX5_weigh 40 = .ok (.invokestatic 71, 3) := by decide +kernel
theorem dX5_weigh_43 : decode cX5_weigh 43 = .ok (.iload_n 1, 1) := by decide +kernel
theorem dX5_weigh_44 : decode cX5_weigh 44 = .ok (.if_icmp .ne 9, 3) := by decide +kernel
theorem dX5_weigh_47 : decode cX5_weigh 47 = .ok (.aload_n 0, 1) := by decide +kernel
theorem dX5_weigh_48 : decode cX5_weigh 48 = .ok (.iload_n 2, 1) := by decide +kernel
theorem dX5_weigh_49 : decode cX5_weigh 49 = .ok (.iload_n 1, 1) := by decide +kernel
theorem dX5_weigh_50 : decode cX5_weigh 50 = .ok (.invokevirtual 121, 3) := by decide +kernel
theorem dX5_weigh_53 : decode cX5_weigh 53 = .ok (.iinc 2 1, 3) := by decide +kernel
theorem dX5_weigh_56 : decode cX5_weigh 56 = .ok (.goto (-35), 3) := by decide +kernel
theorem dX5_weigh_59 : decode cX5_weigh 59 = .ok (.iinc 1 (-1), 3) := by decide +kernel
theorem dX5_weigh_62 : decode cX5_weigh 62 = .ok (.goto (-47), 3) := by decide +kernel
theorem dX5_weigh_65 : decode cX5_weigh 65 = .ok (.return_, 1) := by decide +kernel
set_option maxRecDepth 20000 in
theorem ggX5_passDown_X6_at : GoodIn wsX5_passDown wsX6_at := goodIn_r _ [9] (by decide +kernel) (by decide +kernel)
set_option maxRecDepth 20000 in
theorem gX5_passDown_X6_at_n71 : GoodIn wsX5_passDown (wsX6_at) := ggX5_passDown_X6_at
set_option maxRecDepth 20000 in
theorem ggX5_passDown_X5_heldCells : GoodIn wsX5_passDown wsX5_heldCells := goodIn_r _ [14, 6, 22, 23, 24, 25, 26, 27, 28, 29, 30, 31, 32] (by decide +kernel) (by decide +kernel)
set_option maxRecDepth 20000 in
theorem gX5_passDown_X5_heldCells : GoodIn wsX5_passDown (wsV RX5 87 RX5 yX5_heldCells wsX5_heldCells) := goodIn_app (goodIn_of _ (by decide +kernel)) ggX5_passDown_X5_heldCells
set_option maxRecDepth 20000 in
theorem ggX5_passDown_X6_at_ : GoodIn wsX5_passDown wsX6_at_ := goodIn_r _ [16] (by decide +kernel) (by decide +kernel)
set_option maxRecDepth 20000 in
theorem gX5_passDown_X6_at__n127 : GoodIn wsX5_passDown (wsX6_at_) := ggX5_passDown_X6_at_
set_option maxRecDepth 20000 in
theorem ggX5_passDown_X5_cellAt : GoodIn wsX5_passDown wsX5_cellAt := goodIn_r _ [19] (by decide +kernel) (by decide +kernel)
set_option maxRecDepth 20000 in
theorem gX5_passDown_X5_cellAt : GoodIn wsX5_passDown (va_wsS RX5 109 yX5_cellAt wsX5_cellAt) := goodIn_app (goodIn_of _ (by decide +kernel)) ggX5_passDown_X5_cellAt
set_option maxRecDepth 20000 in
theorem ggX5_passDown_X6_addTo : GoodIn wsX5_passDown wsX6_addTo := goodIn_r _ [21] (by decide +kernel) (by decide +kernel)
set_option maxRecDepth 20000 in
theorem gX5_passDown_X6_addTo_n130 : GoodIn wsX5_passDown (wsX6_addTo) := ggX5_passDown_X6_addTo
theorem dX5_passDown_0 : decode cX5_passDown 0 = .ok (.aload_n 0, 1) := by decide +kernel
theorem dX5_passDown_1 : decode cX5_passDown 1 = .ok (.getfield 15, 3) := by decide +kernel
theorem dX5_passDown_4 : decode cX5_passDown 4 = .ok (.iload_n 1, 1) := by decide +kernel
theorem dX5_passDown_5 : decode cX5_passDown 5 = .ok (.invokestatic 71, 3) := by decide +kernel
theorem dX5_passDown_8 : decode cX5_passDown 8 = .ok (.istore_n 3, 1) := by decide +kernel
theorem dX5_passDown_9 : decode cX5_passDown 9 = .ok (.aload_n 0, 1) := by decide +kernel
theorem dX5_passDown_10 : decode cX5_passDown 10 = .ok (.getfield 28, 3) := by decide +kernel
theorem dX5_passDown_13 : decode cX5_passDown 13 = .ok (.iload_n 1, 1) := by decide +kernel
theorem dX5_passDown_14 : decode cX5_passDown 14 = .ok (.invokestatic 71, 3) := by decide +kernel
theorem dX5_passDown_17 : decode cX5_passDown 17 = .ok (.istore 4, 2) := by decide +kernel
theorem dX5_passDown_19 : decode cX5_passDown 19 = .ok (.aload_n 0, 1) := by decide +kernel
theorem dX5_passDown_20 : decode cX5_passDown 20 = .ok (.iload_n 2, 1) := by decide +kernel
theorem dX5_passDown_21 : decode cX5_passDown 21 = .ok (.iload 4, 2) := by decide +kernel
theorem dX5_passDown_23 : decode cX5_passDown 23 = .ok (.iload_n 3, 1) := by decide +kernel
theorem dX5_passDown_24 : decode cX5_passDown 24 = .ok (.invokevirtual 87, 3) := by decide +kernel
theorem dX5_passDown_27 : decode cX5_passDown 27 = .ok (.istore 5, 2) := by decide +kernel
theorem dX5_passDown_29 : decode cX5_passDown 29 = .ok (.iload 5, 2) := by decide +kernel
theorem dX5_passDown_31 : decode cX5_passDown 31 = .ok (.ifCond .gt 4, 3) := by decide +kernel
theorem dX5_passDown_34 : decode cX5_passDown 34 = .ok (.return_, 1) := by decide +kernel
theorem dX5_passDown_35 : decode cX5_passDown 35 = .ok (.aload_n 0, 1) := by decide +kernel
theorem dX5_passDown_36 : decode cX5_passDown 36 = .ok (.getfield 19, 3) := by decide +kernel
theorem dX5_passDown_39 : decode cX5_passDown 39 = .ok (.iload_n 1, 1) := by decide +kernel
theorem dX5_passDown_40 : decode cX5_passDown 40 = .ok (.invokestatic 71, 3) := by decide +kernel
theorem dX5_passDown_43 : decode cX5_passDown 43 = .ok (.i2l, 1) := by decide +kernel
theorem dX5_passDown_44 : decode cX5_passDown 44 = .ok (.ldc2_w 125, 3) := by decide +kernel
theorem dX5_passDown_47 : decode cX5_passDown 47 = .ok (.lmul, 1) := by decide +kernel
theorem dX5_passDown_48 : decode cX5_passDown 48 = .ok (.aload_n 0, 1) := by decide +kernel
theorem dX5_passDown_49 : decode cX5_passDown 49 = .ok (.getfield 37, 3) := by decide +kernel
theorem dX5_passDown_52 : decode cX5_passDown 52 = .ok (.iload_n 1, 1) := by decide +kernel
theorem dX5_passDown_53 : decode cX5_passDown 53 = .ok (.invokestatic 127, 3) := by decide +kernel
theorem dX5_passDown_56 : decode cX5_passDown 56 = .ok (.ladd, 1) := by decide +kernel
theorem dX5_passDown_57 : decode cX5_passDown 57 = .ok (.iload 5, 2) := by decide +kernel
theorem dX5_passDown_59 : decode cX5_passDown 59 = .ok (.i2l, 1) := by decide +kernel
theorem dX5_passDown_60 : decode cX5_passDown 60 = .ok (.ldiv, 1) := by decide +kernel
theorem dX5_passDown_61 : decode cX5_passDown 61 = .ok (.lstore 6, 2) := by decide +kernel
theorem dX5_passDown_63 : decode cX5_passDown 63 = .ok (.iconst 0, 1) := by decide +kernel
theorem dX5_passDown_64 : decode cX5_passDown 64 = .ok (.istore 8, 2) := by decide +kernel
theorem dX5_passDown_66 : decode cX5_passDown 66 = .ok (.iload 8, 2) := by decide +kernel
theorem dX5_passDown_68 : decode cX5_passDown 68 = .ok (.iload_n 3, 1) := by decide +kernel
theorem dX5_passDown_69 : decode cX5_passDown 69 = .ok (.if_icmp .ge 38, 3) := by decide +kernel
theorem dX5_passDown_72 : decode cX5_passDown 72 = .ok (.aload_n 0, 1) := by decide +kernel
theorem dX5_passDown_73 : decode cX5_passDown 73 = .ok (.getfield 37, 3) := by decide +kernel
theorem dX5_passDown_76 : decode cX5_passDown 76 = .ok (.aload_n 0, 1) := by decide +kernel
theorem dX5_passDown_77 : decode cX5_passDown 77 = .ok (.getfield 31, 3) := by decide +kernel
theorem dX5_passDown_80 : decode cX5_passDown 80 = .ok (.iload_n 2, 1) := by decide +kernel
theorem dX5_passDown_81 : decode cX5_passDown 81 = .ok (.iconst 1, 1) := by decide +kernel
theorem dX5_passDown_82 : decode cX5_passDown 82 = .ok (.isub, 1) := by decide +kernel
theorem dX5_passDown_83 : decode cX5_passDown 83 = .ok (.iload 4, 2) := by decide +kernel
theorem dX5_passDown_85 : decode cX5_passDown 85 = .ok (.iload 8, 2) := by decide +kernel
theorem dX5_passDown_87 : decode cX5_passDown 87 = .ok (.iadd, 1) := by decide +kernel
theorem dX5_passDown_88 : decode cX5_passDown 88 = .ok (.invokestatic 109, 3) := by decide +kernel
theorem dX5_passDown_91 : decode cX5_passDown 91 = .ok (.invokestatic 71, 3) := by decide +kernel
theorem dX5_passDown_94 : decode cX5_passDown 94 = .ok (.iconst 1, 1) := by decide +kernel
theorem dX5_passDown_95 : decode cX5_passDown 95 = .ok (.isub, 1) := by decide +kernel
theorem dX5_passDown_96 : decode cX5_passDown 96 = .ok (.lload 6, 2) := by decide +kernel
theorem dX5_passDown_98 : decode cX5_passDown 98 = .ok (.invokestatic 130, 3) := by decide +kernel
theorem dX5_passDown_101 : decode cX5_passDown 101 = .ok (.iinc 8 1, 3) := by decide +kernel
theorem dX5_passDown_104 : decode cX5_passDown 104 = .ok (.goto (-38), 3) := by decide +kernel
theorem dX5_passDown_107 : decode cX5_passDown 107 = .ok (.return_, 1) := by decide +kernel
set_option maxRecDepth 20000 in
theorem ggX5_isTooHeavyOn_X6_at_ : GoodIn wsX5_isTooHeavyOn wsX6_at_ := goodIn_r _ [6] (by decide +kernel) (by decide +kernel)
set_option maxRecDepth 20000 in
theorem gX5_isTooHeavyOn_X6_at__n127 : GoodIn wsX5_isTooHeavyOn (wsX6_at_) := ggX5_isTooHeavyOn_X6_at_
set_option maxRecDepth 20000 in
theorem ggX5_isTooHeavyOn_X6_at : GoodIn wsX5_isTooHeavyOn wsX6_at := goodIn_r _ [8] (by decide +kernel) (by decide +kernel)
set_option maxRecDepth 20000 in
theorem gX5_isTooHeavyOn_X6_at_n71 : GoodIn wsX5_isTooHeavyOn (wsX6_at) := ggX5_isTooHeavyOn_X6_at
theorem dX5_isTooHeavyOn_0 : decode cX5_isTooHeavyOn 0 = .ok (.aload_n 0, 1) := by decide +kernel
theorem dX5_isTooHeavyOn_1 : decode cX5_isTooHeavyOn 1 = .ok (.getfield 37, 3) := by decide +kernel
theorem dX5_isTooHeavyOn_4 : decode cX5_isTooHeavyOn 4 = .ok (.iload_n 1, 1) := by decide +kernel
theorem dX5_isTooHeavyOn_5 : decode cX5_isTooHeavyOn 5 = .ok (.invokestatic 127, 3) := by decide +kernel
theorem dX5_isTooHeavyOn_8 : decode cX5_isTooHeavyOn 8 = .ok (.aload_n 0, 1) := by decide +kernel
theorem dX5_isTooHeavyOn_9 : decode cX5_isTooHeavyOn 9 = .ok (.getfield 22, 3) := by decide +kernel
theorem dX5_isTooHeavyOn_12 : decode cX5_isTooHeavyOn 12 = .ok (.iload_n 1, 1) := by decide +kernel
theorem dX5_isTooHeavyOn_13 : decode cX5_isTooHeavyOn 13 = .ok (.invokestatic 71, 3) := by decide +kernel
theorem dX5_isTooHeavyOn_16 : decode cX5_isTooHeavyOn 16 = .ok (.i2l, 1) := by decide +kernel
theorem dX5_isTooHeavyOn_17 : decode cX5_isTooHeavyOn 17 = .ok (.ldc2_w 125, 3) := by decide +kernel
theorem dX5_isTooHeavyOn_20 : decode cX5_isTooHeavyOn 20 = .ok (.lmul, 1) := by decide +kernel
theorem dX5_isTooHeavyOn_21 : decode cX5_isTooHeavyOn 21 = .ok (.lcmp, 1) := by decide +kernel
theorem dX5_isTooHeavyOn_22 : decode cX5_isTooHeavyOn 22 = .ok (.ifCond .le 7, 3) := by decide +kernel
theorem dX5_isTooHeavyOn_25 : decode cX5_isTooHeavyOn 25 = .ok (.iconst 1, 1) := by decide +kernel
theorem dX5_isTooHeavyOn_26 : decode cX5_isTooHeavyOn 26 = .ok (.goto 4, 3) := by decide +kernel
theorem dX5_isTooHeavyOn_29 : decode cX5_isTooHeavyOn 29 = .ok (.iconst 0, 1) := by decide +kernel
theorem dX5_isTooHeavyOn_30 : decode cX5_isTooHeavyOn 30 = .ok (.ireturn, 1) := by decide +kernel
set_option maxRecDepth 20000 in
theorem ggX5_isAnyTooHeavy_X5_isLaid : GoodIn wsX5_isAnyTooHeavy wsX5_isLaid := goodIn_r _ [5, 6, 7, 8, 9, 21, 22, 23, 24, 25, 26, 27, 28, 29, 30, 31] (by decide +kernel) (by decide +kernel)
set_option maxRecDepth 20000 in
theorem gX5_isAnyTooHeavy_X5_isLaid : GoodIn wsX5_isAnyTooHeavy (wsV RX5 67 RX5 yX5_isLaid wsX5_isLaid) := goodIn_app (goodIn_of _ (by decide +kernel)) ggX5_isAnyTooHeavy_X5_isLaid
set_option maxRecDepth 20000 in
theorem ggX5_isAnyTooHeavy_X5_isTooHeavyOn : GoodIn wsX5_isAnyTooHeavy wsX5_isTooHeavyOn := goodIn_r _ [13, 14, 15, 16, 17, 8, 18, 19, 20, 21, 22, 23, 24, 25, 26, 27, 28, 29, 30, 31] (by decide +kernel) (by decide +kernel)
set_option maxRecDepth 20000 in
theorem gX5_isAnyTooHeavy_X5_isTooHeavyOn : GoodIn wsX5_isAnyTooHeavy (wsV RX5 134 RX5 yX5_isTooHeavyOn wsX5_isTooHeavyOn) := goodIn_app (goodIn_of _ (by decide +kernel)) ggX5_isAnyTooHeavy_X5_isTooHeavyOn
theorem dX5_isAnyTooHeavy_0 : decode cX5_isAnyTooHeavy 0 = .ok (.iconst 0, 1) := by decide +kernel
theorem dX5_isAnyTooHeavy_1 : decode cX5_isAnyTooHeavy 1 = .ok (.istore_n 1, 1) := by decide +kernel
theorem dX5_isAnyTooHeavy_2 : decode cX5_isAnyTooHeavy 2 = .ok (.iload_n 1, 1) := by decide +kernel
theorem dX5_isAnyTooHeavy_3 : decode cX5_isAnyTooHeavy 3 = .ok (.bipush 10, 2) := by decide +kernel
theorem dX5_isAnyTooHeavy_5 : decode cX5_isAnyTooHeavy 5 = .ok (.if_icmp .ge 27, 3) := by decide +kernel
theorem dX5_isAnyTooHeavy_8 : decode cX5_isAnyTooHeavy 8 = .ok (.aload_n 0, 1) := by decide +kernel
theorem dX5_isAnyTooHeavy_9 : decode cX5_isAnyTooHeavy 9 = .ok (.iload_n 1, 1) := by decide +kernel
theorem dX5_isAnyTooHeavy_10 : decode cX5_isAnyTooHeavy 10 = .ok (.invokevirtual 67, 3) := by decide +kernel
theorem dX5_isAnyTooHeavy_13 : decode cX5_isAnyTooHeavy 13 = .ok (.ifCond .eq 13, 3) := by decide +kernel
theorem dX5_isAnyTooHeavy_16 : decode cX5_isAnyTooHeavy 16 = .ok (.aload_n 0, 1) := by decide +kernel
theorem dX5_isAnyTooHeavy_17 : decode cX5_isAnyTooHeavy 17 = .ok (.iload_n 1, 1) := by decide +kernel
theorem dX5_isAnyTooHeavy_18 : decode cX5_isAnyTooHeavy 18 = .ok (.invokevirtual 134, 3) := by decide +kernel
theorem dX5_isAnyTooHeavy_21 : decode cX5_isAnyTooHeavy 21 = .ok (.ifCond .eq 5, 3) := by decide +kernel
theorem dX5_isAnyTooHeavy_24 : decode cX5_isAnyTooHeavy 24 = .ok (.iconst 1, 1) := by decide +kernel
theorem dX5_isAnyTooHeavy_25 : decode cX5_isAnyTooHeavy 25 = .ok (.ireturn, 1) := by decide +kernel
theorem dX5_isAnyTooHeavy_26 : decode cX5_isAnyTooHeavy 26 = .ok (.iinc 1 1, 3) := by decide +kernel
theorem dX5_isAnyTooHeavy_29 : decode cX5_isAnyTooHeavy 29 = .ok (.goto (-27), 3) := by decide +kernel
theorem dX5_isAnyTooHeavy_32 : decode cX5_isAnyTooHeavy 32 = .ok (.iconst 0, 1) := by decide +kernel
theorem dX5_isAnyTooHeavy_33 : decode cX5_isAnyTooHeavy 33 = .ok (.ireturn, 1) := by decide +kernel
set_option maxRecDepth 20000 in
theorem ggX5_mostStrained_X5_isLaid : GoodIn wsX5_mostStrained wsX5_isLaid := goodIn_r _ [6, 7, 8, 9, 10, 24, 25, 26, 27, 28, 29, 30, 31, 32, 33, 34] (by decide +kernel) (by decide +kernel)
set_option maxRecDepth 20000 in
theorem gX5_mostStrained_X5_isLaid : GoodIn wsX5_mostStrained (wsV RX5 67 RX5 yX5_isLaid wsX5_isLaid) := goodIn_app (goodIn_of _ (by decide +kernel)) ggX5_mostStrained_X5_isLaid
set_option maxRecDepth 20000 in
theorem ggX5_mostStrained_X6_at : GoodIn wsX5_mostStrained wsX6_at := goodIn_r _ [12] (by decide +kernel) (by decide +kernel)
set_option maxRecDepth 20000 in
theorem gX5_mostStrained_X6_at_n71 : GoodIn wsX5_mostStrained (wsX6_at) := ggX5_mostStrained_X6_at
set_option maxRecDepth 20000 in
theorem ggX5_mostStrained_X5_strainUpper : GoodIn wsX5_mostStrained wsX5_strainUpper := goodIn_r _ [16, 17, 18, 9, 19, 24, 25, 26, 27, 28, 29, 30, 31, 32, 33, 34] (by decide +kernel) (by decide +kernel)
set_option maxRecDepth 20000 in
theorem gX5_mostStrained_X5_strainUpper : GoodIn wsX5_mostStrained (wsV RX5 137 RX5 yX5_strainUpper wsX5_strainUpper) := goodIn_app (goodIn_of _ (by decide +kernel)) ggX5_mostStrained_X5_strainUpper
set_option maxRecDepth 20000 in
theorem ggX5_mostStrained_X5_strainLower : GoodIn wsX5_mostStrained wsX5_strainLower := goodIn_r _ [23, 1, 11, 9, 12, 24, 25, 26, 27, 28, 29, 30, 31, 32, 33, 34] (by decide +kernel) (by decide +kernel)
set_option maxRecDepth 20000 in
theorem gX5_mostStrained_X5_strainLower : GoodIn wsX5_mostStrained (wsV RX5 141 RX5 yX5_strainLower wsX5_strainLower) := goodIn_app (goodIn_of _ (by decide +kernel)) ggX5_mostStrained_X5_strainLower
theorem dX5_mostStrained_0 : decode cX5_mostStrained 0 = .ok (.bipush (-6), 2) := by decide +kernel
theorem dX5_mostStrained_2 : decode cX5_mostStrained 2 = .ok (.istore_n 1, 1) := by decide +kernel
theorem dX5_mostStrained_3 : decode cX5_mostStrained 3 = .ok (.iconst 0, 1) := by decide +kernel
theorem dX5_mostStrained_4 : decode cX5_mostStrained 4 = .ok (.istore_n 2, 1) := by decide +kernel
theorem dX5_mostStrained_5 : decode cX5_mostStrained 5 = .ok (.iload_n 2, 1) := by decide +kernel
theorem dX5_mostStrained_6 : decode cX5_mostStrained 6 = .ok (.bipush 10, 2) := by decide +kernel
theorem dX5_mostStrained_8 : decode cX5_mostStrained 8 = .ok (.if_icmp .ge 62, 3) := by decide +kernel
theorem dX5_mostStrained_11 : decode cX5_mostStrained 11 = .ok (.aload_n 0, 1) := by decide +kernel
theorem dX5_mostStrained_12 : decode cX5_mostStrained 12 = .ok (.iload_n 2, 1) := by decide +kernel
theorem dX5_mostStrained_13 : decode cX5_mostStrained 13 = .ok (.invokevirtual 67, 3) := by decide +kernel
theorem dX5_mostStrained_16 : decode cX5_mostStrained 16 = .ok (.ifCond .eq 48, 3) := by decide +kernel
theorem dX5_mostStrained_19 : decode cX5_mostStrained 19 = .ok (.aload_n 0, 1) := by decide +kernel
theorem dX5_mostStrained_20 : decode cX5_mostStrained 20 = .ok (.getfield 22, 3) := by decide +kernel
theorem dX5_mostStrained_23 : decode cX5_mostStrained 23 = .ok (.iload_n 2, 1) := by decide +kernel
theorem dX5_mostStrained_24 : decode cX5_mostStrained 24 = .ok (.invokestatic 71, 3) := by decide +kernel
theorem dX5_mostStrained_27 : decode cX5_mostStrained 27 = .ok (.ifCond .le 37, 3) := by decide +kernel
theorem dX5_mostStrained_30 : decode cX5_mostStrained 30 = .ok (.iload_n 1, 1) := by decide +kernel
theorem dX5_mostStrained_31 : decode cX5_mostStrained 31 = .ok (.bipush (-6), 2) := by decide +kernel
theorem dX5_mostStrained_33 : decode cX5_mostStrained 33 = .ok (.if_icmp .eq 29, 3) := by decide +kernel
theorem dX5_mostStrained_36 : decode cX5_mostStrained 36 = .ok (.aload_n 0, 1) := by decide +kernel
theorem dX5_mostStrained_37 : decode cX5_mostStrained 37 = .ok (.iload_n 2, 1) := by decide +kernel
theorem dX5_mostStrained_38 : decode cX5_mostStrained 38 = .ok (.invokevirtual 137, 3) := by decide +kernel
theorem dX5_mostStrained_41 : decode cX5_mostStrained 41 = .ok (.aload_n 0, 1) := by decide +kernel
theorem dX5_mostStrained_42 : decode cX5_mostStrained 42 = .ok (.iload_n 1, 1) := by decide +kernel
theorem dX5_mostStrained_43 : decode cX5_mostStrained 43 = .ok (.invokevirtual 141, 3) := by decide +kernel
theorem dX5_mostStrained_46 : decode cX5_mostStrained 46 = .ok (.lmul, 1) := by decide +kernel
theorem dX5_mostStrained_47 : decode cX5_mostStrained 47 = .ok (.aload_n 0, 1) := by decide +kernel
theorem dX5_mostStrained_48 : decode cX5_mostStrained 48 = .ok (.iload_n 1, 1) := by decide +kernel
theorem dX5_mostStrained_49 : decode cX5_mostStrained 49 = .ok (.invokevirtual 137, 3) := by decide +kernel
theorem dX5_mostStrained_52 : decode cX5_mostStrained 52 = .ok (.aload_n 0, 1) := by decide +kernel
theorem dX5_mostStrained_53 : decode cX5_mostStrained 53 = .ok (.iload_n 2, 1) := by decide +kernel
theorem dX5_mostStrained_54 : decode cX5_mostStrained 54 = .ok (.invokevirtual 141, 3) := by decide +kernel
theorem dX5_mostStrained_57 : decode cX5_mostStrained 57 = .ok (.lmul, 1) := by decide +kernel
theorem dX5_mostStrained_58 : decode cX5_mostStrained 58 = .ok (.lcmp, 1) := by decide +kernel
theorem dX5_mostStrained_59 : decode cX5_mostStrained 59 = .ok (.ifCond .le 5, 3) := by decide +kernel
theorem dX5_mostStrained_62 : decode cX5_mostStrained 62 = .ok (.iload_n 2, 1) := by decide +kernel
theorem dX5_mostStrained_63 : decode cX5_mostStrained 63 = .ok (.istore_n 1, 1) := by decide +kernel
theorem dX5_mostStrained_64 : decode cX5_mostStrained 64 = .ok (.iinc 2 1, 3) := by decide +kernel
theorem dX5_mostStrained_67 : decode cX5_mostStrained 67 = .ok (.goto (-62), 3) := by decide +kernel
theorem dX5_mostStrained_70 : decode cX5_mostStrained 70 = .ok (.iload_n 1, 1) := by decide +kernel
theorem dX5_mostStrained_71 : decode cX5_mostStrained 71 = .ok (.ireturn, 1) := by decide +kernel
set_option maxRecDepth 20000 in
theorem ggX5_strainUpper_X6_at_ : GoodIn wsX5_strainUpper wsX6_at_ := goodIn_r _ [4] (by decide +kernel) (by decide +kernel)
set_option maxRecDepth 20000 in
theorem gX5_strainUpper_X6_at__n127 : GoodIn wsX5_strainUpper (wsX6_at_) := ggX5_strainUpper_X6_at_
theorem dX5_strainUpper_0 : decode cX5_strainUpper 0 = .ok (.iload_n 1, 1) := by decide +kernel
theorem dX5_strainUpper_1 : decode cX5_strainUpper 1 = .ok (.bipush (-6), 2) := by decide +kernel
theorem dX5_strainUpper_3 : decode cX5_strainUpper 3 = .ok (.if_icmp .ne 7, 3) := by decide +kernel
theorem dX5_strainUpper_6 : decode cX5_strainUpper 6 = .ok (.lconst 0, 1) := by decide +kernel
theorem dX5_strainUpper_7 : decode cX5_strainUpper 7 = .ok (.goto 11, 3) := by decide +kernel
theorem dX5_strainUpper_10 : decode cX5_strainUpper 10 = .ok (.aload_n 0, 1) := by decide +kernel
theorem dX5_strainUpper_11 : decode cX5_strainUpper 11 = .ok (.getfield 37, 3) := by decide +kernel
theorem dX5_strainUpper_14 : decode cX5_strainUpper 14 = .ok (.iload_n 1, 1) := by decide +kernel
theorem dX5_strainUpper_15 : decode cX5_strainUpper 15 = .ok (.invokestatic 127, 3) := by decide +kernel
theorem dX5_strainUpper_18 : decode cX5_strainUpper 18 = .ok (.lreturn, 1) := by decide +kernel
set_option maxRecDepth 20000 in
theorem ggX5_strainLower_X6_at : GoodIn wsX5_strainLower wsX6_at := goodIn_r _ [4] (by decide +kernel) (by decide +kernel)
set_option maxRecDepth 20000 in
theorem gX5_strainLower_X6_at_n71 : GoodIn wsX5_strainLower (wsX6_at) := ggX5_strainLower_X6_at
theorem dX5_strainLower_0 : decode cX5_strainLower 0 = .ok (.iload_n 1, 1) := by decide +kernel
theorem dX5_strainLower_1 : decode cX5_strainLower 1 = .ok (.bipush (-6), 2) := by decide +kernel
theorem dX5_strainLower_3 : decode cX5_strainLower 3 = .ok (.if_icmp .ne 7, 3) := by decide +kernel
theorem dX5_strainLower_6 : decode cX5_strainLower 6 = .ok (.lconst 1, 1) := by decide +kernel
theorem dX5_strainLower_7 : decode cX5_strainLower 7 = .ok (.goto 12, 3) := by decide +kernel
theorem dX5_strainLower_10 : decode cX5_strainLower 10 = .ok (.aload_n 0, 1) := by decide +kernel
theorem dX5_strainLower_11 : decode cX5_strainLower 11 = .ok (.getfield 22, 3) := by decide +kernel
theorem dX5_strainLower_14 : decode cX5_strainLower 14 = .ok (.iload_n 1, 1) := by decide +kernel
theorem dX5_strainLower_15 : decode cX5_strainLower 15 = .ok (.invokestatic 71, 3) := by decide +kernel
theorem dX5_strainLower_18 : decode cX5_strainLower 18 = .ok (.i2l, 1) := by decide +kernel
theorem dX5_strainLower_19 : decode cX5_strainLower 19 = .ok (.lreturn, 1) := by decide +kernel
set_option maxRecDepth 20000 in
theorem ggX5_collapse_X5_fallingNow : GoodIn wsX5_collapse wsX5_fallingNow := goodIn_r _ [5, 6, 7, 8, 9, 10, 11, 4, 12, 13, 14, 15, 16, 17, 18, 19, 20, 21, 22, 23, 24, 25, 26, 27, 28, 29, 30, 31, 32, 33, 34, 35, 36, 37, 38, 39, 40, 41, 42, 43, 44, 45, 46, 47, 48, 49, 50, 51, 52, 53, 54, 55, 56, 57, 72, 73, 74, 75, 76, 77, 78, 79, 80, 81, 82] (by decide +kernel) (by decide +kernel)
set_option maxRecDepth 20000 in
theorem gX5_collapse_X5_fallingNow : GoodIn wsX5_collapse (wsV RX5 144 RX5 yX5_fallingNow wsX5_fallingNow) := goodIn_app (goodIn_of _ (by decide +kernel)) ggX5_collapse_X5_fallingNow
set_option maxRecDepth 20000 in
theorem ggX5_collapse_X5_liftAll : GoodIn wsX5_collapse wsX5_liftAll := goodIn_r _ [61, 33, 15, 34, 62, 63, 64, 4, 65, 32, 7, 8, 6, 41, 21, 28, 29, 30, 31, 26, 27, 48, 49, 50, 66, 67, 68, 69, 70, 71, 72, 73, 74, 75, 76, 77, 78, 79, 80, 81, 82] (by decide +kernel) (by decide +kernel)
set_option maxRecDepth 20000 in
theorem gX5_collapse_X5_liftAll : GoodIn wsX5_collapse (wsV RX5 147 RX5 yX5_liftAll wsX5_liftAll) := goodIn_app (goodIn_of _ (by decide +kernel)) ggX5_collapse_X5_liftAll
theorem dX5_collapse_0 : decode cX5_collapse 0 = .ok (.iconst 0, 1) := by decide +kernel
theorem dX5_collapse_1 : decode cX5_collapse 1 = .ok (.istore_n 1, 1) := by decide +kernel
theorem dX5_collapse_2 : decode cX5_collapse 2 = .ok (.iconst 0, 1) := by decide +kernel
theorem dX5_collapse_3 : decode cX5_collapse 3 = .ok (.istore_n 2, 1) := by decide +kernel
theorem dX5_collapse_4 : decode cX5_collapse 4 = .ok (.iload_n 2, 1) := by decide +kernel
theorem dX5_collapse_5 : decode cX5_collapse 5 = .ok (.bipush 10, 2) := by decide +kernel
theorem dX5_collapse_7 : decode cX5_collapse 7 = .ok (.if_icmp .ge 29, 3) := by decide +kernel
theorem dX5_collapse_10 : decode cX5_collapse 10 = .ok (.aload_n 0, 1) := by decide +kernel
theorem dX5_collapse_11 : decode cX5_collapse 11 = .ok (.invokevirtual 144, 3) := by decide +kernel
theorem dX5_collapse_14 : decode cX5_collapse 14 = .ok (.istore_n 3, 1) := by decide +kernel
theorem dX5_collapse_15 : decode cX5_collapse 15 = .ok (.iload_n 3, 1) := by decide +kernel
theorem dX5_collapse_16 : decode cX5_collapse 16 = .ok (.ifCond .ne 5, 3) := by decide +kernel
theorem dX5_collapse_19 : decode cX5_collapse 19 = .ok (.iload_n 1, 1) := by decide +kernel
theorem dX5_collapse_20 : decode cX5_collapse 20 = .ok (.ireturn, 1) := by decide +kernel
theorem dX5_collapse_21 : decode cX5_collapse 21 = .ok (.aload_n 0, 1) := by decide +kernel
theorem dX5_collapse_22 : decode cX5_collapse 22 = .ok (.iload_n 3, 1) := by decide +kernel
theorem dX5_collapse_23 : decode cX5_collapse 23 = .ok (.invokevirtual 147, 3) := by decide +kernel
theorem dX5_collapse_26 : decode cX5_collapse 26 = .ok (.iload_n 1, 1) := by decide +kernel
theorem dX5_collapse_27 : decode cX5_collapse 27 = .ok (.iload_n 3, 1) := by decide +kernel
theorem dX5_collapse_28 : decode cX5_collapse 28 = .ok (.ior, 1) := by decide +kernel
theorem dX5_collapse_29 : decode cX5_collapse 29 = .ok (.istore_n 1, 1) := by decide +kernel
theorem dX5_collapse_30 : decode cX5_collapse 30 = .ok (.iinc 2 1, 3) := by decide +kernel
theorem dX5_collapse_33 : decode cX5_collapse 33 = .ok (.goto (-29), 3) := by decide +kernel
theorem dX5_collapse_36 : decode cX5_collapse 36 = .ok (.iload_n 1, 1) := by decide +kernel
theorem dX5_collapse_37 : decode cX5_collapse 37 = .ok (.ireturn, 1) := by decide +kernel
set_option maxRecDepth 20000 in
theorem ggX5_fallingNow_X5_weigh : GoodIn wsX5_fallingNow wsX5_weigh := goodIn_r _ [8, 9, 2, 10, 11, 12, 13, 14, 15, 7, 16, 17, 18, 19, 20, 21, 22, 23, 24, 25, 26, 27, 28, 29, 30, 31, 32, 33, 34, 1, 3, 35, 36, 37, 38, 39, 40, 41, 42, 43, 44, 45, 46, 47, 48, 54, 55, 56, 57, 58, 59, 60, 61, 62, 63, 64] (by decide +kernel) (by decide +kernel)
set_option maxRecDepth 20000 in
theorem gX5_fallingNow_X5_weigh : GoodIn wsX5_fallingNow (wsV RX5 95 RX5 yX5_weigh wsX5_weigh) := goodIn_app (goodIn_of _ (by decide +kernel)) ggX5_fallingNow_X5_weigh
set_option maxRecDepth 20000 in
theorem ggX5_fallingNow_X6_at : GoodIn wsX5_fallingNow wsX6_at := goodIn_r _ [23] (by decide +kernel) (by decide +kernel)
set_option maxRecDepth 20000 in
theorem gX5_fallingNow_X6_at_n71 : GoodIn wsX5_fallingNow (wsX6_at) := ggX5_fallingNow_X6_at
set_option maxRecDepth 20000 in
theorem ggX5_fallingNow_X5_isLaid : GoodIn wsX5_fallingNow wsX5_isLaid := goodIn_r _ [27, 28, 29, 11, 30, 54, 55, 56, 57, 58, 59, 60, 61, 62, 63, 64] (by decide +kernel) (by decide +kernel)
set_option maxRecDepth 20000 in
theorem gX5_fallingNow_X5_isLaid : GoodIn wsX5_fallingNow (wsV RX5 67 RX5 yX5_isLaid wsX5_isLaid) := goodIn_app (goodIn_of _ (by decide +kernel)) ggX5_fallingNow_X5_isLaid
set_option maxRecDepth 20000 in
theorem ggX5_fallingNow_X5_isTooHeavyOn : GoodIn wsX5_fallingNow wsX5_isTooHeavyOn := goodIn_r _ [52, 9, 53, 36, 42, 11, 43, 22, 23, 54, 55, 56, 57, 58, 59, 60, 61, 62, 63, 64] (by decide +kernel) (by decide +kernel)
set_option maxRecDepth 20000 in
theorem gX5_fallingNow_X5_isTooHeavyOn : GoodIn wsX5_fallingNow (wsV RX5 134 RX5 yX5_isTooHeavyOn wsX5_isTooHeavyOn) := goodIn_app (goodIn_of _ (by decide +kernel)) ggX5_fallingNow_X5_isTooHeavyOn
set_option maxRecDepth 20000 in
theorem ggX5_fallingNow_X5_heldCells : GoodIn wsX5_fallingNow wsX5_heldCells := goodIn_r _ [41, 37, 54, 55, 56, 57, 58, 59, 60, 61, 62, 63, 64] (by decide +kernel) (by decide +kernel)
set_option maxRecDepth 20000 in
theorem gX5_fallingNow_X5_heldCells : GoodIn wsX5_fallingNow (wsV RX5 87 RX5 yX5_heldCells wsX5_heldCells) := goodIn_app (goodIn_of _ (by decide +kernel)) ggX5_fallingNow_X5_heldCells
theorem dX5_fallingNow_0 : decode cX5_fallingNow 0 = .ok (.aload_n 0, 1) := by decide +kernel
theorem dX5_fallingNow_1 : decode cX5_fallingNow 1 = .ok (.invokevirtual 95, 3) := by decide +kernel
theorem dX5_fallingNow_4 : decode cX5_fallingNow 4 = .ok (.iconst 0, 1) := by decide +kernel
theorem dX5_fallingNow_5 : decode cX5_fallingNow 5 = .ok (.istore_n 1, 1) := by decide +kernel
theorem dX5_fallingNow_6 : decode cX5_fallingNow 6 = .ok (.iconst 0, 1) := by decide +kernel
theorem dX5_fallingNow_7 : decode cX5_fallingNow 7 = .ok (.istore_n 2, 1) := by decide +kernel
theorem dX5_fallingNow_8 : decode cX5_fallingNow 8 = .ok (.iload_n 2, 1) := by decide +kernel
theorem dX5_fallingNow_9 : decode cX5_fallingNow 9 = .ok (.bipush 10, 2) := by decide +kernel
theorem dX5_fallingNow_11 : decode cX5_fallingNow 11 = .ok (.if_icmp .ge 67, 3) := by decide +kernel
theorem dX5_fallingNow_14 : decode cX5_fallingNow 14 = .ok (.aload_n 0, 1) := by decide +kernel
theorem dX5_fallingNow_15 : decode cX5_fallingNow 15 = .ok (.getfield 15, 3) := by decide +kernel
theorem dX5_fallingNow_18 : decode cX5_fallingNow 18 = .ok (.iload_n 2, 1) := by decide +kernel
theorem dX5_fallingNow_19 : decode cX5_fallingNow 19 = .ok (.invokestatic 71, 3) := by decide +kernel
theorem dX5_fallingNow_22 : decode cX5_fallingNow 22 = .ok (.istore_n 3, 1) := by decide +kernel
theorem dX5_fallingNow_23 : decode cX5_fallingNow 23 = .ok (.aload_n 0, 1) := by decide +kernel
theorem dX5_fallingNow_24 : decode cX5_fallingNow 24 = .ok (.iload_n 2, 1) := by decide +kernel
theorem dX5_fallingNow_25 : decode cX5_fallingNow 25 = .ok (.invokevirtual 67, 3) := by decide +kernel
theorem dX5_fallingNow_28 : decode cX5_fallingNow 28 = .ok (.ifCond .eq 44, 3) := by decide +kernel
theorem dX5_fallingNow_31 : decode cX5_fallingNow 31 = .ok (.aload_n 0, 1) := by decide +kernel
theorem dX5_fallingNow_32 : decode cX5_fallingNow 32 = .ok (.iload_n 2, 1) := by decide +kernel
theorem dX5_fallingNow_33 : decode cX5_fallingNow 33 = .ok (.invokevirtual 134, 3) := by decide +kernel
theorem dX5_fallingNow_36 : decode cX5_fallingNow 36 = .ok (.ifCond .ne 30, 3) := by decide +kernel
theorem dX5_fallingNow_39 : decode cX5_fallingNow 39 = .ok (.iconst 2, 1) := by decide +kernel
theorem dX5_fallingNow_40 : decode cX5_fallingNow 40 = .ok (.aload_n 0, 1) := by decide +kernel
theorem dX5_fallingNow_41 : decode cX5_fallingNow 41 = .ok (.aload_n 0, 1) := by decide +kernel
theorem dX5_fallingNow_42 : decode cX5_fallingNow 42 = .ok (.getfield 25, 3) := by decide +kernel
theorem dX5_fallingNow_45 : decode cX5_fallingNow 45 = .ok (.iload_n 2, 1) := by decide +kernel
theorem dX5_fallingNow_46 : decode cX5_fallingNow 46 = .ok (.invokestatic 71, 3) := by decide +kernel
theorem dX5_fallingNow_49 : decode cX5_fallingNow 49 = .ok (.aload_n 0, 1) := by decide +kernel
theorem dX5_fallingNow_50 : decode cX5_fallingNow 50 = .ok (.getfield 28, 3) := by decide +kernel
theorem dX5_fallingNow_53 : decode cX5_fallingNow 53 = .ok (.iload_n 2, 1) := by decide +kernel
theorem dX5_fallingNow_54 : decode cX5_fallingNow 54 = .ok (.invokestatic 71, 3) := by decide +kernel
theorem dX5_fallingNow_57 : decode cX5_fallingNow 57 = .ok (.iload_n 3, 1) := by decide +kernel
theorem dX5_fallingNow_58 : decode cX5_fallingNow 58 = .ok (.invokevirtual 87, 3) := by decide +kernel
theorem dX5_fallingNow_61 : decode cX5_fallingNow 61 = .ok (.imul, 1) := by decide +kernel
theorem dX5_fallingNow_62 : decode cX5_fallingNow 62 = .ok (.iload_n 3, 1) := by decide +kernel
theorem dX5_fallingNow_63 : decode cX5_fallingNow 63 = .ok (.if_icmp .ge 9, 3) := by decide +kernel
theorem dX5_fallingNow_66 : decode cX5_fallingNow 66 = .ok (.iload_n 1, 1) := by decide +kernel
theorem dX5_fallingNow_67 : decode cX5_fallingNow 67 = .ok (.iconst 1, 1) := by decide +kernel
theorem dX5_fallingNow_68 : decode cX5_fallingNow 68 = .ok (.iload_n 2, 1) := by decide +kernel
theorem dX5_fallingNow_69 : decode cX5_fallingNow 69 = .ok (.ishl, 1) := by decide +kernel
theorem dX5_fallingNow_70 : decode cX5_fallingNow 70 = .ok (.ior, 1) := by decide +kernel
theorem dX5_fallingNow_71 : decode cX5_fallingNow 71 = .ok (.istore_n 1, 1) := by decide +kernel
theorem dX5_fallingNow_72 : decode cX5_fallingNow 72 = .ok (.iinc 2 1, 3) := by decide +kernel
theorem dX5_fallingNow_75 : decode cX5_fallingNow 75 = .ok (.goto (-67), 3) := by decide +kernel
theorem dX5_fallingNow_78 : decode cX5_fallingNow 78 = .ok (.iload_n 1, 1) := by decide +kernel
theorem dX5_fallingNow_79 : decode cX5_fallingNow 79 = .ok (.ireturn, 1) := by decide +kernel
set_option maxRecDepth 20000 in
theorem ggX5_areSideBySide_X5_isLaid : GoodIn wsX5_areSideBySide wsX5_isLaid := goodIn_r _ [12, 13, 14, 15, 16, 19, 20, 21, 22, 23, 24, 25, 26, 27, 28, 29] (by decide +kernel) (by decide +kernel)
set_option maxRecDepth 20000 in
theorem gX5_areSideBySide_X5_isLaid : GoodIn wsX5_areSideBySide (wsV RX5 67 RX5 yX5_isLaid wsX5_isLaid) := goodIn_app (goodIn_of _ (by decide +kernel)) ggX5_areSideBySide_X5_isLaid
set_option maxRecDepth 20000 in
theorem ggX5_areSideBySide_X6_at : GoodIn wsX5_areSideBySide wsX6_at := goodIn_r _ [18] (by decide +kernel) (by decide +kernel)
set_option maxRecDepth 20000 in
theorem gX5_areSideBySide_X6_at_n71 : GoodIn wsX5_areSideBySide (wsX6_at) := ggX5_areSideBySide_X6_at
theorem dX5_areSideBySide_0 : decode cX5_areSideBySide 0 = .ok (.aload_n 0, 1) := by decide +kernel
theorem dX5_areSideBySide_1 : decode cX5_areSideBySide 1 = .ok (.iload_n 1, 1) := by decide +kernel
theorem dX5_areSideBySide_2 : decode cX5_areSideBySide 2 = .ok (.invokevirtual 67, 3) := by decide +kernel
theorem dX5_areSideBySide_5 : decode cX5_areSideBySide 5 = .ok (.ifCond .eq 11, 3) := by decide +kernel
theorem dX5_areSideBySide_8 : decode cX5_areSideBySide 8 = .ok (.aload_n 0, 1) := by decide +kernel
theorem dX5_areSideBySide_9 : decode cX5_areSideBySide 9 = .ok (.iload_n 2, 1) := by decide +kernel
theorem dX5_areSideBySide_10 : decode cX5_areSideBySide 10 = .ok (.invokevirtual 67, 3) := by decide +kernel
theorem dX5_areSideBySide_13 : decode cX5_areSideBySide 13 = .ok (.ifCond .ne 5, 3) := by decide +kernel
theorem dX5_areSideBySide_16 : decode cX5_areSideBySide 16 = .ok (.iconst 0, 1) := by decide +kernel
theorem dX5_areSideBySide_17 : decode cX5_areSideBySide 17 = .ok (.ireturn, 1) := by decide +kernel
theorem dX5_areSideBySide_18 : decode cX5_areSideBySide 18 = .ok (.aload_n 0, 1) := by decide +kernel
theorem dX5_areSideBySide_19 : decode cX5_areSideBySide 19 = .ok (.getfield 28, 3) := by decide +kernel
theorem dX5_areSideBySide_22 : decode cX5_areSideBySide 22 = .ok (.iload_n 1, 1) := by decide +kernel
theorem dX5_areSideBySide_23 : decode cX5_areSideBySide 23 = .ok (.invokestatic 71, 3) := by decide +kernel
theorem dX5_areSideBySide_26 : decode cX5_areSideBySide 26 = .ok (.istore_n 3, 1) := by decide +kernel
theorem dX5_areSideBySide_27 : decode cX5_areSideBySide 27 = .ok (.iload_n 3, 1) := by decide +kernel
theorem dX5_areSideBySide_28 : decode cX5_areSideBySide 28 = .ok (.aload_n 0, 1) := by decide +kernel
theorem dX5_areSideBySide_29 : decode cX5_areSideBySide 29 = .ok (.getfield 15, 3) := by decide +kernel
theorem dX5_areSideBySide_32 : decode cX5_areSideBySide 32 = .ok (.iload_n 1, 1) := by decide +kernel
theorem dX5_areSideBySide_33 : decode cX5_areSideBySide 33 = .ok (.invokestatic 71, 3) := by decide +kernel
theorem dX5_areSideBySide_36 : decode cX5_areSideBySide 36 = .ok (.iadd, 1) := by decide +kernel
theorem dX5_areSideBySide_37 : decode cX5_areSideBySide 37 = .ok (.istore 4, 2) := by decide +kernel
theorem dX5_areSideBySide_39 : decode cX5_areSideBySide 39 = .ok (.aload_n 0, 1) := by decide +kernel
theorem dX5_areSideBySide_40 : decode cX5_areSideBySide 40 = .ok (.getfield 28, 3) := by decide +kernel
theorem dX5_areSideBySide_43 : decode cX5_areSideBySide 43 = .ok (.iload_n 2, 1) := by decide +kernel
theorem dX5_areSideBySide_44 : decode cX5_areSideBySide 44 = .ok (.invokestatic 71, 3) := by decide +kernel
theorem dX5_areSideBySide_47 : decode cX5_areSideBySide 47 = .ok (.istore 5, 2) := by decide +kernel
theorem dX5_areSideBySide_49 : decode cX5_areSideBySide 49 = .ok (.iload 5, 2) := by decide +kernel
theorem dX5_areSideBySide_51 : decode cX5_areSideBySide 51 = .ok (.aload_n 0, 1) := by decide +kernel
theorem dX5_areSideBySide_52 : decode cX5_areSideBySide 52 = .ok (.getfield 15, 3) := by decide +kernel
theorem dX5_areSideBySide_55 : decode cX5_areSideBySide 55 = .ok (.iload_n 2, 1) := by decide +kernel
theorem dX5_areSideBySide_56 : decode cX5_areSideBySide 56 = .ok (.invokestatic 71, 3) := by decide +kernel
theorem dX5_areSideBySide_59 : decode cX5_areSideBySide 59 = .ok (.iadd, 1) := by decide +kernel
theorem dX5_areSideBySide_60 : decode cX5_areSideBySide 60 = .ok (.istore 6, 2) := by decide +kernel
theorem dX5_areSideBySide_62 : decode cX5_areSideBySide 62 = .ok (.aload_n 0, 1) := by decide +kernel
theorem dX5_areSideBySide_63 : decode cX5_areSideBySide 63 = .ok (.getfield 25, 3) := by decide +kernel
theorem dX5_areSideBySide_66 : decode cX5_areSideBySide 66 = .ok (.iload_n 1, 1) := by decide +kernel
theorem dX5_areSideBySide_67 : decode cX5_areSideBySide 67 = .ok (.invokestatic 71, 3) := by decide +kernel
theorem dX5_areSideBySide_70 : decode cX5_areSideBySide 70 = .ok (.aload_n 0, 1) := by decide +kernel
theorem dX5_areSideBySide_71 : decode cX5_areSideBySide 71 = .ok (.getfield 25, 3) := by decide +kernel
theorem dX5_areSideBySide_74 : decode cX5_areSideBySide 74 = .ok (.iload_n 2, 1) := by decide +kernel
theorem dX5_areSideBySide_75 : decode cX5_areSideBySide 75 = .ok (.invokestatic 71, 3) := by decide +kernel
theorem dX5_areSideBySide_78 : decode cX5_areSideBySide 78 = .ok (.isub, 1) := by decide +kernel
theorem dX5_areSideBySide_79 : decode cX5_areSideBySide 79 = .ok (.invokestatic 150, 3) := by decide +kernel
theorem dX5_areSideBySide_82 : decode cX5_areSideBySide 82 = .ok (.istore 7, 2) := by decide +kernel
theorem dX5_areSideBySide_84 : decode cX5_areSideBySide 84 = .ok (.iload 7, 2) := by decide +kernel
theorem dX5_areSideBySide_86 : decode cX5_areSideBySide 86 = .ok (.ifCond .ne 22, 3) := by decide +kernel
theorem dX5_areSideBySide_89 : decode cX5_areSideBySide 89 = .ok (.iload 4, 2) := by decide +kernel
theorem dX5_areSideBySide_91 : decode cX5_areSideBySide 91 = .ok (.iload 5, 2) := by decide +kernel
theorem dX5_areSideBySide_93 : decode cX5_areSideBySide 93 = .ok (.if_icmp .eq 9, 3) := by decide +kernel
theorem dX5_areSideBySide_96 : decode cX5_areSideBySide 96 = .ok (.iload 6, 2) := by decide +kernel
theorem dX5_areSideBySide_98 : decode cX5_areSideBySide 98 = .ok (.iload_n 3, 1) := by decide +kernel
theorem dX5_areSideBySide_99 : decode cX5_areSideBySide 99 = .ok (.if_icmp .ne 7, 3) := by decide +kernel
theorem dX5_areSideBySide_102 : decode cX5_areSideBySide 102 = .ok (.iconst 1, 1) := by decide +kernel
theorem dX5_areSideBySide_103 : decode cX5_areSideBySide 103 = .ok (.goto 4, 3) := by decide +kernel
theorem dX5_areSideBySide_106 : decode cX5_areSideBySide 106 = .ok (.iconst 0, 1) := by decide +kernel
theorem dX5_areSideBySide_107 : decode cX5_areSideBySide 107 = .ok (.ireturn, 1) := by decide +kernel
theorem dX5_areSideBySide_108 : decode cX5_areSideBySide 108 = .ok (.iload 7, 2) := by decide +kernel
theorem dX5_areSideBySide_110 : decode cX5_areSideBySide 110 = .ok (.iconst 1, 1) := by decide +kernel
theorem dX5_areSideBySide_111 : decode cX5_areSideBySide 111 = .ok (.if_icmp .ne 20, 3) := by decide +kernel
theorem dX5_areSideBySide_114 : decode cX5_areSideBySide 114 = .ok (.iload_n 3, 1) := by decide +kernel
theorem dX5_areSideBySide_115 : decode cX5_areSideBySide 115 = .ok (.iload 6, 2) := by decide +kernel
theorem dX5_areSideBySide_117 : decode cX5_areSideBySide 117 = .ok (.if_icmp .ge 14, 3) := by decide +kernel
theorem dX5_areSideBySide_120 : decode cX5_areSideBySide 120 = .ok (.iload 5, 2) := by decide +kernel
theorem dX5_areSideBySide_122 : decode cX5_areSideBySide 122 = .ok (.iload 4, 2) := by decide +kernel
theorem dX5_areSideBySide_124 : decode cX5_areSideBySide 124 = .ok (.if_icmp .ge 7, 3) := by decide +kernel
theorem dX5_areSideBySide_127 : decode cX5_areSideBySide 127 = .ok (.iconst 1, 1) := by decide +kernel
theorem dX5_areSideBySide_128 : decode cX5_areSideBySide 128 = .ok (.goto 4, 3) := by decide +kernel
theorem dX5_areSideBySide_131 : decode cX5_areSideBySide 131 = .ok (.iconst 0, 1) := by decide +kernel
theorem dX5_areSideBySide_132 : decode cX5_areSideBySide 132 = .ok (.ireturn, 1) := by decide +kernel
set_option maxRecDepth 20000 in
theorem ggX5_emptyCells_X6_at : GoodIn wsX5_emptyCells wsX6_at := goodIn_r _ [5] (by decide +kernel) (by decide +kernel)
set_option maxRecDepth 20000 in
theorem gX5_emptyCells_X6_at_n71 : GoodIn wsX5_emptyCells (wsX6_at) := ggX5_emptyCells_X6_at
set_option maxRecDepth 20000 in
theorem ggX5_emptyCells_X5_cellAt : GoodIn wsX5_emptyCells wsX5_cellAt := goodIn_r _ [9] (by decide +kernel) (by decide +kernel)
set_option maxRecDepth 20000 in
theorem gX5_emptyCells_X5_cellAt : GoodIn wsX5_emptyCells (va_wsS RX5 109 yX5_cellAt wsX5_cellAt) := goodIn_app (goodIn_of _ (by decide +kernel)) ggX5_emptyCells_X5_cellAt
theorem dX5_emptyCells_0 : decode cX5_emptyCells 0 = .ok (.iconst 0, 1) := by decide +kernel
theorem dX5_emptyCells_1 : decode cX5_emptyCells 1 = .ok (.istore_n 2, 1) := by decide +kernel
theorem dX5_emptyCells_2 : decode cX5_emptyCells 2 = .ok (.aload_n 0, 1) := by decide +kernel
theorem dX5_emptyCells_3 : decode cX5_emptyCells 3 = .ok (.getfield 34, 3) := by decide +kernel
theorem dX5_emptyCells_6 : decode cX5_emptyCells 6 = .ok (.iload_n 1, 1) := by decide +kernel
theorem dX5_emptyCells_7 : decode cX5_emptyCells 7 = .ok (.invokestatic 71, 3) := by decide +kernel
theorem dX5_emptyCells_10 : decode cX5_emptyCells 10 = .ok (.istore_n 3, 1) := by decide +kernel
theorem dX5_emptyCells_11 : decode cX5_emptyCells 11 = .ok (.iconst 0, 1) := by decide +kernel
theorem dX5_emptyCells_12 : decode cX5_emptyCells 12 = .ok (.istore 4, 2) := by decide +kernel
theorem dX5_emptyCells_14 : decode cX5_emptyCells 14 = .ok (.iload 4, 2) := by decide +kernel
theorem dX5_emptyCells_16 : decode cX5_emptyCells 16 = .ok (.iload_n 3, 1) := by decide +kernel
theorem dX5_emptyCells_17 : decode cX5_emptyCells 17 = .ok (.if_icmp .ge 28, 3) := by decide +kernel
theorem dX5_emptyCells_20 : decode cX5_emptyCells 20 = .ok (.aload_n 0, 1) := by decide +kernel
theorem dX5_emptyCells_21 : decode cX5_emptyCells 21 = .ok (.getfield 31, 3) := by decide +kernel
theorem dX5_emptyCells_24 : decode cX5_emptyCells 24 = .ok (.iload 4, 2) := by decide +kernel
theorem dX5_emptyCells_26 : decode cX5_emptyCells 26 = .ok (.iload_n 1, 1) := by decide +kernel
theorem dX5_emptyCells_27 : decode cX5_emptyCells 27 = .ok (.invokestatic 109, 3) := by decide +kernel
theorem dX5_emptyCells_30 : decode cX5_emptyCells 30 = .ok (.invokestatic 71, 3) := by decide +kernel
theorem dX5_emptyCells_33 : decode cX5_emptyCells 33 = .ok (.ifCond .ne 6, 3) := by decide +kernel
theorem dX5_emptyCells_36 : decode cX5_emptyCells 36 = .ok (.iinc 2 1, 3) := by decide +kernel
theorem dX5_emptyCells_39 : decode cX5_emptyCells 39 = .ok (.iinc 4 1, 3) := by decide +kernel
theorem dX5_emptyCells_42 : decode cX5_emptyCells 42 = .ok (.goto (-28), 3) := by decide +kernel
theorem dX5_emptyCells_45 : decode cX5_emptyCells 45 = .ok (.iload_n 2, 1) := by decide +kernel
theorem dX5_emptyCells_46 : decode cX5_emptyCells 46 = .ok (.ireturn, 1) := by decide +kernel
set_option maxRecDepth 20000 in
theorem ggX6_init_X5_init : GoodIn wsX6_init wsX5_init := goodIn_r _ [31, 32, 2, 3, 33, 34, 35, 36, 37, 38, 39, 40, 41, 42, 43, 70, 71, 72, 73, 74, 75, 76, 77, 78, 79, 80] (by decide +kernel) (by decide +kernel)
set_option maxRecDepth 20000 in
theorem gX6_init_X5_init_n9 : GoodIn wsX6_init (wsX5_init) := ggX6_init_X5_init
set_option maxRecDepth 20000 in
theorem ggX6_init_X4_init : GoodIn wsX6_init wsX4_init := goodIn_r _ [45, 46, 2, 3, 34, 47, 48, 89, 90, 91] (by decide +kernel) (by decide +kernel)
set_option maxRecDepth 20000 in
theorem gX6_init_X4_init_n21 : GoodIn wsX6_init (wsX4_init) := ggX6_init_X4_init
set_option maxRecDepth 20000 in
theorem ggX6_init_X2_init : GoodIn wsX6_init wsX2_init := goodIn_r _ [50, 51, 2, 3, 34, 52, 92, 93] (by decide +kernel) (by decide +kernel)
set_option maxRecDepth 20000 in
theorem gX6_init_X2_init_n28 : GoodIn wsX6_init (wsX2_init) := ggX6_init_X2_init
set_option maxRecDepth 20000 in
theorem ggX6_init_X0_init : GoodIn wsX6_init wsX0_init := goodIn_r _ [54, 55, 2, 3, 56, 5, 6, 57, 58, 10, 11, 59, 30, 31, 32, 33, 34, 35, 36, 37, 38, 39, 40, 41, 42, 43, 44, 45, 46, 47, 48, 70, 71, 72, 73, 74, 75, 76, 77, 78, 79, 80, 94, 95, 96, 89, 90, 91] (by decide +kernel) (by decide +kernel)
set_option maxRecDepth 20000 in
theorem gX6_init_X0_init_n35 : GoodIn wsX6_init (wsX0_init) := ggX6_init_X0_init
set_option maxRecDepth 20000 in
theorem ggX6_init_X3_init : GoodIn wsX6_init wsX3_init := goodIn_r _ [61, 62, 2, 3, 34, 63, 97, 98, 99, 100] (by decide +kernel) (by decide +kernel)
set_option maxRecDepth 20000 in
theorem gX6_init_X3_init_n45 : GoodIn wsX6_init (wsX3_init) := ggX6_init_X3_init
set_option maxRecDepth 20000 in
theorem ggX6_init_X1_init : GoodIn wsX6_init wsX1_init := goodIn_r _ [65, 66, 2, 3, 34, 67, 68, 69, 101, 102, 103, 104] (by decide +kernel) (by decide +kernel)
set_option maxRecDepth 20000 in
theorem gX6_init_X1_init_n52 : GoodIn wsX6_init (wsX1_init) := ggX6_init_X1_init
theorem dX6_init_0 : decode cX6_init 0 = .ok (.aload_n 0, 1) := by decide +kernel
theorem dX6_init_1 : decode cX6_init 1 = .ok (.invokespecial 1, 3) := by decide +kernel
theorem dX6_init_4 : decode cX6_init 4 = .ok (.aload_n 0, 1) := by decide +kernel
theorem dX6_init_5 : decode cX6_init 5 = .ok (.new 7, 3) := by decide +kernel
theorem dX6_init_8 : decode cX6_init 8 = .ok (.dup, 1) := by decide +kernel
theorem dX6_init_9 : decode cX6_init 9 = .ok (.invokespecial 9, 3) := by decide +kernel
theorem dX6_init_12 : decode cX6_init 12 = .ok (.putfield 10, 3) := by decide +kernel
theorem dX6_init_15 : decode cX6_init 15 = .ok (.aload_n 0, 1) := by decide +kernel
theorem dX6_init_16 : decode cX6_init 16 = .ok (.new 7, 3) := by decide +kernel
theorem dX6_init_19 : decode cX6_init 19 = .ok (.dup, 1) := by decide +kernel
theorem dX6_init_20 : decode cX6_init 20 = .ok (.invokespecial 9, 3) := by decide +kernel
theorem dX6_init_23 : decode cX6_init 23 = .ok (.putfield 16, 3) := by decide +kernel
theorem dX6_init_26 : decode cX6_init 26 = .ok (.aload_n 0, 1) := by decide +kernel
theorem dX6_init_27 : decode cX6_init 27 = .ok (.new 19, 3) := by decide +kernel
theorem dX6_init_30 : decode cX6_init 30 = .ok (.dup, 1) := by decide +kernel
theorem dX6_init_31 : decode cX6_init 31 = .ok (.invokespecial 21, 3) := by decide +kernel
theorem dX6_init_34 : decode cX6_init 34 = .ok (.putfield 22, 3) := by decide +kernel
theorem dX6_init_37 : decode cX6_init 37 = .ok (.aload_n 0, 1) := by decide +kernel
theorem dX6_init_38 : decode cX6_init 38 = .ok (.new 26, 3) := by decide +kernel
theorem dX6_init_41 : decode cX6_init 41 = .ok (.dup, 1) := by decide +kernel
theorem dX6_init_42 : decode cX6_init 42 = .ok (.invokespecial 28, 3) := by decide +kernel
theorem dX6_init_45 : decode cX6_init 45 = .ok (.putfield 29, 3) := by decide +kernel
theorem dX6_init_48 : decode cX6_init 48 = .ok (.aload_n 0, 1) := by decide +kernel
theorem dX6_init_49 : decode cX6_init 49 = .ok (.new 33, 3) := by decide +kernel
theorem dX6_init_52 : decode cX6_init 52 = .ok (.dup, 1) := by decide +kernel
theorem dX6_init_53 : decode cX6_init 53 = .ok (.invokespecial 35, 3) := by decide +kernel
theorem dX6_init_56 : decode cX6_init 56 = .ok (.putfield 36, 3) := by decide +kernel
theorem dX6_init_59 : decode cX6_init 59 = .ok (.aload_n 0, 1) := by decide +kernel
theorem dX6_init_60 : decode cX6_init 60 = .ok (.new 33, 3) := by decide +kernel
theorem dX6_init_63 : decode cX6_init 63 = .ok (.dup, 1) := by decide +kernel
theorem dX6_init_64 : decode cX6_init 64 = .ok (.invokespecial 35, 3) := by decide +kernel
theorem dX6_init_67 : decode cX6_init 67 = .ok (.putfield 40, 3) := by decide +kernel
theorem dX6_init_70 : decode cX6_init 70 = .ok (.aload_n 0, 1) := by decide +kernel
theorem dX6_init_71 : decode cX6_init 71 = .ok (.new 43, 3) := by decide +kernel
theorem dX6_init_74 : decode cX6_init 74 = .ok (.dup, 1) := by decide +kernel
theorem dX6_init_75 : decode cX6_init 75 = .ok (.invokespecial 45, 3) := by decide +kernel
theorem dX6_init_78 : decode cX6_init 78 = .ok (.putfield 46, 3) := by decide +kernel
theorem dX6_init_81 : decode cX6_init 81 = .ok (.aload_n 0, 1) := by decide +kernel
theorem dX6_init_82 : decode cX6_init 82 = .ok (.new 50, 3) := by decide +kernel
theorem dX6_init_85 : decode cX6_init 85 = .ok (.dup, 1) := by decide +kernel
theorem dX6_init_86 : decode cX6_init 86 = .ok (.invokespecial 52, 3) := by decide +kernel
theorem dX6_init_89 : decode cX6_init 89 = .ok (.putfield 53, 3) := by decide +kernel
theorem dX6_init_92 : decode cX6_init 92 = .ok (.return_, 1) := by decide +kernel
set_option maxRecDepth 20000 in
theorem ggX6_wall_X6_isOutside : GoodIn wsX6_wall wsX6_isOutside := goodIn_r _ [6] (by decide +kernel) (by decide +kernel)
set_option maxRecDepth 20000 in
theorem gX6_wall_X6_isOutside : GoodIn wsX6_wall (va_wsS RX6 57 yX6_isOutside wsX6_isOutside) := goodIn_app (goodIn_of _ (by decide +kernel)) ggX6_wall_X6_isOutside
set_option maxRecDepth 20000 in
theorem ggX6_wall_X5_empty : GoodIn wsX6_wall wsX5_empty := goodIn_r _ [11, 12, 13, 14, 15, 16, 17, 5, 18, 27, 28, 29, 30, 31, 32, 33, 34, 35, 36, 37] (by decide +kernel) (by decide +kernel)
set_option maxRecDepth 20000 in
theorem gX6_wall_X5_empty : GoodIn wsX6_wall (wsV RX6 65 RX5 yX5_empty wsX5_empty) := goodIn_app (goodIn_of _ (by decide +kernel)) ggX6_wall_X5_empty
theorem dX6_wall_0 : decode cX6_wall 0 = .ok (.iload_n 1, 1) := by decide +kernel
theorem dX6_wall_1 : decode cX6_wall 1 = .ok (.iconst 2, 1) := by decide +kernel
theorem dX6_wall_2 : decode cX6_wall 2 = .ok (.bipush 9, 2) := by decide +kernel
theorem dX6_wall_4 : decode cX6_wall 4 = .ok (.invokestatic 57, 3) := by decide +kernel
theorem dX6_wall_7 : decode cX6_wall 7 = .ok (.ifCond .eq 6, 3) := by decide +kernel
theorem dX6_wall_10 : decode cX6_wall 10 = .ok (.bipush (-2), 2) := by decide +kernel
theorem dX6_wall_12 : decode cX6_wall 12 = .ok (.ireturn, 1) := by decide +kernel
theorem dX6_wall_13 : decode cX6_wall 13 = .ok (.aload_n 0, 1) := by decide +kernel
theorem dX6_wall_14 : decode cX6_wall 14 = .ok (.getfield 10, 3) := by decide +kernel
theorem dX6_wall_17 : decode cX6_wall 17 = .ok (.getfield 61, 3) := by decide +kernel
theorem dX6_wall_20 : decode cX6_wall 20 = .ok (.istore_n 2, 1) := by decide +kernel
theorem dX6_wall_21 : decode cX6_wall 21 = .ok (.aload_n 0, 1) := by decide +kernel
theorem dX6_wall_22 : decode cX6_wall 22 = .ok (.getfield 10, 3) := by decide +kernel
theorem dX6_wall_25 : decode cX6_wall 25 = .ok (.iload_n 1, 1) := by decide +kernel
theorem dX6_wall_26 : decode cX6_wall 26 = .ok (.invokevirtual 65, 3) := by decide +kernel
theorem dX6_wall_29 : decode cX6_wall 29 = .ok (.aload_n 0, 1) := by decide +kernel
theorem dX6_wall_30 : decode cX6_wall 30 = .ok (.getfield 22, 3) := by decide +kernel
theorem dX6_wall_33 : decode cX6_wall 33 = .ok (.iconst 0, 1) := by decide +kernel
theorem dX6_wall_34 : decode cX6_wall 34 = .ok (.putfield 69, 3) := by decide +kernel
theorem dX6_wall_37 : decode cX6_wall 37 = .ok (.iload_n 2, 1) := by decide +kernel
theorem dX6_wall_38 : decode cX6_wall 38 = .ok (.ireturn, 1) := by decide +kernel
set_option maxRecDepth 20000 in
theorem ggX6_guest_X6_isNoGuest : GoodIn wsX6_guest wsX6_isNoGuest := goodIn_r _ [5, 6, 7, 4, 8] (by decide +kernel) (by decide +kernel)
set_option maxRecDepth 20000 in
theorem gX6_guest_X6_isNoGuest : GoodIn wsX6_guest (va_wsS RX6 72 yX6_isNoGuest wsX6_isNoGuest) := goodIn_app (goodIn_of _ (by decide +kernel)) ggX6_guest_X6_isNoGuest
set_option maxRecDepth 20000 in
theorem ggX6_guest_X6_isOutside : GoodIn wsX6_guest wsX6_isOutside := goodIn_r _ [8] (by decide +kernel) (by decide +kernel)
set_option maxRecDepth 20000 in
theorem gX6_guest_X6_isOutside : GoodIn wsX6_guest (va_wsS RX6 57 yX6_isOutside wsX6_isOutside) := goodIn_app (goodIn_of _ (by decide +kernel)) ggX6_guest_X6_isOutside
set_option maxRecDepth 20000 in
theorem ggX6_guest_X5_isLaid : GoodIn wsX6_guest wsX5_isLaid := goodIn_r _ [13, 14, 15, 4, 16, 42, 43, 44, 45, 46, 47, 48, 49, 50, 51, 52] (by decide +kernel) (by decide +kernel)
set_option maxRecDepth 20000 in
theorem gX6_guest_X5_isLaid : GoodIn wsX6_guest (wsV RX6 76 RX5 yX5_isLaid wsX5_isLaid) := goodIn_app (goodIn_of _ (by decide +kernel)) ggX6_guest_X5_isLaid
set_option maxRecDepth 20000 in
theorem ggX6_guest_X5_give : GoodIn wsX6_guest wsX5_give := goodIn_r _ [20, 21, 22, 23, 24, 25, 4, 26, 42, 43, 44, 45, 46, 47, 48, 49, 50, 51, 52] (by decide +kernel) (by decide +kernel)
set_option maxRecDepth 20000 in
theorem gX6_guest_X5_give : GoodIn wsX6_guest (wsV RX6 79 RX5 yX5_give wsX5_give) := goodIn_app (goodIn_of _ (by decide +kernel)) ggX6_guest_X5_give
set_option maxRecDepth 20000 in
theorem ggX6_guest_J6_bitCount_0f7a4 : GoodIn wsX6_guest wsJ6_bitCount_0f7a4 := goodIn_r _ [30, 31, 32, 33] (by decide +kernel) (by decide +kernel)
set_option maxRecDepth 20000 in
theorem gX6_guest_J6_bitCount_0f7a4 : GoodIn wsX6_guest (va_wsS RX6 86 yJ6_bitCount_0f7a4 wsJ6_bitCount_0f7a4) := goodIn_app (goodIn_of _ (by decide +kernel)) ggX6_guest_J6_bitCount_0f7a4
theorem dX6_guest_0 : decode cX6_guest 0 = .ok (.iload_n 1, 1) := by decide +kernel
theorem dX6_guest_1 : decode cX6_guest 1 = .ok (.invokestatic 72, 3) := by decide +kernel
theorem dX6_guest_4 : decode cX6_guest 4 = .ok (.ifCond .eq 5, 3) := by decide +kernel
theorem dX6_guest_7 : decode cX6_guest 7 = .ok (.iconst (-1), 1) := by decide +kernel
theorem dX6_guest_8 : decode cX6_guest 8 = .ok (.ireturn, 1) := by decide +kernel
theorem dX6_guest_9 : decode cX6_guest 9 = .ok (.iload_n 2, 1) := by decide +kernel
theorem dX6_guest_10 : decode cX6_guest 10 = .ok (.iconst 1, 1) := by decide +kernel
theorem dX6_guest_11 : decode cX6_guest 11 = .ok (.iconst 3, 1) := by decide +kernel
theorem dX6_guest_12 : decode cX6_guest 12 = .ok (.invokestatic 57, 3) := by decide +kernel
theorem dX6_guest_15 : decode cX6_guest 15 = .ok (.ifCond .ne 25, 3) := by decide +kernel
theorem dX6_guest_18 : decode cX6_guest 18 = .ok (.iload_n 3, 1) := by decide +kernel
theorem dX6_guest_19 : decode cX6_guest 19 = .ok (.iconst 1, 1) := by decide +kernel
theorem dX6_guest_20 : decode cX6_guest 20 = .ok (.bipush 20, 2) := by decide +kernel
theorem dX6_guest_22 : decode cX6_guest 22 = .ok (.invokestatic 57, 3) := by decide +kernel
theorem dX6_guest_25 : decode cX6_guest 25 = .ok (.ifCond .ne 15, 3) := by decide +kernel
theorem dX6_guest_28 : decode cX6_guest 28 = .ok (.iload 4, 2) := by decide +kernel
theorem dX6_guest_30 : decode cX6_guest 30 = .ok (.iconst 0, 1) := by decide +kernel
theorem dX6_guest_31 : decode cX6_guest 31 = .ok (.sipush 200, 3) := by decide +kernel
theorem dX6_guest_34 : decode cX6_guest 34 = .ok (.invokestatic 57, 3) := by decide +kernel
theorem dX6_guest_37 : decode cX6_guest 37 = .ok (.ifCond .eq 6, 3) := by decide +kernel
theorem dX6_guest_40 : decode cX6_guest 40 = .ok (.bipush (-2), 2) := by decide +kernel
theorem dX6_guest_42 : decode cX6_guest 42 = .ok (.ireturn, 1) := by decide +kernel
theorem dX6_guest_43 : decode cX6_guest 43 = .ok (.aload_n 0, 1) := by decide +kernel
theorem dX6_guest_44 : decode cX6_guest 44 = .ok (.getfield 10, 3) := by decide +kernel
theorem dX6_guest_47 : decode cX6_guest 47 = .ok (.iload_n 1, 1) := by decide +kernel
theorem dX6_guest_48 : decode cX6_guest 48 = .ok (.invokevirtual 76, 3) := by decide +kernel
theorem dX6_guest_51 : decode cX6_guest 51 = .ok (.ifCond .eq 6, 3) := by decide +kernel
theorem dX6_guest_54 : decode cX6_guest 54 = .ok (.bipush (-3), 2) := by decide +kernel
theorem dX6_guest_56 : decode cX6_guest 56 = .ok (.ireturn, 1) := by decide +kernel
theorem dX6_guest_57 : decode cX6_guest 57 = .ok (.aload_n 0, 1) := by decide +kernel
theorem dX6_guest_58 : decode cX6_guest 58 = .ok (.getfield 10, 3) := by decide +kernel
theorem dX6_guest_61 : decode cX6_guest 61 = .ok (.iload_n 1, 1) := by decide +kernel
theorem dX6_guest_62 : decode cX6_guest 62 = .ok (.iload_n 2, 1) := by decide +kernel
theorem dX6_guest_63 : decode cX6_guest 63 = .ok (.iload_n 3, 1) := by decide +kernel
theorem dX6_guest_64 : decode cX6_guest 64 = .ok (.iload 4, 2) := by decide +kernel
theorem dX6_guest_66 : decode cX6_guest 66 = .ok (.invokevirtual 79, 3) := by decide +kernel
theorem dX6_guest_69 : decode cX6_guest 69 = .ok (.aload_n 0, 1) := by decide +kernel
theorem dX6_guest_70 : decode cX6_guest 70 = .ok (.getfield 10, 3) := by decide +kernel
theorem dX6_guest_73 : decode cX6_guest 73 = .ok (.getfield 83, 3) := by decide +kernel
theorem dX6_guest_76 : decode cX6_guest 76 = .ok (.invokestatic 86, 3) := by decide +kernel
theorem dX6_guest_79 : decode cX6_guest 79 = .ok (.ireturn, 1) := by decide +kernel
set_option maxRecDepth 20000 in
theorem ggX6_say_X6_isOutside : GoodIn wsX6_say wsX6_isOutside := goodIn_r _ [5] (by decide +kernel) (by decide +kernel)
set_option maxRecDepth 20000 in
theorem gX6_say_X6_isOutside : GoodIn wsX6_say (va_wsS RX6 57 yX6_isOutside wsX6_isOutside) := goodIn_app (goodIn_of _ (by decide +kernel)) ggX6_say_X6_isOutside
set_option maxRecDepth 20000 in
theorem ggX6_say_X2_add : GoodIn wsX6_say wsX2_add := goodIn_r _ [10, 11, 12, 13, 4, 14, 23, 24] (by decide +kernel) (by decide +kernel)
set_option maxRecDepth 20000 in
theorem gX6_say_X2_add : GoodIn wsX6_say (wsV RX6 93 RX2 yX2_add wsX2_add) := goodIn_app (goodIn_of _ (by decide +kernel)) ggX6_say_X2_add
theorem dX6_say_0 : decode cX6_say 0 = .ok (.iload_n 1, 1) := by decide +kernel
theorem dX6_say_1 : decode cX6_say 1 = .ok (.bipush 33, 2) := by decide +kernel
theorem dX6_say_3 : decode cX6_say 3 = .ok (.bipush 126, 2) := by decide +kernel
theorem dX6_say_5 : decode cX6_say 5 = .ok (.invokestatic 57, 3) := by decide +kernel
theorem dX6_say_8 : decode cX6_say 8 = .ok (.ifCond .eq 6, 3) := by decide +kernel
theorem dX6_say_11 : decode cX6_say 11 = .ok (.bipush (-2), 2) := by decide +kernel
theorem dX6_say_13 : decode cX6_say 13 = .ok (.ireturn, 1) := by decide +kernel
theorem dX6_say_14 : decode cX6_say 14 = .ok (.aload_n 0, 1) := by decide +kernel
theorem dX6_say_15 : decode cX6_say 15 = .ok (.getfield 29, 3) := by decide +kernel
theorem dX6_say_18 : decode cX6_say 18 = .ok (.getfield 92, 3) := by decide +kernel
theorem dX6_say_21 : decode cX6_say 21 = .ok (.bipush 60, 2) := by decide +kernel
theorem dX6_say_23 : decode cX6_say 23 = .ok (.if_icmp .lt 6, 3) := by decide +kernel
theorem dX6_say_26 : decode cX6_say 26 = .ok (.bipush (-4), 2) := by decide +kernel
theorem dX6_say_28 : decode cX6_say 28 = .ok (.ireturn, 1) := by decide +kernel
theorem dX6_say_29 : decode cX6_say 29 = .ok (.aload_n 0, 1) := by decide +kernel
theorem dX6_say_30 : decode cX6_say 30 = .ok (.getfield 29, 3) := by decide +kernel
theorem dX6_say_33 : decode cX6_say 33 = .ok (.iload_n 1, 1) := by decide +kernel
theorem dX6_say_34 : decode cX6_say 34 = .ok (.invokevirtual 93, 3) := by decide +kernel
theorem dX6_say_37 : decode cX6_say 37 = .ok (.aload_n 0, 1) := by decide +kernel
theorem dX6_say_38 : decode cX6_say 38 = .ok (.getfield 29, 3) := by decide +kernel
theorem dX6_say_41 : decode cX6_say 41 = .ok (.getfield 92, 3) := by decide +kernel
theorem dX6_say_44 : decode cX6_say 44 = .ok (.ireturn, 1) := by decide +kernel
theorem dX6_wipe_0 : decode cX6_wipe 0 = .ok (.aload_n 0, 1) := by decide +kernel
theorem dX6_wipe_1 : decode cX6_wipe 1 = .ok (.getfield 29, 3) := by decide +kernel
theorem dX6_wipe_4 : decode cX6_wipe 4 = .ok (.getfield 92, 3) := by decide +kernel
theorem dX6_wipe_7 : decode cX6_wipe 7 = .ok (.istore_n 1, 1) := by decide +kernel
theorem dX6_wipe_8 : decode cX6_wipe 8 = .ok (.aload_n 0, 1) := by decide +kernel
theorem dX6_wipe_9 : decode cX6_wipe 9 = .ok (.getfield 29, 3) := by decide +kernel
theorem dX6_wipe_12 : decode cX6_wipe 12 = .ok (.iconst 0, 1) := by decide +kernel
theorem dX6_wipe_13 : decode cX6_wipe 13 = .ok (.putfield 92, 3) := by decide +kernel
theorem dX6_wipe_16 : decode cX6_wipe 16 = .ok (.iload_n 1, 1) := by decide +kernel
theorem dX6_wipe_17 : decode cX6_wipe 17 = .ok (.ireturn, 1) := by decide +kernel
set_option maxRecDepth 20000 in
theorem ggX6_fault_X2_firstFault : GoodIn wsX6_fault wsX2_firstFault := goodIn_r _ [7, 8, 9, 10, 11, 12, 32, 33] (by decide +kernel) (by decide +kernel)
set_option maxRecDepth 20000 in
theorem gX6_fault_X2_firstFault : GoodIn wsX6_fault (wsV RX6 96 RX2 yX2_firstFault wsX2_firstFault) := goodIn_app (goodIn_of _ (by decide +kernel)) ggX6_fault_X2_firstFault
theorem dX6_fault_0 : decode cX6_fault 0 = .ok (.aload_n 0, 1) := by decide +kernel
theorem dX6_fault_1 : decode cX6_fault 1 = .ok (.getfield 29, 3) := by decide +kernel
theorem dX6_fault_4 : decode cX6_fault 4 = .ok (.aload_n 0, 1) := by decide +kernel
theorem dX6_fault_5 : decode cX6_fault 5 = .ok (.getfield 10, 3) := by decide +kernel
theorem dX6_fault_8 : decode cX6_fault 8 = .ok (.getfield 61, 3) := by decide +kernel
theorem dX6_fault_11 : decode cX6_fault 11 = .ok (.invokevirtual 96, 3) := by decide +kernel
theorem dX6_fault_14 : decode cX6_fault 14 = .ok (.ireturn, 1) := by decide +kernel
set_option maxRecDepth 20000 in
theorem ggX6_judge_X6_isOutside : GoodIn wsX6_judge wsX6_isOutside := goodIn_r _ [4] (by decide +kernel) (by decide +kernel)
set_option maxRecDepth 20000 in
theorem gX6_judge_X6_isOutside : GoodIn wsX6_judge (va_wsS RX6 57 yX6_isOutside wsX6_isOutside) := goodIn_app (goodIn_of _ (by decide +kernel)) ggX6_judge_X6_isOutside
set_option maxRecDepth 20000 in
theorem ggX6_judge_X6_tryPad : GoodIn wsX6_judge wsX6_tryPad := goodIn_r _ [8, 9, 10, 11, 12, 13, 14, 15, 16, 17, 18, 19, 3, 20, 21, 22, 23, 24, 25, 26, 27, 28, 29, 30, 31, 32, 33, 34, 35, 36, 37, 38, 39, 40, 41, 42, 43, 44, 45, 46, 47, 48, 49, 50, 51, 52, 53, 54, 55, 56, 57, 58, 59, 60, 61, 62, 63, 64, 65, 66, 67, 68, 69, 70, 71, 72, 73, 74, 75, 76, 77, 78, 79, 80, 81, 82, 83, 84, 85, 86, 87, 88, 89, 90, 91, 92, 93, 94, 95, 96, 97, 98, 99, 100, 101, 102, 103, 104, 105, 106, 107, 108, 109, 110, 111, 112, 113, 114, 115, 116, 117, 118, 119, 120, 121, 122, 123, 124, 125, 126, 127, 128, 129, 130, 131, 132, 133, 134, 135, 136, 137, 138, 139, 140, 141, 142, 143, 144, 145, 146, 147, 148, 149, 150, 151, 152, 153, 154, 155, 156, 157, 158, 159, 160] (by decide +kernel) (by decide +kernel)
set_option maxRecDepth 20000 in
theorem gX6_judge_X6_tryPad : GoodIn wsX6_judge (wsV RX6 99 RX6 yX6_tryPad wsX6_tryPad) := goodIn_app (goodIn_of _ (by decide +kernel)) ggX6_judge_X6_tryPad
theorem dX6_judge_0 : decode cX6_judge 0 = .ok (.iload_n 1, 1) := by decide +kernel
theorem dX6_judge_1 : decode cX6_judge 1 = .ok (.iconst 0, 1) := by decide +kernel
theorem dX6_judge_2 : decode cX6_judge 2 = .ok (.iconst 1, 1) := by decide +kernel
theorem dX6_judge_3 : decode cX6_judge 3 = .ok (.invokestatic 57, 3) := by decide +kernel
theorem dX6_judge_6 : decode cX6_judge 6 = .ok (.ifCond .eq 6, 3) := by decide +kernel
theorem dX6_judge_9 : decode cX6_judge 9 = .ok (.bipush (-2), 2) := by decide +kernel
theorem dX6_judge_11 : decode cX6_judge 11 = .ok (.ireturn, 1) := by decide +kernel
theorem dX6_judge_12 : decode cX6_judge 12 = .ok (.aload_n 0, 1) := by decide +kernel
theorem dX6_judge_13 : decode cX6_judge 13 = .ok (.invokevirtual 99, 3) := by decide +kernel
theorem dX6_judge_16 : decode cX6_judge 16 = .ok (.istore_n 2, 1) := by decide +kernel
theorem dX6_judge_17 : decode cX6_judge 17 = .ok (.iload_n 2, 1) := by decide +kernel
theorem dX6_judge_18 : decode cX6_judge 18 = .ok (.ifCond .ge 5, 3) := by decide +kernel
theorem dX6_judge_21 : decode cX6_judge 21 = .ok (.iload_n 2, 1) := by decide +kernel
theorem dX6_judge_22 : decode cX6_judge 22 = .ok (.ireturn, 1) := by decide +kernel
theorem dX6_judge_23 : decode cX6_judge 23 = .ok (.iload_n 1, 1) := by decide +kernel
theorem dX6_judge_24 : decode cX6_judge 24 = .ok (.ifCond .ne 10, 3) := by decide +kernel
theorem dX6_judge_27 : decode cX6_judge 27 = .ok (.iload_n 2, 1) := by decide +kernel
theorem dX6_judge_28 : decode cX6_judge 28 = .ok (.bipush 10, 2) := by decide +kernel
theorem dX6_judge_30 : decode cX6_judge 30 = .ok (.idiv, 1) := by decide +kernel
theorem dX6_judge_31 : decode cX6_judge 31 = .ok (.goto 7, 3) := by decide +kernel
theorem dX6_judge_34 : decode cX6_judge 34 = .ok (.iload_n 2, 1) := by decide +kernel
theorem dX6_judge_35 : decode cX6_judge 35 = .ok (.bipush 10, 2) := by decide +kernel
theorem dX6_judge_37 : decode cX6_judge 37 = .ok (.irem, 1) := by decide +kernel
theorem dX6_judge_38 : decode cX6_judge 38 = .ok (.ireturn, 1) := by decide +kernel
set_option maxRecDepth 20000 in
theorem ggX6_done_X6_tryPad : GoodIn wsX6_done wsX6_tryPad := goodIn_r _ [8, 1, 2, 3, 9, 10, 11, 12, 13, 14, 15, 16, 7, 17, 18, 19, 20, 21, 22, 23, 24, 25, 26, 27, 28, 29, 30, 31, 32, 33, 34, 35, 36, 37, 38, 39, 40, 41, 42, 43, 44, 45, 46, 47, 48, 49, 50, 51, 52, 53, 54, 55, 56, 57, 58, 59, 60, 61, 62, 63, 64, 65, 66, 67, 68, 69, 70, 71, 72, 73, 74, 75, 76, 77, 78, 79, 80, 81, 82, 83, 84, 85, 86, 87, 88, 89, 90, 91, 92, 93, 94, 95, 96, 97, 98, 99, 100, 101, 102, 103, 104, 105, 106, 107, 108, 109, 110, 111, 112, 113, 114, 115, 116, 117, 118, 119, 120, 121, 122, 123, 124, 125, 126, 127, 128, 129, 130, 131, 132, 133, 134, 135, 136, 137, 138, 139, 140, 141, 142, 143, 144, 147, 148, 149, 150, 151, 152, 153, 154, 155, 156, 157, 145, 146] (by decide +kernel) (by decide +kernel)
set_option maxRecDepth 20000 in
theorem gX6_done_X6_tryPad : GoodIn wsX6_done (wsV RX6 99 RX6 yX6_tryPad wsX6_tryPad) := goodIn_app (goodIn_of _ (by decide +kernel)) ggX6_done_X6_tryPad
set_option maxRecDepth 20000 in
theorem ggX6_done_X2_acts : GoodIn wsX6_done wsX2_acts := goodIn_r _ [46, 14, 145, 146] (by decide +kernel) (by decide +kernel)
set_option maxRecDepth 20000 in
theorem gX6_done_X2_acts : GoodIn wsX6_done (wsV RX6 103 RX2 yX2_acts wsX2_acts) := goodIn_app (goodIn_of _ (by decide +kernel)) ggX6_done_X2_acts
set_option maxRecDepth 20000 in
theorem ggX6_done_X5_become : GoodIn wsX6_done wsX5_become := goodIn_r _ [22, 23, 24, 25, 26, 27, 28, 29, 30, 31, 32, 33, 7, 34, 35, 36, 37, 38, 39, 40, 41, 42, 147, 148, 149, 150, 151, 152, 153, 154, 155, 156, 157] (by decide +kernel) (by decide +kernel)
set_option maxRecDepth 20000 in
theorem gX6_done_X5_become : GoodIn wsX6_done (wsV RX6 106 RX5 yX5_become wsX5_become) := goodIn_app (goodIn_of _ (by decide +kernel)) ggX6_done_X5_become
theorem dX6_done_0 : decode cX6_done 0 = .ok (.aload_n 0, 1) := by decide +kernel
theorem dX6_done_1 : decode cX6_done 1 = .ok (.invokevirtual 99, 3) := by decide +kernel
theorem dX6_done_4 : decode cX6_done 4 = .ok (.bipush (-6), 2) := by decide +kernel
theorem dX6_done_6 : decode cX6_done 6 = .ok (.if_icmp .eq 6, 3) := by decide +kernel
theorem dX6_done_9 : decode cX6_done 9 = .ok (.bipush (-5), 2) := by decide +kernel
theorem dX6_done_11 : decode cX6_done 11 = .ok (.ireturn, 1) := by decide +kernel
theorem dX6_done_12 : decode cX6_done 12 = .ok (.aload_n 0, 1) := by decide +kernel
theorem dX6_done_13 : decode cX6_done 13 = .ok (.getfield 29, 3) := by decide +kernel
theorem dX6_done_16 : decode cX6_done 16 = .ok (.invokevirtual 103, 3) := by decide +kernel
theorem dX6_done_19 : decode cX6_done 19 = .ok (.istore_n 1, 1) := by decide +kernel
theorem dX6_done_20 : decode cX6_done 20 = .ok (.aload_n 0, 1) := by decide +kernel
theorem dX6_done_21 : decode cX6_done 21 = .ok (.getfield 10, 3) := by decide +kernel
theorem dX6_done_24 : decode cX6_done 24 = .ok (.aload_n 0, 1) := by decide +kernel
theorem dX6_done_25 : decode cX6_done 25 = .ok (.getfield 16, 3) := by decide +kernel
theorem dX6_done_28 : decode cX6_done 28 = .ok (.invokevirtual 106, 3) := by decide +kernel
theorem dX6_done_31 : decode cX6_done 31 = .ok (.aload_n 0, 1) := by decide +kernel
theorem dX6_done_32 : decode cX6_done 32 = .ok (.getfield 29, 3) := by decide +kernel
theorem dX6_done_35 : decode cX6_done 35 = .ok (.iconst 0, 1) := by decide +kernel
theorem dX6_done_36 : decode cX6_done 36 = .ok (.putfield 92, 3) := by decide +kernel
theorem dX6_done_39 : decode cX6_done 39 = .ok (.iload_n 1, 1) := by decide +kernel
theorem dX6_done_40 : decode cX6_done 40 = .ok (.ireturn, 1) := by decide +kernel
set_option maxRecDepth 20000 in
theorem ggX6_state_X6_isNoGuest : GoodIn wsX6_state wsX6_isNoGuest := goodIn_r _ [5, 6, 7, 4, 8] (by decide +kernel) (by decide +kernel)
set_option maxRecDepth 20000 in
theorem gX6_state_X6_isNoGuest : GoodIn wsX6_state (va_wsS RX6 72 yX6_isNoGuest wsX6_isNoGuest) := goodIn_app (goodIn_of _ (by decide +kernel)) ggX6_state_X6_isNoGuest
set_option maxRecDepth 20000 in
theorem ggX6_state_X6_isOutside : GoodIn wsX6_state wsX6_isOutside := goodIn_r _ [8] (by decide +kernel) (by decide +kernel)
set_option maxRecDepth 20000 in
theorem gX6_state_X6_isOutside : GoodIn wsX6_state (va_wsS RX6 57 yX6_isOutside wsX6_isOutside) := goodIn_app (goodIn_of _ (by decide +kernel)) ggX6_state_X6_isOutside
set_option maxRecDepth 20000 in
theorem ggX6_state_X5_placeOf : GoodIn wsX6_state wsX5_placeOf := goodIn_r _ [13, 14, 15, 16, 17, 18, 12, 19, 20, 21, 4, 22, 23, 24, 33, 34, 35, 36, 37, 38, 39, 40, 41, 42, 43] (by decide +kernel) (by decide +kernel)
set_option maxRecDepth 20000 in
theorem gX6_state_X5_placeOf : GoodIn wsX6_state (wsV RX6 110 RX5 yX5_placeOf wsX5_placeOf) := goodIn_app (goodIn_of _ (by decide +kernel)) ggX6_state_X5_placeOf
theorem dX6_state_0 : decode cX6_state 0 = .ok (.iload_n 1, 1) := by decide +kernel
theorem dX6_state_1 : decode cX6_state 1 = .ok (.invokestatic 72, 3) := by decide +kernel
theorem dX6_state_4 : decode cX6_state 4 = .ok (.ifCond .eq 5, 3) := by decide +kernel
theorem dX6_state_7 : decode cX6_state 7 = .ok (.iconst (-1), 1) := by decide +kernel
theorem dX6_state_8 : decode cX6_state 8 = .ok (.ireturn, 1) := by decide +kernel
theorem dX6_state_9 : decode cX6_state 9 = .ok (.iload_n 2, 1) := by decide +kernel
theorem dX6_state_10 : decode cX6_state 10 = .ok (.iconst 0, 1) := by decide +kernel
theorem dX6_state_11 : decode cX6_state 11 = .ok (.iconst 1, 1) := by decide +kernel
theorem dX6_state_12 : decode cX6_state 12 = .ok (.invokestatic 57, 3) := by decide +kernel
theorem dX6_state_15 : decode cX6_state 15 = .ok (.ifCond .eq 6, 3) := by decide +kernel
theorem dX6_state_18 : decode cX6_state 18 = .ok (.bipush (-2), 2) := by decide +kernel
theorem dX6_state_20 : decode cX6_state 20 = .ok (.ireturn, 1) := by decide +kernel
theorem dX6_state_21 : decode cX6_state 21 = .ok (.aload_n 0, 1) := by decide +kernel
theorem dX6_state_22 : decode cX6_state 22 = .ok (.getfield 10, 3) := by decide +kernel
theorem dX6_state_25 : decode cX6_state 25 = .ok (.iload_n 1, 1) := by decide +kernel
theorem dX6_state_26 : decode cX6_state 26 = .ok (.iload_n 2, 1) := by decide +kernel
theorem dX6_state_27 : decode cX6_state 27 = .ok (.invokevirtual 110, 3) := by decide +kernel
theorem dX6_state_30 : decode cX6_state 30 = .ok (.ireturn, 1) := by decide +kernel
set_option maxRecDepth 20000 in
theorem ggX6_behind_X6_isNoGuest : GoodIn wsX6_behind wsX6_isNoGuest := goodIn_r _ [5, 6, 7, 4, 8] (by decide +kernel) (by decide +kernel)
set_option maxRecDepth 20000 in
theorem gX6_behind_X6_isNoGuest : GoodIn wsX6_behind (va_wsS RX6 72 yX6_isNoGuest wsX6_isNoGuest) := goodIn_app (goodIn_of _ (by decide +kernel)) ggX6_behind_X6_isNoGuest
set_option maxRecDepth 20000 in
theorem ggX6_behind_X6_isOutside : GoodIn wsX6_behind wsX6_isOutside := goodIn_r _ [8] (by decide +kernel) (by decide +kernel)
set_option maxRecDepth 20000 in
theorem gX6_behind_X6_isOutside : GoodIn wsX6_behind (va_wsS RX6 57 yX6_isOutside wsX6_isOutside) := goodIn_app (goodIn_of _ (by decide +kernel)) ggX6_behind_X6_isOutside
set_option maxRecDepth 20000 in
theorem ggX6_behind_X6_tryPad : GoodIn wsX6_behind wsX6_tryPad := goodIn_r _ [12, 13, 14, 1, 15, 16, 17, 18, 19, 20, 21, 22, 4, 23, 24, 25, 26, 27, 28, 29, 30, 31, 32, 33, 34, 35, 36, 37, 38, 39, 40, 41, 42, 43, 44, 45, 46, 47, 48, 49, 50, 51, 52, 53, 54, 55, 56, 57, 58, 59, 60, 61, 62, 63, 64, 65, 66, 67, 68, 69, 70, 71, 72, 73, 74, 75, 76, 77, 78, 79, 80, 81, 82, 83, 84, 85, 86, 87, 88, 89, 90, 91, 92, 93, 94, 95, 96, 97, 98, 99, 100, 101, 102, 103, 104, 105, 106, 107, 108, 109, 110, 111, 112, 113, 114, 115, 116, 117, 118, 119, 120, 121, 122, 123, 124, 125, 126, 127, 128, 129, 130, 131, 132, 133, 134, 135, 136, 137, 138, 139, 140, 141, 142, 147, 148, 149, 150, 151, 152, 153, 154, 155, 156, 157, 158, 159, 160, 161, 162, 163, 164, 165, 166, 167] (by decide +kernel) (by decide +kernel)
set_option maxRecDepth 20000 in
theorem gX6_behind_X6_tryPad : GoodIn wsX6_behind (wsV RX6 99 RX6 yX6_tryPad wsX6_tryPad) := goodIn_app (goodIn_of _ (by decide +kernel)) ggX6_behind_X6_tryPad
set_option maxRecDepth 20000 in
theorem ggX6_behind_X5_placeOf : GoodIn wsX6_behind wsX5_placeOf := goodIn_r _ [146, 35, 36, 65, 66, 67, 27, 68, 31, 69, 4, 70, 22, 23, 155, 156, 157, 158, 159, 160, 161, 162, 163, 164, 165] (by decide +kernel) (by decide +kernel)
set_option maxRecDepth 20000 in
theorem gX6_behind_X5_placeOf : GoodIn wsX6_behind (wsV RX6 110 RX5 yX5_placeOf wsX5_placeOf) := goodIn_app (goodIn_of _ (by decide +kernel)) ggX6_behind_X5_placeOf
theorem dX6_behind_0 : decode cX6_behind 0 = .ok (.iload_n 1, 1) := by decide +kernel
theorem dX6_behind_1 : decode cX6_behind 1 = .ok (.invokestatic 72, 3) := by decide +kernel
theorem dX6_behind_4 : decode cX6_behind 4 = .ok (.ifCond .eq 5, 3) := by decide +kernel
theorem dX6_behind_7 : decode cX6_behind 7 = .ok (.iconst (-1), 1) := by decide +kernel
theorem dX6_behind_8 : decode cX6_behind 8 = .ok (.ireturn, 1) := by decide +kernel
theorem dX6_behind_9 : decode cX6_behind 9 = .ok (.iload_n 2, 1) := by decide +kernel
theorem dX6_behind_10 : decode cX6_behind 10 = .ok (.iconst 0, 1) := by decide +kernel
theorem dX6_behind_11 : decode cX6_behind 11 = .ok (.iconst 1, 1) := by decide +kernel
theorem dX6_behind_12 : decode cX6_behind 12 = .ok (.invokestatic 57, 3) := by decide +kernel
theorem dX6_behind_15 : decode cX6_behind 15 = .ok (.ifCond .eq 6, 3) := by decide +kernel
theorem dX6_behind_18 : decode cX6_behind 18 = .ok (.bipush (-2), 2) := by decide +kernel
theorem dX6_behind_20 : decode cX6_behind 20 = .ok (.ireturn, 1) := by decide +kernel
theorem dX6_behind_21 : decode cX6_behind 21 = .ok (.aload_n 0, 1) := by decide +kernel
theorem dX6_behind_22 : decode cX6_behind 22 = .ok (.invokevirtual 99, 3) := by decide +kernel
theorem dX6_behind_25 : decode cX6_behind 25 = .ok (.bipush (-6), 2) := by decide +kernel
theorem dX6_behind_27 : decode cX6_behind 27 = .ok (.if_icmp .eq 6, 3) := by decide +kernel
theorem dX6_behind_30 : decode cX6_behind 30 = .ok (.bipush (-5), 2) := by decide +kernel
theorem dX6_behind_32 : decode cX6_behind 32 = .ok (.ireturn, 1) := by decide +kernel
theorem dX6_behind_33 : decode cX6_behind 33 = .ok (.aload_n 0, 1) := by decide +kernel
theorem dX6_behind_34 : decode cX6_behind 34 = .ok (.getfield 16, 3) := by decide +kernel
theorem dX6_behind_37 : decode cX6_behind 37 = .ok (.iload_n 1, 1) := by decide +kernel
theorem dX6_behind_38 : decode cX6_behind 38 = .ok (.iload_n 2, 1) := by decide +kernel
theorem dX6_behind_39 : decode cX6_behind 39 = .ok (.invokevirtual 110, 3) := by decide +kernel
theorem dX6_behind_42 : decode cX6_behind 42 = .ok (.ireturn, 1) := by decide +kernel
set_option maxRecDepth 20000 in
theorem ggX6_height_X6_isNoColumn : GoodIn wsX6_height wsX6_isNoColumn := goodIn_r _ [6, 7, 8, 9, 5, 10, 145, 146, 147, 148, 149, 150, 151, 152, 153, 154, 155, 156, 157, 158, 159, 160, 161, 162, 163] (by decide +kernel) (by decide +kernel)
set_option maxRecDepth 20000 in
theorem gX6_height_X6_isNoColumn : GoodIn wsX6_height (wsV RX6 114 RX6 yX6_isNoColumn wsX6_isNoColumn) := goodIn_app (goodIn_of _ (by decide +kernel)) ggX6_height_X6_isNoColumn
set_option maxRecDepth 20000 in
theorem ggX6_height_X6_tryPad : GoodIn wsX6_height wsX6_tryPad := goodIn_r _ [14, 15, 7, 1, 16, 17, 18, 19, 20, 21, 22, 23, 5, 24, 25, 26, 27, 28, 29, 30, 31, 32, 33, 34, 35, 36, 37, 38, 39, 40, 41, 42, 43, 44, 45, 46, 47, 48, 49, 50, 51, 52, 53, 54, 55, 56, 57, 58, 59, 60, 61, 62, 63, 64, 65, 66, 67, 68, 69, 70, 71, 72, 73, 74, 75, 76, 77, 78, 79, 80, 81, 82, 83, 84, 85, 86, 87, 88, 89, 90, 91, 92, 93, 94, 95, 96, 97, 98, 99, 100, 101, 102, 103, 104, 105, 106, 107, 108, 109, 110, 111, 112, 113, 114, 115, 116, 117, 118, 119, 120, 121, 122, 123, 124, 125, 126, 127, 128, 129, 130, 131, 132, 133, 134, 135, 136, 137, 138, 139, 140, 141, 142, 143, 145, 146, 147, 148, 149, 150, 151, 152, 153, 154, 155, 156, 157, 158, 159, 160, 161, 162, 163, 164, 165] (by decide +kernel) (by decide +kernel)
set_option maxRecDepth 20000 in
theorem gX6_height_X6_tryPad : GoodIn wsX6_height (wsV RX6 99 RX6 yX6_tryPad wsX6_tryPad) := goodIn_app (goodIn_of _ (by decide +kernel)) ggX6_height_X6_tryPad
set_option maxRecDepth 20000 in
theorem ggX6_height_X6_at : GoodIn wsX6_height wsX6_at := goodIn_r _ [24] (by decide +kernel) (by decide +kernel)
set_option maxRecDepth 20000 in
theorem gX6_height_X6_at : GoodIn wsX6_height (va_wsS RX6 121 yX6_at wsX6_at) := goodIn_app (goodIn_of _ (by decide +kernel)) ggX6_height_X6_at
theorem dX6_height_0 : decode cX6_height 0 = .ok (.aload_n 0, 1) := by decide +kernel
theorem dX6_height_1 : decode cX6_height 1 = .ok (.iload_n 1, 1) := by decide +kernel
theorem dX6_height_2 : decode cX6_height 2 = .ok (.invokevirtual 114, 3) := by decide +kernel
theorem dX6_height_5 : decode cX6_height 5 = .ok (.ifCond .eq 5, 3) := by decide +kernel
theorem dX6_height_8 : decode cX6_height 8 = .ok (.iconst (-1), 1) := by decide +kernel
theorem dX6_height_9 : decode cX6_height 9 = .ok (.ireturn, 1) := by decide +kernel
theorem dX6_height_10 : decode cX6_height 10 = .ok (.aload_n 0, 1) := by decide +kernel
theorem dX6_height_11 : decode cX6_height 11 = .ok (.invokevirtual 99, 3) := by decide +kernel
theorem dX6_height_14 : decode cX6_height 14 = .ok (.bipush (-6), 2) := by decide +kernel
theorem dX6_height_16 : decode cX6_height 16 = .ok (.if_icmp .eq 6, 3) := by decide +kernel
theorem dX6_height_19 : decode cX6_height 19 = .ok (.bipush (-5), 2) := by decide +kernel
theorem dX6_height_21 : decode cX6_height 21 = .ok (.ireturn, 1) := by decide +kernel
theorem dX6_height_22 : decode cX6_height 22 = .ok (.aload_n 0, 1) := by decide +kernel
theorem dX6_height_23 : decode cX6_height 23 = .ok (.getfield 16, 3) := by decide +kernel
theorem dX6_height_26 : decode cX6_height 26 = .ok (.getfield 117, 3) := by decide +kernel
theorem dX6_height_29 : decode cX6_height 29 = .ok (.iload_n 1, 1) := by decide +kernel
theorem dX6_height_30 : decode cX6_height 30 = .ok (.invokestatic 121, 3) := by decide +kernel
theorem dX6_height_33 : decode cX6_height 33 = .ok (.ireturn, 1) := by decide +kernel
set_option maxRecDepth 20000 in
theorem ggX6_load_X6_isNoGuest : GoodIn wsX6_load wsX6_isNoGuest := goodIn_r _ [9, 10, 11, 8, 12] (by decide +kernel) (by decide +kernel)
set_option maxRecDepth 20000 in
theorem gX6_load_X6_isNoGuest : GoodIn wsX6_load (va_wsS RX6 72 yX6_isNoGuest wsX6_isNoGuest) := goodIn_app (goodIn_of _ (by decide +kernel)) ggX6_load_X6_isNoGuest
set_option maxRecDepth 20000 in
theorem ggX6_load_X6_isOutside : GoodIn wsX6_load wsX6_isOutside := goodIn_r _ [12] (by decide +kernel) (by decide +kernel)
set_option maxRecDepth 20000 in
theorem gX6_load_X6_isOutside : GoodIn wsX6_load (va_wsS RX6 57 yX6_isOutside wsX6_isOutside) := goodIn_app (goodIn_of _ (by decide +kernel)) ggX6_load_X6_isOutside
set_option maxRecDepth 20000 in
theorem ggX6_load_X5_isLaid : GoodIn wsX6_load wsX5_isLaid := goodIn_r _ [17, 18, 19, 8, 20, 76, 77, 78, 79, 80, 81, 82, 83, 84, 85, 86] (by decide +kernel) (by decide +kernel)
set_option maxRecDepth 20000 in
theorem gX6_load_X5_isLaid : GoodIn wsX6_load (wsV RX6 76 RX5 yX5_isLaid wsX5_isLaid) := goodIn_app (goodIn_of _ (by decide +kernel)) ggX6_load_X5_isLaid
set_option maxRecDepth 20000 in
theorem ggX6_load_X5_weigh : GoodIn wsX6_load wsX5_weigh := goodIn_r _ [24, 25, 26, 27, 8, 28, 29, 30, 31, 16, 32, 33, 34, 35, 36, 37, 38, 39, 40, 14, 15, 17, 18, 19, 20, 41, 42, 43, 44, 45, 46, 47, 48, 49, 50, 51, 52, 53, 54, 55, 56, 57, 58, 59, 60, 76, 77, 78, 79, 80, 81, 82, 83, 84, 85, 86] (by decide +kernel) (by decide +kernel)
set_option maxRecDepth 20000 in
theorem gX6_load_X5_weigh : GoodIn wsX6_load (wsV RX6 131 RX5 yX5_weigh wsX5_weigh) := goodIn_app (goodIn_of _ (by decide +kernel)) ggX6_load_X5_weigh
set_option maxRecDepth 20000 in
theorem ggX6_load_X6_at_ : GoodIn wsX6_load wsX6_at_ := goodIn_r _ [55] (by decide +kernel) (by decide +kernel)
set_option maxRecDepth 20000 in
theorem gX6_load_X6_at_ : GoodIn wsX6_load (va_wsS RX6 138 yX6_at_ wsX6_at_) := goodIn_app (goodIn_of _ (by decide +kernel)) ggX6_load_X6_at_
set_option maxRecDepth 20000 in
theorem ggX6_load_X6_inLowestTerms : GoodIn wsX6_load wsX6_inLowestTerms := goodIn_r _ [64, 65, 66, 8, 67] (by decide +kernel) (by decide +kernel)
set_option maxRecDepth 20000 in
theorem gX6_load_X6_inLowestTerms : GoodIn wsX6_load (va_wsS RX6 143 yX6_inLowestTerms wsX6_inLowestTerms) := goodIn_app (goodIn_of _ (by decide +kernel)) ggX6_load_X6_inLowestTerms
theorem dX6_load_0 : decode cX6_load 0 = .ok (.iload_n 1, 1) := by decide +kernel
theorem dX6_load_1 : decode cX6_load 1 = .ok (.invokestatic 72, 3) := by decide +kernel
theorem dX6_load_4 : decode cX6_load 4 = .ok (.ifCond .eq 7, 3) := by decide +kernel
theorem dX6_load_7 : decode cX6_load 7 = .ok (.ldc2_w 125, 3) := by decide +kernel
theorem dX6_load_10 : decode cX6_load 10 = .ok (.lreturn, 1) := by decide +kernel
theorem dX6_load_11 : decode cX6_load 11 = .ok (.iload_n 2, 1) := by decide +kernel
theorem dX6_load_12 : decode cX6_load 12 = .ok (.iconst 0, 1) := by decide +kernel
theorem dX6_load_13 : decode cX6_load 13 = .ok (.iconst 1, 1) := by decide +kernel
theorem dX6_load_14 : decode cX6_load 14 = .ok (.invokestatic 57, 3) := by decide +kernel
theorem dX6_load_17 : decode cX6_load 17 = .ok (.ifCond .eq 7, 3) := by decide +kernel
theorem dX6_load_20 : decode cX6_load 20 = .ok (.ldc2_w 127, 3) := by decide +kernel
theorem dX6_load_23 : decode cX6_load 23 = .ok (.lreturn, 1) := by decide +kernel
theorem dX6_load_24 : decode cX6_load 24 = .ok (.aload_n 0, 1) := by decide +kernel
theorem dX6_load_25 : decode cX6_load 25 = .ok (.getfield 10, 3) := by decide +kernel
theorem dX6_load_28 : decode cX6_load 28 = .ok (.iload_n 1, 1) := by decide +kernel
theorem dX6_load_29 : decode cX6_load 29 = .ok (.invokevirtual 76, 3) := by decide +kernel
theorem dX6_load_32 : decode cX6_load 32 = .ok (.ifCond .ne 7, 3) := by decide +kernel
theorem dX6_load_35 : decode cX6_load 35 = .ok (.ldc2_w 129, 3) := by decide +kernel
theorem dX6_load_38 : decode cX6_load 38 = .ok (.lreturn, 1) := by decide +kernel
theorem dX6_load_39 : decode cX6_load 39 = .ok (.aload_n 0, 1) := by decide +kernel
theorem dX6_load_40 : decode cX6_load 40 = .ok (.getfield 10, 3) := by decide +kernel
theorem dX6_load_43 : decode cX6_load 43 = .ok (.invokevirtual 131, 3) := by decide +kernel
theorem dX6_load_46 : decode cX6_load 46 = .ok (.aload_n 0, 1) := by decide +kernel
theorem dX6_load_47 : decode cX6_load 47 = .ok (.getfield 10, 3) := by decide +kernel
theorem dX6_load_50 : decode cX6_load 50 = .ok (.getfield 134, 3) := by decide +kernel
theorem dX6_load_53 : decode cX6_load 53 = .ok (.iload_n 1, 1) := by decide +kernel
theorem dX6_load_54 : decode cX6_load 54 = .ok (.invokestatic 138, 3) := by decide +kernel
theorem dX6_load_57 : decode cX6_load 57 = .ok (.ldc2_w 141, 3) := by decide +kernel
theorem dX6_load_60 : decode cX6_load 60 = .ok (.iload_n 2, 1) := by decide +kernel
theorem dX6_load_61 : decode cX6_load 61 = .ok (.invokestatic 143, 3) := by decide +kernel
theorem dX6_load_64 : decode cX6_load 64 = .ok (.lreturn, 1) := by decide +kernel
set_option maxRecDepth 20000 in
theorem ggX6_strain_X6_isOutside : GoodIn wsX6_strain wsX6_isOutside := goodIn_r _ [7] (by decide +kernel) (by decide +kernel)
set_option maxRecDepth 20000 in
theorem gX6_strain_X6_isOutside : GoodIn wsX6_strain (va_wsS RX6 57 yX6_isOutside wsX6_isOutside) := goodIn_app (goodIn_of _ (by decide +kernel)) ggX6_strain_X6_isOutside
set_option maxRecDepth 20000 in
theorem ggX6_strain_X5_weigh : GoodIn wsX6_strain wsX5_weigh := goodIn_r _ [12, 13, 14, 15, 6, 16, 17, 18, 19, 11, 20, 21, 22, 23, 24, 25, 26, 27, 28, 29, 30, 31, 32, 33, 34, 35, 36, 37, 38, 39, 40, 41, 42, 43, 44, 45, 46, 47, 48, 49, 50, 51, 52, 53, 54, 84, 85, 86, 87, 88, 89, 90, 91, 92, 93, 94] (by decide +kernel) (by decide +kernel)
set_option maxRecDepth 20000 in
theorem gX6_strain_X5_weigh : GoodIn wsX6_strain (wsV RX6 131 RX5 yX5_weigh wsX5_weigh) := goodIn_app (goodIn_of _ (by decide +kernel)) ggX6_strain_X5_weigh
set_option maxRecDepth 20000 in
theorem ggX6_strain_X5_mostStrained : GoodIn wsX6_strain wsX5_mostStrained := goodIn_r _ [58, 59, 28, 29, 30, 11, 31, 32, 33, 6, 34, 26, 27, 60, 61, 62, 63, 13, 48, 49, 64, 65, 66, 67, 84, 85, 86, 87, 88, 89, 90, 91, 92, 93, 94] (by decide +kernel) (by decide +kernel)
set_option maxRecDepth 20000 in
theorem gX6_strain_X5_mostStrained : GoodIn wsX6_strain (wsV RX6 147 RX5 yX5_mostStrained wsX5_mostStrained) := goodIn_app (goodIn_of _ (by decide +kernel)) ggX6_strain_X5_mostStrained
set_option maxRecDepth 20000 in
theorem ggX6_strain_X5_strainUpper : GoodIn wsX6_strain wsX5_strainUpper := goodIn_r _ [63, 13, 48, 6, 49, 84, 85, 86, 87, 88, 89, 90, 91, 92, 93, 94] (by decide +kernel) (by decide +kernel)
set_option maxRecDepth 20000 in
theorem gX6_strain_X5_strainUpper : GoodIn wsX6_strain (wsV RX6 150 RX5 yX5_strainUpper wsX5_strainUpper) := goodIn_app (goodIn_of _ (by decide +kernel)) ggX6_strain_X5_strainUpper
set_option maxRecDepth 20000 in
theorem ggX6_strain_X5_strainLower : GoodIn wsX6_strain wsX5_strainLower := goodIn_r _ [67, 59, 26, 6, 27, 84, 85, 86, 87, 88, 89, 90, 91, 92, 93, 94] (by decide +kernel) (by decide +kernel)
set_option maxRecDepth 20000 in
theorem gX6_strain_X5_strainLower : GoodIn wsX6_strain (wsV RX6 154 RX5 yX5_strainLower wsX5_strainLower) := goodIn_app (goodIn_of _ (by decide +kernel)) ggX6_strain_X5_strainLower
set_option maxRecDepth 20000 in
theorem ggX6_strain_X6_inLowestTerms : GoodIn wsX6_strain wsX6_inLowestTerms := goodIn_r _ [72, 73, 74, 6, 75] (by decide +kernel) (by decide +kernel)
set_option maxRecDepth 20000 in
theorem gX6_strain_X6_inLowestTerms : GoodIn wsX6_strain (va_wsS RX6 143 yX6_inLowestTerms wsX6_inLowestTerms) := goodIn_app (goodIn_of _ (by decide +kernel)) ggX6_strain_X6_inLowestTerms
theorem dX6_strain_0 : decode cX6_strain 0 = .ok (.iload_n 1, 1) := by decide +kernel
theorem dX6_strain_1 : decode cX6_strain 1 = .ok (.iconst 0, 1) := by decide +kernel
theorem dX6_strain_2 : decode cX6_strain 2 = .ok (.iconst 1, 1) := by decide +kernel
theorem dX6_strain_3 : decode cX6_strain 3 = .ok (.invokestatic 57, 3) := by decide +kernel
theorem dX6_strain_6 : decode cX6_strain 6 = .ok (.ifCond .eq 7, 3) := by decide +kernel
theorem dX6_strain_9 : decode cX6_strain 9 = .ok (.ldc2_w 127, 3) := by decide +kernel
theorem dX6_strain_12 : decode cX6_strain 12 = .ok (.lreturn, 1) := by decide +kernel
theorem dX6_strain_13 : decode cX6_strain 13 = .ok (.aload_n 0, 1) := by decide +kernel
theorem dX6_strain_14 : decode cX6_strain 14 = .ok (.getfield 10, 3) := by decide +kernel
theorem dX6_strain_17 : decode cX6_strain 17 = .ok (.invokevirtual 131, 3) := by decide +kernel
theorem dX6_strain_20 : decode cX6_strain 20 = .ok (.aload_n 0, 1) := by decide +kernel
theorem dX6_strain_21 : decode cX6_strain 21 = .ok (.getfield 10, 3) := by decide +kernel
theorem dX6_strain_24 : decode cX6_strain 24 = .ok (.invokevirtual 147, 3) := by decide +kernel
theorem dX6_strain_27 : decode cX6_strain 27 = .ok (.istore_n 2, 1) := by decide +kernel
theorem dX6_strain_28 : decode cX6_strain 28 = .ok (.aload_n 0, 1) := by decide +kernel
theorem dX6_strain_29 : decode cX6_strain 29 = .ok (.getfield 10, 3) := by decide +kernel
theorem dX6_strain_32 : decode cX6_strain 32 = .ok (.iload_n 2, 1) := by decide +kernel
theorem dX6_strain_33 : decode cX6_strain 33 = .ok (.invokevirtual 150, 3) := by decide +kernel
theorem dX6_strain_36 : decode cX6_strain 36 = .ok (.aload_n 0, 1) := by decide +kernel
theorem dX6_strain_37 : decode cX6_strain 37 = .ok (.getfield 10, 3) := by decide +kernel
theorem dX6_strain_40 : decode cX6_strain 40 = .ok (.iload_n 2, 1) := by decide +kernel
theorem dX6_strain_41 : decode cX6_strain 41 = .ok (.invokevirtual 154, 3) := by decide +kernel
theorem dX6_strain_44 : decode cX6_strain 44 = .ok (.ldc2_w 141, 3) := by decide +kernel
theorem dX6_strain_47 : decode cX6_strain 47 = .ok (.lmul, 1) := by decide +kernel
theorem dX6_strain_48 : decode cX6_strain 48 = .ok (.iload_n 1, 1) := by decide +kernel
theorem dX6_strain_49 : decode cX6_strain 49 = .ok (.invokestatic 143, 3) := by decide +kernel
theorem dX6_strain_52 : decode cX6_strain 52 = .ok (.lreturn, 1) := by decide +kernel
set_option maxRecDepth 20000 in
theorem ggX6_bulges_X5_weigh : GoodIn wsX6_bulges wsX5_weigh := goodIn_r _ [8, 9, 10, 11, 12, 13, 14, 15, 16, 7, 17, 18, 19, 20, 21, 22, 23, 24, 25, 26, 27, 28, 29, 30, 31, 32, 33, 34, 35, 36, 37, 38, 39, 40, 41, 42, 43, 44, 45, 46, 47, 48, 49, 50, 51, 63, 64, 65, 66, 67, 68, 69, 70, 71, 72, 73] (by decide +kernel) (by decide +kernel)
set_option maxRecDepth 20000 in
theorem gX6_bulges_X5_weigh : GoodIn wsX6_bulges (wsV RX6 131 RX5 yX5_weigh wsX5_weigh) := goodIn_app (goodIn_of _ (by decide +kernel)) ggX6_bulges_X5_weigh
set_option maxRecDepth 20000 in
theorem ggX6_bulges_X5_isLaid : GoodIn wsX6_bulges wsX5_isLaid := goodIn_r _ [28, 29, 30, 12, 31, 63, 64, 65, 66, 67, 68, 69, 70, 71, 72, 73] (by decide +kernel) (by decide +kernel)
set_option maxRecDepth 20000 in
theorem gX6_bulges_X5_isLaid : GoodIn wsX6_bulges (wsV RX6 76 RX5 yX5_isLaid wsX5_isLaid) := goodIn_app (goodIn_of _ (by decide +kernel)) ggX6_bulges_X5_isLaid
set_option maxRecDepth 20000 in
theorem ggX6_bulges_X6_at_ : GoodIn wsX6_bulges wsX6_at_ := goodIn_r _ [46] (by decide +kernel) (by decide +kernel)
set_option maxRecDepth 20000 in
theorem gX6_bulges_X6_at_ : GoodIn wsX6_bulges (va_wsS RX6 138 yX6_at_ wsX6_at_) := goodIn_app (goodIn_of _ (by decide +kernel)) ggX6_bulges_X6_at_
set_option maxRecDepth 20000 in
theorem ggX6_bulges_X6_at : GoodIn wsX6_bulges wsX6_at := goodIn_r _ [24] (by decide +kernel) (by decide +kernel)
set_option maxRecDepth 20000 in
theorem gX6_bulges_X6_at : GoodIn wsX6_bulges (va_wsS RX6 121 yX6_at wsX6_at) := goodIn_app (goodIn_of _ (by decide +kernel)) ggX6_bulges_X6_at
theorem dX6_bulges_0 : decode cX6_bulges 0 = .ok (.aload_n 0, 1) := by decide +kernel
theorem dX6_bulges_1 : decode cX6_bulges 1 = .ok (.getfield 10, 3) := by decide +kernel
theorem dX6_bulges_4 : decode cX6_bulges 4 = .ok (.invokevirtual 131, 3) := by decide +kernel
theorem dX6_bulges_7 : decode cX6_bulges 7 = .ok (.iconst 0, 1) := by decide +kernel
theorem dX6_bulges_8 : decode cX6_bulges 8 = .ok (.istore_n 1, 1) := by decide +kernel
theorem dX6_bulges_9 : decode cX6_bulges 9 = .ok (.iconst 0, 1) := by decide +kernel
theorem dX6_bulges_10 : decode cX6_bulges 10 = .ok (.istore_n 2, 1) := by decide +kernel
theorem dX6_bulges_11 : decode cX6_bulges 11 = .ok (.iload_n 2, 1) := by decide +kernel
theorem dX6_bulges_12 : decode cX6_bulges 12 = .ok (.bipush 10, 2) := by decide +kernel
theorem dX6_bulges_14 : decode cX6_bulges 14 = .ok (.if_icmp .ge 61, 3) := by decide +kernel
theorem dX6_bulges_17 : decode cX6_bulges 17 = .ok (.aload_n 0, 1) := by decide +kernel
theorem dX6_bulges_18 : decode cX6_bulges 18 = .ok (.getfield 10, 3) := by decide +kernel
theorem dX6_bulges_21 : decode cX6_bulges 21 = .ok (.iload_n 2, 1) := by decide +kernel
theorem dX6_bulges_22 : decode cX6_bulges 22 = .ok (.invokevirtual 76, 3) := by decide +kernel
theorem dX6_bulges_25 : decode cX6_bulges 25 = .ok (.ifCond .eq 44, 3) := by decide +kernel
theorem dX6_bulges_28 : decode cX6_bulges 28 = .ok (.ldc2_w 157, 3) := by decide +kernel
theorem dX6_bulges_31 : decode cX6_bulges 31 = .ok (.aload_n 0, 1) := by decide +kernel
theorem dX6_bulges_32 : decode cX6_bulges 32 = .ok (.getfield 10, 3) := by decide +kernel
theorem dX6_bulges_35 : decode cX6_bulges 35 = .ok (.getfield 134, 3) := by decide +kernel
theorem dX6_bulges_38 : decode cX6_bulges 38 = .ok (.iload_n 2, 1) := by decide +kernel
theorem dX6_bulges_39 : decode cX6_bulges 39 = .ok (.invokestatic 138, 3) := by decide +kernel
theorem dX6_bulges_42 : decode cX6_bulges 42 = .ok (.lmul, 1) := by decide +kernel
theorem dX6_bulges_43 : decode cX6_bulges 43 = .ok (.ldc2_w 159, 3) := by decide +kernel
theorem dX6_bulges_46 : decode cX6_bulges 46 = .ok (.aload_n 0, 1) := by decide +kernel
theorem dX6_bulges_47 : decode cX6_bulges 47 = .ok (.getfield 10, 3) := by decide +kernel
theorem dX6_bulges_50 : decode cX6_bulges 50 = .ok (.getfield 161, 3) := by decide +kernel
theorem dX6_bulges_53 : decode cX6_bulges 53 = .ok (.iload_n 2, 1) := by decide +kernel
theorem dX6_bulges_54 : decode cX6_bulges 54 = .ok (.invokestatic 121, 3) := by decide +kernel
theorem dX6_bulges_57 : decode cX6_bulges 57 = .ok (.i2l, 1) := by decide +kernel
theorem dX6_bulges_58 : decode cX6_bulges 58 = .ok (.lmul, 1) := by decide +kernel
theorem dX6_bulges_59 : decode cX6_bulges 59 = .ok (.lcmp, 1) := by decide +kernel
theorem dX6_bulges_60 : decode cX6_bulges 60 = .ok (.ifCond .le 9, 3) := by decide +kernel
theorem dX6_bulges_63 : decode cX6_bulges 63 = .ok (.iload_n 1, 1) := by decide +kernel
theorem dX6_bulges_64 : decode cX6_bulges 64 = .ok (.iconst 1, 1) := by decide +kernel
theorem dX6_bulges_65 : decode cX6_bulges 65 = .ok (.iload_n 2, 1) := by decide +kernel
theorem dX6_bulges_66 : decode cX6_bulges 66 = .ok (.ishl, 1) := by decide +kernel
theorem dX6_bulges_67 : decode cX6_bulges 67 = .ok (.ior, 1) := by decide +kernel
theorem dX6_bulges_68 : decode cX6_bulges 68 = .ok (.istore_n 1, 1) := by decide +kernel
theorem dX6_bulges_69 : decode cX6_bulges 69 = .ok (.iinc 2 1, 3) := by decide +kernel
theorem dX6_bulges_72 : decode cX6_bulges 72 = .ok (.goto (-61), 3) := by decide +kernel
theorem dX6_bulges_75 : decode cX6_bulges 75 = .ok (.iload_n 1, 1) := by decide +kernel
theorem dX6_bulges_76 : decode cX6_bulges 76 = .ok (.ireturn, 1) := by decide +kernel
set_option maxRecDepth 20000 in
theorem ggX6_touch_X5_areSideBySide : GoodIn wsX6_touch wsX5_areSideBySide := goodIn_r _ [6, 7, 8, 9, 10, 11, 12, 13, 14, 15, 16, 5, 17, 18, 19, 20, 21, 22, 23, 32, 33, 34, 35, 36, 37, 38, 39, 40, 41, 42] (by decide +kernel) (by decide +kernel)
set_option maxRecDepth 20000 in
theorem gX6_touch_X5_areSideBySide : GoodIn wsX6_touch (wsV RX6 164 RX5 yX5_areSideBySide wsX5_areSideBySide) := goodIn_app (goodIn_of _ (by decide +kernel)) ggX6_touch_X5_areSideBySide
theorem dX6_touch_0 : decode cX6_touch 0 = .ok (.iconst 0, 1) := by decide +kernel
theorem dX6_touch_1 : decode cX6_touch 1 = .ok (.istore_n 2, 1) := by decide +kernel
theorem dX6_touch_2 : decode cX6_touch 2 = .ok (.iconst 0, 1) := by decide +kernel
theorem dX6_touch_3 : decode cX6_touch 3 = .ok (.istore_n 3, 1) := by decide +kernel
theorem dX6_touch_4 : decode cX6_touch 4 = .ok (.iload_n 3, 1) := by decide +kernel
theorem dX6_touch_5 : decode cX6_touch 5 = .ok (.bipush 10, 2) := by decide +kernel
theorem dX6_touch_7 : decode cX6_touch 7 = .ok (.if_icmp .ge 56, 3) := by decide +kernel
theorem dX6_touch_10 : decode cX6_touch 10 = .ok (.iload_n 3, 1) := by decide +kernel
theorem dX6_touch_11 : decode cX6_touch 11 = .ok (.iconst 1, 1) := by decide +kernel
theorem dX6_touch_12 : decode cX6_touch 12 = .ok (.iadd, 1) := by decide +kernel
theorem dX6_touch_13 : decode cX6_touch 13 = .ok (.istore 4, 2) := by decide +kernel
theorem dX6_touch_15 : decode cX6_touch 15 = .ok (.iload 4, 2) := by decide +kernel
theorem dX6_touch_17 : decode cX6_touch 17 = .ok (.bipush 10, 2) := by decide +kernel
theorem dX6_touch_19 : decode cX6_touch 19 = .ok (.if_icmp .ge 38, 3) := by decide +kernel
theorem dX6_touch_22 : decode cX6_touch 22 = .ok (.aload_n 0, 1) := by decide +kernel
theorem dX6_touch_23 : decode cX6_touch 23 = .ok (.getfield 10, 3) := by decide +kernel
theorem dX6_touch_26 : decode cX6_touch 26 = .ok (.iload_n 3, 1) := by decide +kernel
theorem dX6_touch_27 : decode cX6_touch 27 = .ok (.iload 4, 2) := by decide +kernel
theorem dX6_touch_29 : decode cX6_touch 29 = .ok (.invokevirtual 164, 3) := by decide +kernel
theorem dX6_touch_32 : decode cX6_touch 32 = .ok (.ifCond .eq 19, 3) := by decide +kernel
theorem dX6_touch_35 : decode cX6_touch 35 = .ok (.iload_n 2, 1) := by decide +kernel
theorem dX6_touch_36 : decode cX6_touch 36 = .ok (.iload_n 1, 1) := by decide +kernel
theorem dX6_touch_37 : decode cX6_touch 37 = .ok (.if_icmp .ne 11, 3) := by decide +kernel
theorem dX6_touch_40 : decode cX6_touch 40 = .ok (.bipush 10, 2) := by decide +kernel
theorem dX6_touch_42 : decode cX6_touch 42 = .ok (.iload_n 3, 1) := by decide +kernel
theorem dX6_touch_43 : decode cX6_touch 43 = .ok (.imul, 1) := by decide +kernel
theorem dX6_touch_44 : decode cX6_touch 44 = .ok (.iload 4, 2) := by decide +kernel
theorem dX6_touch_46 : decode cX6_touch 46 = .ok (.iadd, 1) := by decide +kernel
theorem dX6_touch_47 : decode cX6_touch 47 = .ok (.ireturn, 1) := by decide +kernel
theorem dX6_touch_48 : decode cX6_touch 48 = .ok (.iinc 2 1, 3) := by decide +kernel
theorem dX6_touch_51 : decode cX6_touch 51 = .ok (.iinc 4 1, 3) := by decide +kernel
theorem dX6_touch_54 : decode cX6_touch 54 = .ok (.goto (-39), 3) := by decide +kernel
theorem dX6_touch_57 : decode cX6_touch 57 = .ok (.iinc 3 1, 3) := by decide +kernel
theorem dX6_touch_60 : decode cX6_touch 60 = .ok (.goto (-56), 3) := by decide +kernel
theorem dX6_touch_63 : decode cX6_touch 63 = .ok (.iload_n 1, 1) := by decide +kernel
theorem dX6_touch_64 : decode cX6_touch 64 = .ok (.iconst (-1), 1) := by decide +kernel
theorem dX6_touch_65 : decode cX6_touch 65 = .ok (.if_icmp .ne 7, 3) := by decide +kernel
theorem dX6_touch_68 : decode cX6_touch 68 = .ok (.iload_n 2, 1) := by decide +kernel
theorem dX6_touch_69 : decode cX6_touch 69 = .ok (.goto 5, 3) := by decide +kernel
theorem dX6_touch_72 : decode cX6_touch 72 = .ok (.bipush (-6), 2) := by decide +kernel
theorem dX6_touch_74 : decode cX6_touch 74 = .ok (.ireturn, 1) := by decide +kernel
set_option maxRecDepth 20000 in
theorem ggX6_gaps_X6_isNoColumn : GoodIn wsX6_gaps wsX6_isNoColumn := goodIn_r _ [6, 1, 7, 8, 5, 9, 22, 23, 24, 25, 26, 27, 28, 29, 30, 31, 32, 33, 34, 35, 36, 37, 38, 39, 40] (by decide +kernel) (by decide +kernel)
set_option maxRecDepth 20000 in
theorem gX6_gaps_X6_isNoColumn : GoodIn wsX6_gaps (wsV RX6 114 RX6 yX6_isNoColumn wsX6_isNoColumn) := goodIn_app (goodIn_of _ (by decide +kernel)) ggX6_gaps_X6_isNoColumn
set_option maxRecDepth 20000 in
theorem ggX6_gaps_X5_emptyCells : GoodIn wsX6_gaps wsX5_emptyCells := goodIn_r _ [14, 15, 16, 17, 5, 18, 19, 20, 13, 21, 30, 31, 32, 33, 34, 35, 36, 37, 38, 39, 40] (by decide +kernel) (by decide +kernel)
set_option maxRecDepth 20000 in
theorem gX6_gaps_X5_emptyCells : GoodIn wsX6_gaps (wsV RX6 168 RX5 yX5_emptyCells wsX5_emptyCells) := goodIn_app (goodIn_of _ (by decide +kernel)) ggX6_gaps_X5_emptyCells
theorem dX6_gaps_0 : decode cX6_gaps 0 = .ok (.iload_n 1, 1) := by decide +kernel
theorem dX6_gaps_1 : decode cX6_gaps 1 = .ok (.iconst (-1), 1) := by decide +kernel
theorem dX6_gaps_2 : decode cX6_gaps 2 = .ok (.if_icmp .eq 13, 3) := by decide +kernel
theorem dX6_gaps_5 : decode cX6_gaps 5 = .ok (.aload_n 0, 1) := by decide +kernel
theorem dX6_gaps_6 : decode cX6_gaps 6 = .ok (.iload_n 1, 1) := by decide +kernel
theorem dX6_gaps_7 : decode cX6_gaps 7 = .ok (.invokevirtual 114, 3) := by decide +kernel
theorem dX6_gaps_10 : decode cX6_gaps 10 = .ok (.ifCond .eq 5, 3) := by decide +kernel
theorem dX6_gaps_13 : decode cX6_gaps 13 = .ok (.iconst (-1), 1) := by decide +kernel
theorem dX6_gaps_14 : decode cX6_gaps 14 = .ok (.ireturn, 1) := by decide +kernel
theorem dX6_gaps_15 : decode cX6_gaps 15 = .ok (.iconst 0, 1) := by decide +kernel
theorem dX6_gaps_16 : decode cX6_gaps 16 = .ok (.istore_n 2, 1) := by decide +kernel
theorem dX6_gaps_17 : decode cX6_gaps 17 = .ok (.aload_n 0, 1) := by decide +kernel
theorem dX6_gaps_18 : decode cX6_gaps 18 = .ok (.getfield 10, 3) := by decide +kernel
theorem dX6_gaps_21 : decode cX6_gaps 21 = .ok (.getfield 61, 3) := by decide +kernel
theorem dX6_gaps_24 : decode cX6_gaps 24 = .ok (.istore_n 3, 1) := by decide +kernel
theorem dX6_gaps_25 : decode cX6_gaps 25 = .ok (.iconst 0, 1) := by decide +kernel
theorem dX6_gaps_26 : decode cX6_gaps 26 = .ok (.istore 4, 2) := by decide +kernel
theorem dX6_gaps_28 : decode cX6_gaps 28 = .ok (.iload 4, 2) := by decide +kernel
theorem dX6_gaps_30 : decode cX6_gaps 30 = .ok (.iload_n 3, 1) := by decide +kernel
theorem dX6_gaps_31 : decode cX6_gaps 31 = .ok (.if_icmp .ge 32, 3) := by decide +kernel
theorem dX6_gaps_34 : decode cX6_gaps 34 = .ok (.iload_n 1, 1) := by decide +kernel
theorem dX6_gaps_35 : decode cX6_gaps 35 = .ok (.iconst (-1), 1) := by decide +kernel
theorem dX6_gaps_36 : decode cX6_gaps 36 = .ok (.if_icmp .eq 9, 3) := by decide +kernel
theorem dX6_gaps_39 : decode cX6_gaps 39 = .ok (.iload_n 1, 1) := by decide +kernel
theorem dX6_gaps_40 : decode cX6_gaps 40 = .ok (.iload 4, 2) := by decide +kernel
theorem dX6_gaps_42 : decode cX6_gaps 42 = .ok (.if_icmp .ne 15, 3) := by decide +kernel
theorem dX6_gaps_45 : decode cX6_gaps 45 = .ok (.iload_n 2, 1) := by decide +kernel
theorem dX6_gaps_46 : decode cX6_gaps 46 = .ok (.aload_n 0, 1) := by decide +kernel
theorem dX6_gaps_47 : decode cX6_gaps 47 = .ok (.getfield 10, 3) := by decide +kernel
theorem dX6_gaps_50 : decode cX6_gaps 50 = .ok (.iload 4, 2) := by decide +kernel
theorem dX6_gaps_52 : decode cX6_gaps 52 = .ok (.invokevirtual 168, 3) := by decide +kernel
theorem dX6_gaps_55 : decode cX6_gaps 55 = .ok (.iadd, 1) := by decide +kernel
theorem dX6_gaps_56 : decode cX6_gaps 56 = .ok (.istore_n 2, 1) := by decide +kernel
theorem dX6_gaps_57 : decode cX6_gaps 57 = .ok (.iinc 4 1, 3) := by decide +kernel
theorem dX6_gaps_60 : decode cX6_gaps 60 = .ok (.goto (-32), 3) := by decide +kernel
theorem dX6_gaps_63 : decode cX6_gaps 63 = .ok (.iload_n 2, 1) := by decide +kernel
theorem dX6_gaps_64 : decode cX6_gaps 64 = .ok (.ireturn, 1) := by decide +kernel
set_option maxRecDepth 20000 in
theorem ggX6_where_X6_isNoGuest : GoodIn wsX6_where wsX6_isNoGuest := goodIn_r _ [6, 7, 8, 5, 9] (by decide +kernel) (by decide +kernel)
set_option maxRecDepth 20000 in
theorem gX6_where_X6_isNoGuest : GoodIn wsX6_where (va_wsS RX6 72 yX6_isNoGuest wsX6_isNoGuest) := goodIn_app (goodIn_of _ (by decide +kernel)) ggX6_where_X6_isNoGuest
set_option maxRecDepth 20000 in
theorem ggX6_where_X5_isFree : GoodIn wsX6_where wsX5_isFree := goodIn_r _ [14, 15, 16, 17, 13, 18, 19, 20, 21, 5, 22, 136, 137, 138, 139, 140, 141, 142, 143, 144, 145, 146] (by decide +kernel) (by decide +kernel)
set_option maxRecDepth 20000 in
theorem gX6_where_X5_isFree : GoodIn wsX6_where (wsV RX6 171 RX5 yX5_isFree wsX5_isFree) := goodIn_app (goodIn_of _ (by decide +kernel)) ggX6_where_X5_isFree
set_option maxRecDepth 20000 in
theorem ggX6_where_X5_become : GoodIn wsX6_where wsX5_become := goodIn_r _ [26, 27, 19, 20, 28, 29, 30, 31, 32, 33, 34, 35, 5, 36, 37, 38, 39, 40, 41, 42, 43, 44, 136, 137, 138, 139, 140, 141, 142, 143, 144, 145, 146] (by decide +kernel) (by decide +kernel)
set_option maxRecDepth 20000 in
theorem gX6_where_X5_become : GoodIn wsX6_where (wsV RX6 106 RX5 yX5_become wsX5_become) := goodIn_app (goodIn_of _ (by decide +kernel)) ggX6_where_X5_become
set_option maxRecDepth 20000 in
theorem ggX6_where_X5_put : GoodIn wsX6_where wsX5_put := goodIn_r _ [48, 28, 27, 49, 11, 12, 13, 14, 15, 16, 17, 18, 19, 20, 21, 5, 22, 50, 51, 52, 53, 54, 55, 34, 56, 57, 39, 58, 59, 60, 61, 62, 33, 63, 64, 65, 66, 31, 32, 67, 68, 69, 70, 71, 72, 73, 74, 75, 76, 77, 78, 79, 80, 81, 82, 83, 84, 85, 86, 87, 88, 89, 90, 29, 91, 92, 93, 94, 95, 96, 97, 98, 99, 100, 101, 102, 103, 30, 104, 105, 106, 107, 108, 109, 110, 111, 136, 137, 138, 139, 140, 141, 142, 143, 144, 145, 146] (by decide +kernel) (by decide +kernel)
set_option maxRecDepth 20000 in
theorem gX6_where_X5_put : GoodIn wsX6_where (wsV RX6 174 RX5 yX5_put wsX5_put) := goodIn_app (goodIn_of _ (by decide +kernel)) ggX6_where_X5_put
set_option maxRecDepth 20000 in
theorem ggX6_where_X5_weigh : GoodIn wsX6_where wsX5_weigh := goodIn_r _ [75, 76, 31, 77, 5, 78, 79, 80, 81, 13, 82, 34, 56, 57, 39, 58, 50, 51, 83, 84, 85, 86, 20, 21, 22, 87, 88, 89, 90, 28, 32, 29, 91, 33, 59, 60, 61, 62, 92, 93, 69, 70, 71, 94, 95, 136, 137, 138, 139, 140, 141, 142, 143, 144, 145, 146] (by decide +kernel) (by decide +kernel)
set_option maxRecDepth 20000 in
theorem gX6_where_X5_weigh : GoodIn wsX6_where (wsV RX6 131 RX5 yX5_weigh wsX5_weigh) := goodIn_app (goodIn_of _ (by decide +kernel)) ggX6_where_X5_weigh
set_option maxRecDepth 20000 in
theorem ggX6_where_X5_mostStrained : GoodIn wsX6_where wsX5_mostStrained := goodIn_r _ [116, 30, 83, 84, 85, 13, 86, 20, 21, 5, 22, 50, 51, 117, 118, 119, 120, 76, 92, 93, 121, 122, 123, 124, 136, 137, 138, 139, 140, 141, 142, 143, 144, 145, 146] (by decide +kernel) (by decide +kernel)
set_option maxRecDepth 20000 in
theorem gX6_where_X5_mostStrained : GoodIn wsX6_where (wsV RX6 147 RX5 yX5_mostStrained wsX5_mostStrained) := goodIn_app (goodIn_of _ (by decide +kernel)) ggX6_where_X5_mostStrained
set_option maxRecDepth 20000 in
theorem ggX6_where_X5_strainUpper : GoodIn wsX6_where wsX5_strainUpper := goodIn_r _ [120, 76, 92, 5, 93, 136, 137, 138, 139, 140, 141, 142, 143, 144, 145, 146] (by decide +kernel) (by decide +kernel)
set_option maxRecDepth 20000 in
theorem gX6_where_X5_strainUpper : GoodIn wsX6_where (wsV RX6 150 RX5 yX5_strainUpper wsX5_strainUpper) := goodIn_app (goodIn_of _ (by decide +kernel)) ggX6_where_X5_strainUpper
set_option maxRecDepth 20000 in
theorem ggX6_where_X5_strainLower : GoodIn wsX6_where wsX5_strainLower := goodIn_r _ [124, 30, 50, 5, 51, 136, 137, 138, 139, 140, 141, 142, 143, 144, 145, 146] (by decide +kernel) (by decide +kernel)
set_option maxRecDepth 20000 in
theorem gX6_where_X5_strainLower : GoodIn wsX6_where (wsV RX6 154 RX5 yX5_strainLower wsX5_strainLower) := goodIn_app (goodIn_of _ (by decide +kernel)) ggX6_where_X5_strainLower
set_option maxRecDepth 20000 in
theorem ggX6_where_X5_lift : GoodIn wsX6_where wsX5_lift := goodIn_r _ [107, 20, 31, 32, 28, 33, 34, 83, 84, 85, 13, 86, 21, 5, 22, 50, 51, 69, 70, 71, 67, 68, 108, 109, 110, 111, 136, 137, 138, 139, 140, 141, 142, 143, 144, 145, 146] (by decide +kernel) (by decide +kernel)
set_option maxRecDepth 20000 in
theorem gX6_where_X5_lift : GoodIn wsX6_where (wsV RX6 177 RX5 yX5_lift wsX5_lift) := goodIn_app (goodIn_of _ (by decide +kernel)) ggX6_where_X5_lift
theorem dX6_where_0 : decode cX6_where 0 = .ok (.iload_n 1, 1) := by decide +kernel
theorem dX6_where_1 : decode cX6_where 1 = .ok (.invokestatic 72, 3) := by decide +kernel
theorem dX6_where_4 : decode cX6_where 4 = .ok (.ifCond .eq 5, 3) := by decide +kernel
theorem dX6_where_7 : decode cX6_where 7 = .ok (.iconst (-1), 1) := by decide +kernel
theorem dX6_where_8 : decode cX6_where 8 = .ok (.ireturn, 1) := by decide +kernel
theorem dX6_where_9 : decode cX6_where 9 = .ok (.aload_n 0, 1) := by decide +kernel
theorem dX6_where_10 : decode cX6_where 10 = .ok (.getfield 10, 3) := by decide +kernel
theorem dX6_where_13 : decode cX6_where 13 = .ok (.iload_n 1, 1) := by decide +kernel
theorem dX6_where_14 : decode cX6_where 14 = .ok (.invokevirtual 171, 3) := by decide +kernel
theorem dX6_where_17 : decode cX6_where 17 = .ok (.ifCond .ne 6, 3) := by decide +kernel
theorem dX6_where_20 : decode cX6_where 20 = .ok (.bipush (-3), 2) := by decide +kernel
theorem dX6_where_22 : decode cX6_where 22 = .ok (.ireturn, 1) := by decide +kernel
theorem dX6_where_23 : decode cX6_where 23 = .ok (.aload_n 0, 1) := by decide +kernel
theorem dX6_where_24 : decode cX6_where 24 = .ok (.getfield 16, 3) := by decide +kernel
theorem dX6_where_27 : decode cX6_where 27 = .ok (.aload_n 0, 1) := by decide +kernel
theorem dX6_where_28 : decode cX6_where 28 = .ok (.getfield 10, 3) := by decide +kernel
theorem dX6_where_31 : decode cX6_where 31 = .ok (.invokevirtual 106, 3) := by decide +kernel
theorem dX6_where_34 : decode cX6_where 34 = .ok (.bipush (-6), 2) := by decide +kernel
theorem dX6_where_36 : decode cX6_where 36 = .ok (.istore_n 2, 1) := by decide +kernel
theorem dX6_where_37 : decode cX6_where 37 = .ok (.lconst 0, 1) := by decide +kernel
theorem dX6_where_38 : decode cX6_where 38 = .ok (.lstore_n 3, 1) := by decide +kernel
theorem dX6_where_39 : decode cX6_where 39 = .ok (.lconst 1, 1) := by decide +kernel
theorem dX6_where_40 : decode cX6_where 40 = .ok (.lstore 5, 2) := by decide +kernel
theorem dX6_where_42 : decode cX6_where 42 = .ok (.aload_n 0, 1) := by decide +kernel
theorem dX6_where_43 : decode cX6_where 43 = .ok (.getfield 16, 3) := by decide +kernel
theorem dX6_where_46 : decode cX6_where 46 = .ok (.getfield 61, 3) := by decide +kernel
theorem dX6_where_49 : decode cX6_where 49 = .ok (.istore 7, 2) := by decide +kernel
theorem dX6_where_51 : decode cX6_where 51 = .ok (.iconst 0, 1) := by decide +kernel
theorem dX6_where_52 : decode cX6_where 52 = .ok (.istore 8, 2) := by decide +kernel
theorem dX6_where_54 : decode cX6_where 54 = .ok (.iload 8, 2) := by decide +kernel
theorem dX6_where_56 : decode cX6_where 56 = .ok (.iload 7, 2) := by decide +kernel
theorem dX6_where_58 : decode cX6_where 58 = .ok (.if_icmp .ge 97, 3) := by decide +kernel
theorem dX6_where_61 : decode cX6_where 61 = .ok (.aload_n 0, 1) := by decide +kernel
theorem dX6_where_62 : decode cX6_where 62 = .ok (.getfield 16, 3) := by decide +kernel
theorem dX6_where_65 : decode cX6_where 65 = .ok (.iload_n 1, 1) := by decide +kernel
theorem dX6_where_66 : decode cX6_where 66 = .ok (.iload 8, 2) := by decide +kernel
theorem dX6_where_68 : decode cX6_where 68 = .ok (.invokevirtual 174, 3) := by decide +kernel
theorem dX6_where_71 : decode cX6_where 71 = .ok (.ifCond .ne 78, 3) := by decide +kernel
theorem dX6_where_74 : decode cX6_where 74 = .ok (.aload_n 0, 1) := by decide +kernel
theorem dX6_where_75 : decode cX6_where 75 = .ok (.getfield 16, 3) := by decide +kernel
theorem dX6_where_78 : decode cX6_where 78 = .ok (.invokevirtual 131, 3) := by decide +kernel
theorem dX6_where_81 : decode cX6_where 81 = .ok (.aload_n 0, 1) := by decide +kernel
theorem dX6_where_82 : decode cX6_where 82 = .ok (.getfield 16, 3) := by decide +kernel
theorem dX6_where_85 : decode cX6_where 85 = .ok (.invokevirtual 147, 3) := by decide +kernel
theorem dX6_where_88 : decode cX6_where 88 = .ok (.istore 9, 2) := by decide +kernel
theorem dX6_where_90 : decode cX6_where 90 = .ok (.aload_n 0, 1) := by decide +kernel
theorem dX6_where_91 : decode cX6_where 91 = .ok (.getfield 16, 3) := by decide +kernel
theorem dX6_where_94 : decode cX6_where 94 = .ok (.iload 9, 2) := by decide +kernel
theorem dX6_where_96 : decode cX6_where 96 = .ok (.invokevirtual 150, 3) := by decide +kernel
theorem dX6_where_99 : decode cX6_where 99 = .ok (.lstore 10, 2) := by decide +kernel
theorem dX6_where_101 : decode cX6_where 101 = .ok (.aload_n 0, 1) := by decide +kernel
theorem dX6_where_102 : decode cX6_where 102 = .ok (.getfield 16, 3) := by decide +kernel
theorem dX6_where_105 : decode cX6_where 105 = .ok (.iload 9, 2) := by decide +kernel
theorem dX6_where_107 : decode cX6_where 107 = .ok (.invokevirtual 154, 3) := by decide +kernel
theorem dX6_where_110 : decode cX6_where 110 = .ok (.lstore 12, 2) := by decide +kernel
theorem dX6_where_112 : decode cX6_where 112 = .ok (.iload_n 2, 1) := by decide +kernel
theorem dX6_where_113 : decode cX6_where 113 = .ok (.bipush (-6), 2) := by decide +kernel
theorem dX6_where_115 : decode cX6_where 115 = .ok (.if_icmp .eq 16, 3) := by decide +kernel
theorem dX6_where_118 : decode cX6_where 118 = .ok (.lload 10, 2) := by decide +kernel
theorem dX6_where_120 : decode cX6_where 120 = .ok (.lload 5, 2) := by decide +kernel
theorem dX6_where_122 : decode cX6_where 122 = .ok (.lmul, 1) := by decide +kernel
theorem dX6_where_123 : decode cX6_where 123 = .ok (.lload_n 3, 1) := by decide +kernel
theorem dX6_where_124 : decode cX6_where 124 = .ok (.lload 12, 2) := by decide +kernel
theorem dX6_where_126 : decode cX6_where 126 = .ok (.lmul, 1) := by decide +kernel
theorem dX6_where_127 : decode cX6_where 127 = .ok (.lcmp, 1) := by decide +kernel
theorem dX6_where_128 : decode cX6_where 128 = .ok (.ifCond .ge 13, 3) := by decide +kernel
theorem dX6_where_131 : decode cX6_where 131 = .ok (.iload 8, 2) := by decide +kernel
theorem dX6_where_133 : decode cX6_where 133 = .ok (.istore_n 2, 1) := by decide +kernel
theorem dX6_where_134 : decode cX6_where 134 = .ok (.lload 10, 2) := by decide +kernel
theorem dX6_where_136 : decode cX6_where 136 = .ok (.lstore_n 3, 1) := by decide +kernel
theorem dX6_where_137 : decode cX6_where 137 = .ok (.lload 12, 2) := by decide +kernel
theorem dX6_where_139 : decode cX6_where 139 = .ok (.lstore 5, 2) := by decide +kernel
theorem dX6_where_141 : decode cX6_where 141 = .ok (.aload_n 0, 1) := by decide +kernel
theorem dX6_where_142 : decode cX6_where 142 = .ok (.getfield 16, 3) := by decide +kernel
theorem dX6_where_145 : decode cX6_where 145 = .ok (.iload_n 1, 1) := by decide +kernel
theorem dX6_where_146 : decode cX6_where 146 = .ok (.invokevirtual 177, 3) := by decide +kernel
theorem dX6_where_149 : decode cX6_where 149 = .ok (.iinc 8 1, 3) := by decide +kernel
theorem dX6_where_152 : decode cX6_where 152 = .ok (.goto (-98), 3) := by decide +kernel
theorem dX6_where_155 : decode cX6_where 155 = .ok (.iload_n 2, 1) := by decide +kernel
theorem dX6_where_156 : decode cX6_where 156 = .ok (.ireturn, 1) := by decide +kernel
set_option maxRecDepth 20000 in
theorem ggX6_gate_X6_isNoColumn : GoodIn wsX6_gate wsX6_isNoColumn := goodIn_r _ [7, 2, 8, 9, 6, 10, 114, 115, 116, 117, 118, 119, 120, 121, 122, 123, 124, 125, 126, 127, 128, 129, 130, 131, 132] (by decide +kernel) (by decide +kernel)
set_option maxRecDepth 20000 in
theorem gX6_gate_X6_isNoColumn : GoodIn wsX6_gate (wsV RX6 114 RX6 yX6_isNoColumn wsX6_isNoColumn) := goodIn_app (goodIn_of _ (by decide +kernel)) ggX6_gate_X6_isNoColumn
set_option maxRecDepth 20000 in
theorem ggX6_gate_X6_isOutside : GoodIn wsX6_gate wsX6_isOutside := goodIn_r _ [10] (by decide +kernel) (by decide +kernel)
set_option maxRecDepth 20000 in
theorem gX6_gate_X6_isOutside : GoodIn wsX6_gate (va_wsS RX6 57 yX6_isOutside wsX6_isOutside) := goodIn_app (goodIn_of _ (by decide +kernel)) ggX6_gate_X6_isOutside
set_option maxRecDepth 20000 in
theorem ggX6_gate_X5_become : GoodIn wsX6_gate wsX5_become := goodIn_r _ [15, 16, 17, 18, 19, 20, 21, 22, 23, 24, 25, 26, 6, 27, 28, 29, 30, 31, 32, 33, 34, 35, 122, 123, 124, 125, 126, 127, 128, 129, 130, 131, 132] (by decide +kernel) (by decide +kernel)
set_option maxRecDepth 20000 in
theorem gX6_gate_X5_become : GoodIn wsX6_gate (wsV RX6 106 RX5 yX5_become wsX5_become) := goodIn_app (goodIn_of _ (by decide +kernel)) ggX6_gate_X5_become
set_option maxRecDepth 20000 in
theorem ggX6_gate_X6_at : GoodIn wsX6_gate wsX6_at := goodIn_r _ [38] (by decide +kernel) (by decide +kernel)
set_option maxRecDepth 20000 in
theorem gX6_gate_X6_at : GoodIn wsX6_gate (va_wsS RX6 121 yX6_at wsX6_at) := goodIn_app (goodIn_of _ (by decide +kernel)) ggX6_gate_X6_at
set_option maxRecDepth 20000 in
theorem ggX6_gate_X5_put : GoodIn wsX6_gate wsX5_put := goodIn_r _ [42, 19, 16, 43, 44, 45, 14, 46, 47, 48, 49, 50, 17, 18, 51, 6, 52, 37, 38, 53, 54, 55, 56, 25, 57, 58, 30, 59, 60, 61, 62, 63, 24, 64, 65, 66, 67, 22, 23, 68, 69, 70, 71, 72, 73, 74, 75, 76, 77, 78, 79, 80, 81, 82, 83, 84, 85, 86, 87, 88, 89, 90, 91, 20, 92, 93, 94, 95, 96, 97, 98, 99, 100, 101, 102, 103, 104, 21, 105, 106, 107, 108, 109, 110, 111, 112, 122, 123, 124, 125, 126, 127, 128, 129, 130, 131, 132] (by decide +kernel) (by decide +kernel)
set_option maxRecDepth 20000 in
theorem gX6_gate_X5_put : GoodIn wsX6_gate (wsV RX6 174 RX5 yX5_put wsX5_put) := goodIn_app (goodIn_of _ (by decide +kernel)) ggX6_gate_X5_put
set_option maxRecDepth 20000 in
theorem ggX6_gate_X5_lift : GoodIn wsX6_gate wsX5_lift := goodIn_r _ [108, 18, 22, 23, 19, 24, 25, 84, 85, 86, 14, 87, 51, 6, 52, 37, 38, 70, 71, 72, 68, 69, 109, 110, 111, 112, 122, 123, 124, 125, 126, 127, 128, 129, 130, 131, 132] (by decide +kernel) (by decide +kernel)
set_option maxRecDepth 20000 in
theorem gX6_gate_X5_lift : GoodIn wsX6_gate (wsV RX6 177 RX5 yX5_lift wsX5_lift) := goodIn_app (goodIn_of _ (by decide +kernel)) ggX6_gate_X5_lift
theorem dX6_gate_0 : decode cX6_gate 0 = .ok (.aload_n 0, 1) := by decide +kernel
theorem dX6_gate_1 : decode cX6_gate 1 = .ok (.iload_n 1, 1) := by decide +kernel
theorem dX6_gate_2 : decode cX6_gate 2 = .ok (.invokevirtual 114, 3) := by decide +kernel
theorem dX6_gate_5 : decode cX6_gate 5 = .ok (.ifCond .eq 5, 3) := by decide +kernel
theorem dX6_gate_8 : decode cX6_gate 8 = .ok (.iconst (-1), 1) := by decide +kernel
theorem dX6_gate_9 : decode cX6_gate 9 = .ok (.ireturn, 1) := by decide +kernel
theorem dX6_gate_10 : decode cX6_gate 10 = .ok (.iload_n 2, 1) := by decide +kernel
theorem dX6_gate_11 : decode cX6_gate 11 = .ok (.iconst 0, 1) := by decide +kernel
theorem dX6_gate_12 : decode cX6_gate 12 = .ok (.bipush 9, 2) := by decide +kernel
theorem dX6_gate_14 : decode cX6_gate 14 = .ok (.invokestatic 57, 3) := by decide +kernel
theorem dX6_gate_17 : decode cX6_gate 17 = .ok (.ifCond .ne 12, 3) := by decide +kernel
theorem dX6_gate_20 : decode cX6_gate 20 = .ok (.iload_n 3, 1) := by decide +kernel
theorem dX6_gate_21 : decode cX6_gate 21 = .ok (.iconst 1, 1) := by decide +kernel
theorem dX6_gate_22 : decode cX6_gate 22 = .ok (.iconst 3, 1) := by decide +kernel
theorem dX6_gate_23 : decode cX6_gate 23 = .ok (.invokestatic 57, 3) := by decide +kernel
theorem dX6_gate_26 : decode cX6_gate 26 = .ok (.ifCond .eq 6, 3) := by decide +kernel
theorem dX6_gate_29 : decode cX6_gate 29 = .ok (.bipush (-2), 2) := by decide +kernel
theorem dX6_gate_31 : decode cX6_gate 31 = .ok (.ireturn, 1) := by decide +kernel
theorem dX6_gate_32 : decode cX6_gate 32 = .ok (.aload_n 0, 1) := by decide +kernel
theorem dX6_gate_33 : decode cX6_gate 33 = .ok (.getfield 16, 3) := by decide +kernel
theorem dX6_gate_36 : decode cX6_gate 36 = .ok (.aload_n 0, 1) := by decide +kernel
theorem dX6_gate_37 : decode cX6_gate 37 = .ok (.getfield 10, 3) := by decide +kernel
theorem dX6_gate_40 : decode cX6_gate 40 = .ok (.invokevirtual 106, 3) := by decide +kernel
theorem dX6_gate_43 : decode cX6_gate 43 = .ok (.iconst 0, 1) := by decide +kernel
theorem dX6_gate_44 : decode cX6_gate 44 = .ok (.istore 4, 2) := by decide +kernel
theorem dX6_gate_46 : decode cX6_gate 46 = .ok (.iconst 0, 1) := by decide +kernel
theorem dX6_gate_47 : decode cX6_gate 47 = .ok (.istore 5, 2) := by decide +kernel
theorem dX6_gate_49 : decode cX6_gate 49 = .ok (.iload 5, 2) := by decide +kernel
theorem dX6_gate_51 : decode cX6_gate 51 = .ok (.bipush 10, 2) := by decide +kernel
theorem dX6_gate_53 : decode cX6_gate 53 = .ok (.if_icmp .ge 72, 3) := by decide +kernel
theorem dX6_gate_56 : decode cX6_gate 56 = .ok (.aload_n 0, 1) := by decide +kernel
theorem dX6_gate_57 : decode cX6_gate 57 = .ok (.getfield 16, 3) := by decide +kernel
theorem dX6_gate_60 : decode cX6_gate 60 = .ok (.getfield 180, 3) := by decide +kernel
theorem dX6_gate_63 : decode cX6_gate 63 = .ok (.iload 5, 2) := by decide +kernel
theorem dX6_gate_65 : decode cX6_gate 65 = .ok (.invokestatic 121, 3) := by decide +kernel
theorem dX6_gate_68 : decode cX6_gate 68 = .ok (.iload_n 3, 1) := by decide +kernel
theorem dX6_gate_69 : decode cX6_gate 69 = .ok (.if_icmp .ne 50, 3) := by decide +kernel
theorem dX6_gate_72 : decode cX6_gate 72 = .ok (.aload_n 0, 1) := by decide +kernel
theorem dX6_gate_73 : decode cX6_gate 73 = .ok (.getfield 16, 3) := by decide +kernel
theorem dX6_gate_76 : decode cX6_gate 76 = .ok (.iload 5, 2) := by decide +kernel
theorem dX6_gate_78 : decode cX6_gate 78 = .ok (.iload_n 1, 1) := by decide +kernel
theorem dX6_gate_79 : decode cX6_gate 79 = .ok (.invokevirtual 174, 3) := by decide +kernel
theorem dX6_gate_82 : decode cX6_gate 82 = .ok (.ifCond .ne 37, 3) := by decide +kernel
theorem dX6_gate_85 : decode cX6_gate 85 = .ok (.aload_n 0, 1) := by decide +kernel
theorem dX6_gate_86 : decode cX6_gate 86 = .ok (.getfield 16, 3) := by decide +kernel
theorem dX6_gate_89 : decode cX6_gate 89 = .ok (.getfield 183, 3) := by decide +kernel
theorem dX6_gate_92 : decode cX6_gate 92 = .ok (.iload 5, 2) := by decide +kernel
theorem dX6_gate_94 : decode cX6_gate 94 = .ok (.invokestatic 121, 3) := by decide +kernel
theorem dX6_gate_97 : decode cX6_gate 97 = .ok (.iload_n 2, 1) := by decide +kernel
theorem dX6_gate_98 : decode cX6_gate 98 = .ok (.if_icmp .ne 12, 3) := by decide +kernel
theorem dX6_gate_101 : decode cX6_gate 101 = .ok (.iload 4, 2) := by decide +kernel
theorem dX6_gate_103 : decode cX6_gate 103 = .ok (.iconst 1, 1) := by decide +kernel
theorem dX6_gate_104 : decode cX6_gate 104 = .ok (.iload 5, 2) := by decide +kernel
theorem dX6_gate_106 : decode cX6_gate 106 = .ok (.ishl, 1) := by decide +kernel
theorem dX6_gate_107 : decode cX6_gate 107 = .ok (.ior, 1) := by decide +kernel
theorem dX6_gate_108 : decode cX6_gate 108 = .ok (.istore 4, 2) := by decide +kernel
theorem dX6_gate_110 : decode cX6_gate 110 = .ok (.aload_n 0, 1) := by decide +kernel
theorem dX6_gate_111 : decode cX6_gate 111 = .ok (.getfield 16, 3) := by decide +kernel
theorem dX6_gate_114 : decode cX6_gate 114 = .ok (.iload 5, 2) := by decide +kernel
theorem dX6_gate_116 : decode cX6_gate 116 = .ok (.invokevirtual 177, 3) := by decide +kernel
theorem dX6_gate_119 : decode cX6_gate 119 = .ok (.iinc 5 1, 3) := by decide +kernel
theorem dX6_gate_122 : decode cX6_gate 122 = .ok (.goto (-73), 3) := by decide +kernel
theorem dX6_gate_125 : decode cX6_gate 125 = .ok (.iload 4, 2) := by decide +kernel
theorem dX6_gate_127 : decode cX6_gate 127 = .ok (.ireturn, 1) := by decide +kernel
set_option maxRecDepth 20000 in
theorem ggX6_orders_X2_firstFault : GoodIn wsX6_orders wsX2_firstFault := goodIn_r _ [9, 10, 11, 12, 13, 14, 176, 177] (by decide +kernel) (by decide +kernel)
set_option maxRecDepth 20000 in
theorem gX6_orders_X2_firstFault : GoodIn wsX6_orders (wsV RX6 96 RX2 yX2_firstFault wsX2_firstFault) := goodIn_app (goodIn_of _ (by decide +kernel)) ggX6_orders_X2_firstFault
set_option maxRecDepth 20000 in
theorem ggX6_orders_X6_guestsWhoPut : GoodIn wsX6_orders wsX6_guestsWhoPut := goodIn_r _ [18, 1, 19, 20, 21, 8, 22, 10, 23, 24, 25, 26, 11, 12, 13, 14, 27, 28, 29, 30, 153, 154, 155, 156, 157, 158, 159, 160, 176, 177] (by decide +kernel) (by decide +kernel)
set_option maxRecDepth 20000 in
theorem gX6_orders_X6_guestsWhoPut : GoodIn wsX6_orders (wsV RX6 186 RX6 yX6_guestsWhoPut wsX6_guestsWhoPut) := goodIn_app (goodIn_of _ (by decide +kernel)) ggX6_orders_X6_guestsWhoPut
set_option maxRecDepth 20000 in
theorem ggX6_orders_X2_acts : GoodIn wsX6_orders wsX2_acts := goodIn_r _ [22, 10, 176, 177] (by decide +kernel) (by decide +kernel)
set_option maxRecDepth 20000 in
theorem gX6_orders_X2_acts : GoodIn wsX6_orders (wsV RX6 103 RX2 yX2_acts wsX2_acts) := goodIn_app (goodIn_of _ (by decide +kernel)) ggX6_orders_X2_acts
set_option maxRecDepth 20000 in
theorem ggX6_orders_X5_become : GoodIn wsX6_orders wsX5_become := goodIn_r _ [35, 36, 37, 38, 39, 40, 41, 42, 43, 44, 45, 46, 13, 47, 48, 49, 50, 51, 52, 53, 54, 55, 161, 162, 163, 164, 165, 166, 167, 168, 169, 170, 171] (by decide +kernel) (by decide +kernel)
set_option maxRecDepth 20000 in
theorem gX6_orders_X5_become : GoodIn wsX6_orders (wsV RX6 106 RX5 yX5_become wsX5_become) := goodIn_app (goodIn_of _ (by decide +kernel)) ggX6_orders_X5_become
set_option maxRecDepth 20000 in
theorem ggX6_orders_X1_start : GoodIn wsX6_orders wsX1_start := goodIn_r _ [60, 61, 62, 63, 20, 21, 8, 22, 10, 64, 24, 25, 26, 11, 12, 13, 14, 65, 28, 29, 30, 66, 67, 172, 173, 174, 175, 176, 177] (by decide +kernel) (by decide +kernel)
set_option maxRecDepth 20000 in
theorem gX6_orders_X1_start : GoodIn wsX6_orders (wsV RX6 189 RX1 yX1_start wsX1_start) := goodIn_app (goodIn_of _ (by decide +kernel)) ggX6_orders_X1_start
set_option maxRecDepth 20000 in
theorem ggX6_orders_X6_arrange : GoodIn wsX6_orders wsX6_arrange := goodIn_r _ [70, 71, 72, 73, 59, 74, 61, 75, 76, 46, 13, 47, 48, 49, 50, 51, 52, 53, 54, 55, 77, 78, 79, 80, 12, 14, 81, 82, 83, 34, 84, 39, 36, 85, 86, 87, 88, 89, 90, 91, 92, 37, 38, 93, 94, 95, 96, 45, 97, 98, 99, 100, 101, 102, 103, 44, 104, 105, 106, 107, 42, 43, 66, 67, 108, 109, 110, 111, 112, 113, 114, 115, 116, 117, 118, 119, 120, 121, 122, 123, 124, 125, 126, 127, 128, 129, 40, 130, 131, 132, 133, 134, 135, 136, 137, 138, 139, 140, 141, 142, 41, 143, 144, 145, 146, 147, 148, 149, 150, 151, 68, 69, 152, 172, 173, 174, 175, 161, 162, 163, 164, 165, 166, 167, 168, 169, 170, 171] (by decide +kernel) (by decide +kernel)
set_option maxRecDepth 20000 in
theorem gX6_orders_X6_arrange : GoodIn wsX6_orders (va_wsS RX6 193 yX6_arrange wsX6_arrange) := goodIn_app (goodIn_of _ (by decide +kernel)) ggX6_orders_X6_arrange
set_option maxRecDepth 20000 in
theorem ggX6_orders_X6_at : GoodIn wsX6_orders wsX6_at := goodIn_r _ [14] (by decide +kernel) (by decide +kernel)
set_option maxRecDepth 20000 in
theorem gX6_orders_X6_at : GoodIn wsX6_orders (va_wsS RX6 121 yX6_at wsX6_at) := goodIn_app (goodIn_of _ (by decide +kernel)) ggX6_orders_X6_at
theorem dX6_orders_0 : decode cX6_orders 0 = .ok (.aload_n 0, 1) := by decide +kernel
theorem dX6_orders_1 : decode cX6_orders 1 = .ok (.getfield 29, 3) := by decide +kernel
theorem dX6_orders_4 : decode cX6_orders 4 = .ok (.aload_n 0, 1) := by decide +kernel
theorem dX6_orders_5 : decode cX6_orders 5 = .ok (.getfield 10, 3) := by decide +kernel
theorem dX6_orders_8 : decode cX6_orders 8 = .ok (.getfield 61, 3) := by decide +kernel
theorem dX6_orders_11 : decode cX6_orders 11 = .ok (.invokevirtual 96, 3) := by decide +kernel
theorem dX6_orders_14 : decode cX6_orders 14 = .ok (.bipush (-6), 2) := by decide +kernel
theorem dX6_orders_16 : decode cX6_orders 16 = .ok (.if_icmp .eq 6, 3) := by decide +kernel
theorem dX6_orders_19 : decode cX6_orders 19 = .ok (.bipush (-5), 2) := by decide +kernel
theorem dX6_orders_21 : decode cX6_orders 21 = .ok (.ireturn, 1) := by decide +kernel
theorem dX6_orders_22 : decode cX6_orders 22 = .ok (.aload_n 0, 1) := by decide +kernel
theorem dX6_orders_23 : decode cX6_orders 23 = .ok (.invokevirtual 186, 3) := by decide +kernel
theorem dX6_orders_26 : decode cX6_orders 26 = .ok (.istore_n 2, 1) := by decide +kernel
theorem dX6_orders_27 : decode cX6_orders 27 = .ok (.iload_n 2, 1) := by decide +kernel
theorem dX6_orders_28 : decode cX6_orders 28 = .ok (.bipush (-5), 2) := by decide +kernel
theorem dX6_orders_30 : decode cX6_orders 30 = .ok (.if_icmp .ne 6, 3) := by decide +kernel
theorem dX6_orders_33 : decode cX6_orders 33 = .ok (.bipush (-5), 2) := by decide +kernel
theorem dX6_orders_35 : decode cX6_orders 35 = .ok (.ireturn, 1) := by decide +kernel
theorem dX6_orders_36 : decode cX6_orders 36 = .ok (.aload_n 0, 1) := by decide +kernel
theorem dX6_orders_37 : decode cX6_orders 37 = .ok (.getfield 29, 3) := by decide +kernel
theorem dX6_orders_40 : decode cX6_orders 40 = .ok (.invokevirtual 103, 3) := by decide +kernel
theorem dX6_orders_43 : decode cX6_orders 43 = .ok (.istore_n 3, 1) := by decide +kernel
theorem dX6_orders_44 : decode cX6_orders 44 = .ok (.iload_n 3, 1) := by decide +kernel
theorem dX6_orders_45 : decode cX6_orders 45 = .ok (.bipush 6, 2) := by decide +kernel
theorem dX6_orders_47 : decode cX6_orders 47 = .ok (.if_icmp .le 6, 3) := by decide +kernel
theorem dX6_orders_50 : decode cX6_orders 50 = .ok (.bipush (-4), 2) := by decide +kernel
theorem dX6_orders_52 : decode cX6_orders 52 = .ok (.ireturn, 1) := by decide +kernel
theorem dX6_orders_53 : decode cX6_orders 53 = .ok (.aload_n 0, 1) := by decide +kernel
theorem dX6_orders_54 : decode cX6_orders 54 = .ok (.getfield 16, 3) := by decide +kernel
theorem dX6_orders_57 : decode cX6_orders 57 = .ok (.aload_n 0, 1) := by decide +kernel
theorem dX6_orders_58 : decode cX6_orders 58 = .ok (.getfield 10, 3) := by decide +kernel
theorem dX6_orders_61 : decode cX6_orders 61 = .ok (.invokevirtual 106, 3) := by decide +kernel
theorem dX6_orders_64 : decode cX6_orders 64 = .ok (.aload_n 0, 1) := by decide +kernel
theorem dX6_orders_65 : decode cX6_orders 65 = .ok (.getfield 53, 3) := by decide +kernel
theorem dX6_orders_68 : decode cX6_orders 68 = .ok (.aload_n 0, 1) := by decide +kernel
theorem dX6_orders_69 : decode cX6_orders 69 = .ok (.getfield 29, 3) := by decide +kernel
theorem dX6_orders_72 : decode cX6_orders 72 = .ok (.invokevirtual 189, 3) := by decide +kernel
theorem dX6_orders_75 : decode cX6_orders 75 = .ok (.aload_n 0, 1) := by decide +kernel
theorem dX6_orders_76 : decode cX6_orders 76 = .ok (.getfield 16, 3) := by decide +kernel
theorem dX6_orders_79 : decode cX6_orders 79 = .ok (.aload_n 0, 1) := by decide +kernel
theorem dX6_orders_80 : decode cX6_orders 80 = .ok (.getfield 53, 3) := by decide +kernel
theorem dX6_orders_83 : decode cX6_orders 83 = .ok (.iload_n 2, 1) := by decide +kernel
theorem dX6_orders_84 : decode cX6_orders 84 = .ok (.iconst 0, 1) := by decide +kernel
theorem dX6_orders_85 : decode cX6_orders 85 = .ok (.invokestatic 193, 3) := by decide +kernel
theorem dX6_orders_88 : decode cX6_orders 88 = .ok (.iload_n 1, 1) := by decide +kernel
theorem dX6_orders_89 : decode cX6_orders 89 = .ok (.iconst (-1), 1) := by decide +kernel
theorem dX6_orders_90 : decode cX6_orders 90 = .ok (.if_icmp .ne 11, 3) := by decide +kernel
theorem dX6_orders_93 : decode cX6_orders 93 = .ok (.aload_n 0, 1) := by decide +kernel
theorem dX6_orders_94 : decode cX6_orders 94 = .ok (.getfield 53, 3) := by decide +kernel
theorem dX6_orders_97 : decode cX6_orders 97 = .ok (.getfield 197, 3) := by decide +kernel
theorem dX6_orders_100 : decode cX6_orders 100 = .ok (.ireturn, 1) := by decide +kernel
theorem dX6_orders_101 : decode cX6_orders 101 = .ok (.iload_n 1, 1) := by decide +kernel
theorem dX6_orders_102 : decode cX6_orders 102 = .ok (.ifCond .lt 22, 3) := by decide +kernel
theorem dX6_orders_105 : decode cX6_orders 105 = .ok (.iload_n 1, 1) := by decide +kernel
theorem dX6_orders_106 : decode cX6_orders 106 = .ok (.iload_n 3, 1) := by decide +kernel
theorem dX6_orders_107 : decode cX6_orders 107 = .ok (.if_icmp .ge 17, 3) := by decide +kernel
theorem dX6_orders_110 : decode cX6_orders 110 = .ok (.aload_n 0, 1) := by decide +kernel
theorem dX6_orders_111 : decode cX6_orders 111 = .ok (.getfield 53, 3) := by decide +kernel
theorem dX6_orders_114 : decode cX6_orders 114 = .ok (.getfield 197, 3) := by decide +kernel
theorem dX6_orders_117 : decode cX6_orders 117 = .ok (.ifCond .le 7, 3) := by decide +kernel
theorem dX6_orders_120 : decode cX6_orders 120 = .ok (.iconst 1, 1) := by decide +kernel
theorem dX6_orders_121 : decode cX6_orders 121 = .ok (.goto 4, 3) := by decide +kernel
theorem dX6_orders_124 : decode cX6_orders 124 = .ok (.iconst 0, 1) := by decide +kernel
theorem dX6_orders_125 : decode cX6_orders 125 = .ok (.istore 4, 2) := by decide +kernel
theorem dX6_orders_127 : decode cX6_orders 127 = .ok (.iload 4, 2) := by decide +kernel
theorem dX6_orders_129 : decode cX6_orders 129 = .ok (.ifCond .eq 17, 3) := by decide +kernel
theorem dX6_orders_132 : decode cX6_orders 132 = .ok (.aload_n 0, 1) := by decide +kernel
theorem dX6_orders_133 : decode cX6_orders 133 = .ok (.getfield 53, 3) := by decide +kernel
theorem dX6_orders_136 : decode cX6_orders 136 = .ok (.getfield 198, 3) := by decide +kernel
theorem dX6_orders_139 : decode cX6_orders 139 = .ok (.iload_n 1, 1) := by decide +kernel
theorem dX6_orders_140 : decode cX6_orders 140 = .ok (.invokestatic 121, 3) := by decide +kernel
theorem dX6_orders_143 : decode cX6_orders 143 = .ok (.goto 5, 3) := by decide +kernel
theorem dX6_orders_146 : decode cX6_orders 146 = .ok (.bipush (-6), 2) := by decide +kernel
theorem dX6_orders_148 : decode cX6_orders 148 = .ok (.ireturn, 1) := by decide +kernel
set_option maxRecDepth 20000 in
theorem ggX6_high_X6_isOutside : GoodIn wsX6_high wsX6_isOutside := goodIn_r _ [6] (by decide +kernel) (by decide +kernel)
set_option maxRecDepth 20000 in
theorem gX6_high_X6_isOutside : GoodIn wsX6_high (va_wsS RX6 57 yX6_isOutside wsX6_isOutside) := goodIn_app (goodIn_of _ (by decide +kernel)) ggX6_high_X6_isOutside
set_option maxRecDepth 20000 in
theorem ggX6_high_X5_freeGuests : GoodIn wsX6_high wsX5_freeGuests := goodIn_r _ [11, 12, 13, 131, 132, 133, 134, 135, 136, 137, 138, 139, 140, 141] (by decide +kernel) (by decide +kernel)
set_option maxRecDepth 20000 in
theorem gX6_high_X5_freeGuests : GoodIn wsX6_high (wsV RX6 201 RX5 yX5_freeGuests wsX5_freeGuests) := goodIn_app (goodIn_of _ (by decide +kernel)) ggX6_high_X5_freeGuests
set_option maxRecDepth 20000 in
theorem ggX6_high_J6_bitCount_0f7a4 : GoodIn wsX6_high wsJ6_bitCount_0f7a4 := goodIn_r _ [17, 18, 19, 20] (by decide +kernel) (by decide +kernel)
set_option maxRecDepth 20000 in
theorem gX6_high_J6_bitCount_0f7a4 : GoodIn wsX6_high (va_wsS RX6 86 yJ6_bitCount_0f7a4 wsJ6_bitCount_0f7a4) := goodIn_app (goodIn_of _ (by decide +kernel)) ggX6_high_J6_bitCount_0f7a4
set_option maxRecDepth 20000 in
theorem ggX6_high_X5_become : GoodIn wsX6_high wsX5_become := goodIn_r _ [24, 25, 12, 13, 26, 27, 28, 29, 30, 31, 32, 33, 5, 34, 35, 36, 37, 38, 39, 40, 41, 42, 131, 132, 133, 134, 135, 136, 137, 138, 139, 140, 141] (by decide +kernel) (by decide +kernel)
set_option maxRecDepth 20000 in
theorem gX6_high_X5_become : GoodIn wsX6_high (wsV RX6 106 RX5 yX5_become wsX5_become) := goodIn_app (goodIn_of _ (by decide +kernel)) ggX6_high_X5_become
set_option maxRecDepth 20000 in
theorem ggX6_high_X6_climb : GoodIn wsX6_high wsX6_climb := goodIn_r _ [45, 46, 47, 37, 48, 49, 50, 51, 10, 52, 32, 53, 54, 5, 55, 7, 8, 9, 11, 12, 13, 14, 15, 16, 17, 18, 19, 20, 56, 57, 58, 59, 60, 61, 62, 63, 64, 65, 66, 26, 25, 67, 68, 69, 70, 71, 72, 73, 74, 75, 31, 76, 77, 78, 79, 29, 30, 80, 81, 82, 83, 84, 85, 86, 87, 88, 89, 90, 91, 92, 93, 94, 95, 96, 97, 98, 99, 100, 27, 101, 102, 103, 104, 105, 106, 107, 108, 109, 110, 111, 112, 113, 28, 114, 115, 116, 117, 118, 119, 120, 121, 43, 44, 122, 131, 132, 133, 134, 135, 136, 137, 138, 139, 140, 141] (by decide +kernel) (by decide +kernel)
set_option maxRecDepth 20000 in
theorem gX6_high_X6_climb : GoodIn wsX6_high (va_wsS RX6 204 yX6_climb wsX6_climb) := goodIn_app (goodIn_of _ (by decide +kernel)) ggX6_high_X6_climb
theorem dX6_high_0 : decode cX6_high 0 = .ok (.iload_n 1, 1) := by decide +kernel
theorem dX6_high_1 : decode cX6_high 1 = .ok (.iconst 0, 1) := by decide +kernel
theorem dX6_high_2 : decode cX6_high 2 = .ok (.iconst 1, 1) := by decide +kernel
theorem dX6_high_3 : decode cX6_high 3 = .ok (.invokestatic 57, 3) := by decide +kernel
theorem dX6_high_6 : decode cX6_high 6 = .ok (.ifCond .eq 6, 3) := by decide +kernel
theorem dX6_high_9 : decode cX6_high 9 = .ok (.bipush (-2), 2) := by decide +kernel
theorem dX6_high_11 : decode cX6_high 11 = .ok (.ireturn, 1) := by decide +kernel
theorem dX6_high_12 : decode cX6_high 12 = .ok (.aload_n 0, 1) := by decide +kernel
theorem dX6_high_13 : decode cX6_high 13 = .ok (.getfield 10, 3) := by decide +kernel
theorem dX6_high_16 : decode cX6_high 16 = .ok (.invokevirtual 201, 3) := by decide +kernel
theorem dX6_high_19 : decode cX6_high 19 = .ok (.invokestatic 86, 3) := by decide +kernel
theorem dX6_high_22 : decode cX6_high 22 = .ok (.iconst 3, 1) := by decide +kernel
theorem dX6_high_23 : decode cX6_high 23 = .ok (.if_icmp .le 6, 3) := by decide +kernel
theorem dX6_high_26 : decode cX6_high 26 = .ok (.bipush (-4), 2) := by decide +kernel
theorem dX6_high_28 : decode cX6_high 28 = .ok (.ireturn, 1) := by decide +kernel
theorem dX6_high_29 : decode cX6_high 29 = .ok (.aload_n 0, 1) := by decide +kernel
theorem dX6_high_30 : decode cX6_high 30 = .ok (.getfield 16, 3) := by decide +kernel
theorem dX6_high_33 : decode cX6_high 33 = .ok (.aload_n 0, 1) := by decide +kernel
theorem dX6_high_34 : decode cX6_high 34 = .ok (.getfield 10, 3) := by decide +kernel
theorem dX6_high_37 : decode cX6_high 37 = .ok (.invokevirtual 106, 3) := by decide +kernel
theorem dX6_high_40 : decode cX6_high 40 = .ok (.aload_n 0, 1) := by decide +kernel
theorem dX6_high_41 : decode cX6_high 41 = .ok (.getfield 16, 3) := by decide +kernel
theorem dX6_high_44 : decode cX6_high 44 = .ok (.iconst 0, 1) := by decide +kernel
theorem dX6_high_45 : decode cX6_high 45 = .ok (.iconst 0, 1) := by decide +kernel
theorem dX6_high_46 : decode cX6_high 46 = .ok (.invokestatic 204, 3) := by decide +kernel
theorem dX6_high_49 : decode cX6_high 49 = .ok (.istore_n 2, 1) := by decide +kernel
theorem dX6_high_50 : decode cX6_high 50 = .ok (.iload_n 1, 1) := by decide +kernel
theorem dX6_high_51 : decode cX6_high 51 = .ok (.ifCond .ne 9, 3) := by decide +kernel
theorem dX6_high_54 : decode cX6_high 54 = .ok (.iload_n 2, 1) := by decide +kernel
theorem dX6_high_55 : decode cX6_high 55 = .ok (.iconst 4, 1) := by decide +kernel
theorem dX6_high_56 : decode cX6_high 56 = .ok (.idiv, 1) := by decide +kernel
theorem dX6_high_57 : decode cX6_high 57 = .ok (.goto 8, 3) := by decide +kernel
theorem dX6_high_60 : decode cX6_high 60 = .ok (.iconst 3, 1) := by decide +kernel
theorem dX6_high_61 : decode cX6_high 61 = .ok (.iload_n 2, 1) := by decide +kernel
theorem dX6_high_62 : decode cX6_high 62 = .ok (.iconst 4, 1) := by decide +kernel
theorem dX6_high_63 : decode cX6_high 63 = .ok (.irem, 1) := by decide +kernel
theorem dX6_high_64 : decode cX6_high 64 = .ok (.isub, 1) := by decide +kernel
theorem dX6_high_65 : decode cX6_high 65 = .ok (.ireturn, 1) := by decide +kernel
set_option maxRecDepth 20000 in
theorem ggX6_falls_X6_isOutside : GoodIn wsX6_falls wsX6_isOutside := goodIn_r _ [4] (by decide +kernel) (by decide +kernel)
set_option maxRecDepth 20000 in
theorem gX6_falls_X6_isOutside : GoodIn wsX6_falls (va_wsS RX6 57 yX6_isOutside wsX6_isOutside) := goodIn_app (goodIn_of _ (by decide +kernel)) ggX6_falls_X6_isOutside
set_option maxRecDepth 20000 in
theorem ggX6_falls_X6_fallenWithout : GoodIn wsX6_falls wsX6_fallenWithout := goodIn_r _ [8, 9, 10, 11, 12, 13, 14, 15, 16, 17, 18, 19, 20, 21, 22, 23, 24, 25, 26, 3, 27, 28, 29, 30, 31, 32, 33, 34, 35, 36, 37, 38, 39, 40, 41, 42, 43, 44, 45, 46, 47, 48, 49, 50, 51, 52, 53, 54, 55, 56, 57, 58, 59, 60, 61, 62, 63, 64, 65, 66, 67, 68, 69, 70, 71, 72, 73, 74, 75, 76, 77, 78, 79, 80, 81, 82, 83, 84, 85, 86, 87, 88, 89, 90, 91, 92, 93, 94, 95, 96, 97, 98, 99, 100, 101, 102, 103, 104, 105, 106, 107, 108, 109, 110, 111, 112, 113, 114, 115, 116, 117, 118, 119] (by decide +kernel) (by decide +kernel)
set_option maxRecDepth 20000 in
theorem gX6_falls_X6_fallenWithout : GoodIn wsX6_falls (wsV RX6 208 RX6 yX6_fallenWithout wsX6_fallenWithout) := goodIn_app (goodIn_of _ (by decide +kernel)) ggX6_falls_X6_fallenWithout
theorem dX6_falls_0 : decode cX6_falls 0 = .ok (.iload_n 1, 1) := by decide +kernel
theorem dX6_falls_1 : decode cX6_falls 1 = .ok (.iconst 0, 1) := by decide +kernel
theorem dX6_falls_2 : decode cX6_falls 2 = .ok (.sipush 1023, 3) := by decide +kernel
theorem dX6_falls_5 : decode cX6_falls 5 = .ok (.invokestatic 57, 3) := by decide +kernel
theorem dX6_falls_8 : decode cX6_falls 8 = .ok (.ifCond .eq 6, 3) := by decide +kernel
theorem dX6_falls_11 : decode cX6_falls 11 = .ok (.bipush (-2), 2) := by decide +kernel
theorem dX6_falls_13 : decode cX6_falls 13 = .ok (.ireturn, 1) := by decide +kernel
theorem dX6_falls_14 : decode cX6_falls 14 = .ok (.aload_n 0, 1) := by decide +kernel
theorem dX6_falls_15 : decode cX6_falls 15 = .ok (.iload_n 1, 1) := by decide +kernel
theorem dX6_falls_16 : decode cX6_falls 16 = .ok (.invokevirtual 208, 3) := by decide +kernel
theorem dX6_falls_19 : decode cX6_falls 19 = .ok (.ireturn, 1) := by decide +kernel
set_option maxRecDepth 20000 in
theorem ggX6_key_X6_isOutside : GoodIn wsX6_key wsX6_isOutside := goodIn_r _ [5] (by decide +kernel) (by decide +kernel)
set_option maxRecDepth 20000 in
theorem gX6_key_X6_isOutside : GoodIn wsX6_key (va_wsS RX6 57 yX6_isOutside wsX6_isOutside) := goodIn_app (goodIn_of _ (by decide +kernel)) ggX6_key_X6_isOutside
set_option maxRecDepth 20000 in
theorem ggX6_key_X5_isLaid : GoodIn wsX6_key wsX5_isLaid := goodIn_r _ [10, 11, 12, 4, 13, 117, 118, 119, 120, 121, 122, 123, 124, 125, 126, 127] (by decide +kernel) (by decide +kernel)
set_option maxRecDepth 20000 in
theorem gX6_key_X5_isLaid : GoodIn wsX6_key (wsV RX6 76 RX5 yX5_isLaid wsX5_isLaid) := goodIn_app (goodIn_of _ (by decide +kernel)) ggX6_key_X5_isLaid
set_option maxRecDepth 20000 in
theorem ggX6_key_X6_fallenWithout : GoodIn wsX6_key wsX6_fallenWithout := goodIn_r _ [17, 18, 1, 19, 20, 21, 9, 22, 23, 24, 11, 25, 26, 27, 28, 29, 30, 31, 32, 4, 33, 34, 35, 36, 37, 38, 39, 40, 41, 42, 43, 44, 45, 12, 13, 46, 47, 48, 49, 50, 7, 8, 10, 51, 52, 53, 54, 55, 56, 57, 58, 59, 60, 61, 62, 63, 64, 65, 66, 67, 68, 69, 70, 71, 72, 73, 74, 75, 76, 77, 78, 79, 80, 81, 82, 83, 84, 85, 86, 87, 88, 89, 90, 91, 92, 93, 94, 95, 96, 97, 98, 99, 100, 101, 109, 110, 111, 112, 113, 114, 115, 116, 117, 118, 119, 120, 121, 122, 123, 124, 125, 126, 127] (by decide +kernel) (by decide +kernel)
set_option maxRecDepth 20000 in
theorem gX6_key_X6_fallenWithout : GoodIn wsX6_key (wsV RX6 208 RX6 yX6_fallenWithout wsX6_fallenWithout) := goodIn_app (goodIn_of _ (by decide +kernel)) ggX6_key_X6_fallenWithout
set_option maxRecDepth 20000 in
theorem ggX6_key_J6_bitCount_0f7a4 : GoodIn wsX6_key wsJ6_bitCount_0f7a4 := goodIn_r _ [105, 106, 107, 108] (by decide +kernel) (by decide +kernel)
set_option maxRecDepth 20000 in
theorem gX6_key_J6_bitCount_0f7a4 : GoodIn wsX6_key (va_wsS RX6 86 yJ6_bitCount_0f7a4 wsJ6_bitCount_0f7a4) := goodIn_app (goodIn_of _ (by decide +kernel)) ggX6_key_J6_bitCount_0f7a4
theorem dX6_key_0 : decode cX6_key 0 = .ok (.iload_n 1, 1) := by decide +kernel
theorem dX6_key_1 : decode cX6_key 1 = .ok (.iconst 0, 1) := by decide +kernel
theorem dX6_key_2 : decode cX6_key 2 = .ok (.iconst 1, 1) := by decide +kernel
theorem dX6_key_3 : decode cX6_key 3 = .ok (.invokestatic 57, 3) := by decide +kernel
theorem dX6_key_6 : decode cX6_key 6 = .ok (.ifCond .eq 6, 3) := by decide +kernel
theorem dX6_key_9 : decode cX6_key 9 = .ok (.bipush (-2), 2) := by decide +kernel
theorem dX6_key_11 : decode cX6_key 11 = .ok (.ireturn, 1) := by decide +kernel
theorem dX6_key_12 : decode cX6_key 12 = .ok (.bipush (-6), 2) := by decide +kernel
theorem dX6_key_14 : decode cX6_key 14 = .ok (.istore_n 2, 1) := by decide +kernel
theorem dX6_key_15 : decode cX6_key 15 = .ok (.bipush (-6), 2) := by decide +kernel
theorem dX6_key_17 : decode cX6_key 17 = .ok (.istore_n 3, 1) := by decide +kernel
theorem dX6_key_18 : decode cX6_key 18 = .ok (.iconst 0, 1) := by decide +kernel
theorem dX6_key_19 : decode cX6_key 19 = .ok (.istore 4, 2) := by decide +kernel
theorem dX6_key_21 : decode cX6_key 21 = .ok (.iload 4, 2) := by decide +kernel
theorem dX6_key_23 : decode cX6_key 23 = .ok (.bipush 10, 2) := by decide +kernel
theorem dX6_key_25 : decode cX6_key 25 = .ok (.if_icmp .ge 46, 3) := by decide +kernel
theorem dX6_key_28 : decode cX6_key 28 = .ok (.aload_n 0, 1) := by decide +kernel
theorem dX6_key_29 : decode cX6_key 29 = .ok (.getfield 10, 3) := by decide +kernel
theorem dX6_key_32 : decode cX6_key 32 = .ok (.iload 4, 2) := by decide +kernel
theorem dX6_key_34 : decode cX6_key 34 = .ok (.invokevirtual 76, 3) := by decide +kernel
theorem dX6_key_37 : decode cX6_key 37 = .ok (.ifCond .eq 28, 3) := by decide +kernel
theorem dX6_key_40 : decode cX6_key 40 = .ok (.aload_n 0, 1) := by decide +kernel
theorem dX6_key_41 : decode cX6_key 41 = .ok (.iconst 1, 1) := by decide +kernel
theorem dX6_key_42 : decode cX6_key 42 = .ok (.iload 4, 2) := by decide +kernel
theorem dX6_key_44 : decode cX6_key 44 = .ok (.ishl, 1) := by decide +kernel
theorem dX6_key_45 : decode cX6_key 45 = .ok (.invokevirtual 208, 3) := by decide +kernel
theorem dX6_key_48 : decode cX6_key 48 = .ok (.invokestatic 86, 3) := by decide +kernel
theorem dX6_key_51 : decode cX6_key 51 = .ok (.istore 5, 2) := by decide +kernel
theorem dX6_key_53 : decode cX6_key 53 = .ok (.iload 5, 2) := by decide +kernel
theorem dX6_key_55 : decode cX6_key 55 = .ok (.iload_n 3, 1) := by decide +kernel
theorem dX6_key_56 : decode cX6_key 56 = .ok (.if_icmp .le 9, 3) := by decide +kernel
theorem dX6_key_59 : decode cX6_key 59 = .ok (.iload 4, 2) := by decide +kernel
theorem dX6_key_61 : decode cX6_key 61 = .ok (.istore_n 2, 1) := by decide +kernel
theorem dX6_key_62 : decode cX6_key 62 = .ok (.iload 5, 2) := by decide +kernel
theorem dX6_key_64 : decode cX6_key 64 = .ok (.istore_n 3, 1) := by decide +kernel
theorem dX6_key_65 : decode cX6_key 65 = .ok (.iinc 4 1, 3) := by decide +kernel
theorem dX6_key_68 : decode cX6_key 68 = .ok (.goto (-47), 3) := by decide +kernel
theorem dX6_key_71 : decode cX6_key 71 = .ok (.iload_n 1, 1) := by decide +kernel
theorem dX6_key_72 : decode cX6_key 72 = .ok (.ifCond .ne 7, 3) := by decide +kernel
theorem dX6_key_75 : decode cX6_key 75 = .ok (.iload_n 2, 1) := by decide +kernel
theorem dX6_key_76 : decode cX6_key 76 = .ok (.goto 4, 3) := by decide +kernel
theorem dX6_key_79 : decode cX6_key 79 = .ok (.iload_n 3, 1) := by decide +kernel
theorem dX6_key_80 : decode cX6_key 80 = .ok (.ireturn, 1) := by decide +kernel
set_option maxRecDepth 20000 in
theorem ggX6_seen_X6_isNoColumn : GoodIn wsX6_seen wsX6_isNoColumn := goodIn_r _ [6, 7, 8, 9, 5, 10, 21, 22, 23, 24, 25, 26, 27, 28, 32, 33, 34, 35, 36, 37, 38, 39, 40, 41, 42] (by decide +kernel) (by decide +kernel)
set_option maxRecDepth 20000 in
theorem gX6_seen_X6_isNoColumn : GoodIn wsX6_seen (wsV RX6 114 RX6 yX6_isNoColumn wsX6_isNoColumn) := goodIn_app (goodIn_of _ (by decide +kernel)) ggX6_seen_X6_isNoColumn
set_option maxRecDepth 20000 in
theorem ggX6_seen_X6_isOutside : GoodIn wsX6_seen wsX6_isOutside := goodIn_r _ [10] (by decide +kernel) (by decide +kernel)
set_option maxRecDepth 20000 in
theorem gX6_seen_X6_isOutside : GoodIn wsX6_seen (va_wsS RX6 57 yX6_isOutside wsX6_isOutside) := goodIn_app (goodIn_of _ (by decide +kernel)) ggX6_seen_X6_isOutside
set_option maxRecDepth 20000 in
theorem ggX6_seen_X4_add : GoodIn wsX6_seen wsX4_add := goodIn_r _ [15, 16, 17, 18, 19, 5, 20, 29, 30, 31] (by decide +kernel) (by decide +kernel)
set_option maxRecDepth 20000 in
theorem gX6_seen_X4_add : GoodIn wsX6_seen (wsV RX6 211 RX4 yX4_add wsX4_add) := goodIn_app (goodIn_of _ (by decide +kernel)) ggX6_seen_X4_add
theorem dX6_seen_0 : decode cX6_seen 0 = .ok (.aload_n 0, 1) := by decide +kernel
theorem dX6_seen_1 : decode cX6_seen 1 = .ok (.iload_n 1, 1) := by decide +kernel
theorem dX6_seen_2 : decode cX6_seen 2 = .ok (.invokevirtual 114, 3) := by decide +kernel
theorem dX6_seen_5 : decode cX6_seen 5 = .ok (.ifCond .eq 5, 3) := by decide +kernel
theorem dX6_seen_8 : decode cX6_seen 8 = .ok (.iconst (-1), 1) := by decide +kernel
theorem dX6_seen_9 : decode cX6_seen 9 = .ok (.ireturn, 1) := by decide +kernel
theorem dX6_seen_10 : decode cX6_seen 10 = .ok (.iload_n 2, 1) := by decide +kernel
theorem dX6_seen_11 : decode cX6_seen 11 = .ok (.iconst 0, 1) := by decide +kernel
theorem dX6_seen_12 : decode cX6_seen 12 = .ok (.bipush 10, 2) := by decide +kernel
theorem dX6_seen_14 : decode cX6_seen 14 = .ok (.invokestatic 57, 3) := by decide +kernel
theorem dX6_seen_17 : decode cX6_seen 17 = .ok (.ifCond .eq 6, 3) := by decide +kernel
theorem dX6_seen_20 : decode cX6_seen 20 = .ok (.bipush (-2), 2) := by decide +kernel
theorem dX6_seen_22 : decode cX6_seen 22 = .ok (.ireturn, 1) := by decide +kernel
theorem dX6_seen_23 : decode cX6_seen 23 = .ok (.aload_n 0, 1) := by decide +kernel
theorem dX6_seen_24 : decode cX6_seen 24 = .ok (.getfield 22, 3) := by decide +kernel
theorem dX6_seen_27 : decode cX6_seen 27 = .ok (.getfield 69, 3) := by decide +kernel
theorem dX6_seen_30 : decode cX6_seen 30 = .ok (.bipush 8, 2) := by decide +kernel
theorem dX6_seen_32 : decode cX6_seen 32 = .ok (.if_icmp .lt 6, 3) := by decide +kernel
theorem dX6_seen_35 : decode cX6_seen 35 = .ok (.bipush (-4), 2) := by decide +kernel
theorem dX6_seen_37 : decode cX6_seen 37 = .ok (.ireturn, 1) := by decide +kernel
theorem dX6_seen_38 : decode cX6_seen 38 = .ok (.aload_n 0, 1) := by decide +kernel
theorem dX6_seen_39 : decode cX6_seen 39 = .ok (.getfield 22, 3) := by decide +kernel
theorem dX6_seen_42 : decode cX6_seen 42 = .ok (.iload_n 1, 1) := by decide +kernel
theorem dX6_seen_43 : decode cX6_seen 43 = .ok (.iload_n 2, 1) := by decide +kernel
theorem dX6_seen_44 : decode cX6_seen 44 = .ok (.invokevirtual 211, 3) := by decide +kernel
theorem dX6_seen_47 : decode cX6_seen 47 = .ok (.aload_n 0, 1) := by decide +kernel
theorem dX6_seen_48 : decode cX6_seen 48 = .ok (.getfield 22, 3) := by decide +kernel
theorem dX6_seen_51 : decode cX6_seen 51 = .ok (.getfield 69, 3) := by decide +kernel
theorem dX6_seen_54 : decode cX6_seen 54 = .ok (.ireturn, 1) := by decide +kernel
theorem dX6_forget_0 : decode cX6_forget 0 = .ok (.aload_n 0, 1) := by decide +kernel
theorem dX6_forget_1 : decode cX6_forget 1 = .ok (.getfield 22, 3) := by decide +kernel
theorem dX6_forget_4 : decode cX6_forget 4 = .ok (.getfield 69, 3) := by decide +kernel
theorem dX6_forget_7 : decode cX6_forget 7 = .ok (.istore_n 1, 1) := by decide +kernel
theorem dX6_forget_8 : decode cX6_forget 8 = .ok (.aload_n 0, 1) := by decide +kernel
theorem dX6_forget_9 : decode cX6_forget 9 = .ok (.getfield 22, 3) := by decide +kernel
theorem dX6_forget_12 : decode cX6_forget 12 = .ok (.iconst 0, 1) := by decide +kernel
theorem dX6_forget_13 : decode cX6_forget 13 = .ok (.putfield 69, 3) := by decide +kernel
theorem dX6_forget_16 : decode cX6_forget 16 = .ok (.iload_n 1, 1) := by decide +kernel
theorem dX6_forget_17 : decode cX6_forget 17 = .ok (.ireturn, 1) := by decide +kernel
set_option maxRecDepth 20000 in
theorem ggX6_who_X6_isOutside : GoodIn wsX6_who wsX6_isOutside := goodIn_r _ [5] (by decide +kernel) (by decide +kernel)
set_option maxRecDepth 20000 in
theorem gX6_who_X6_isOutside : GoodIn wsX6_who (va_wsS RX6 57 yX6_isOutside wsX6_isOutside) := goodIn_app (goodIn_of _ (by decide +kernel)) ggX6_who_X6_isOutside
set_option maxRecDepth 20000 in
theorem ggX6_who_X6_findRows : GoodIn wsX6_who wsX6_findRows := goodIn_r _ [9, 10, 11, 1, 12, 13, 14, 15, 16, 17, 18, 19, 20, 21, 22, 23, 24, 25, 26, 27, 28, 4, 29, 30, 31, 32, 33, 34, 35, 36, 37, 38, 39, 40, 41, 42, 43, 44, 45, 46, 47, 48, 49, 50, 51, 52, 53, 54, 55, 56, 57, 58, 59, 60, 61, 62, 63, 64, 65, 66, 67, 68, 69, 70, 71, 72, 73, 74, 75, 76, 77, 78, 79, 80, 81, 82, 83, 84, 85, 86, 87, 88, 89, 90, 91, 92, 93, 94, 95, 96, 97, 98, 99, 100, 101, 102, 103, 104, 105, 106, 107, 108, 109, 110, 111, 112, 113, 114, 115, 116, 117, 118, 119, 120, 121, 122, 123, 124, 125, 126, 127, 128, 129, 130, 131, 132, 133, 134, 135, 136, 137, 138, 139, 140, 141, 142, 143, 144, 145, 146, 147, 148, 149, 154, 155, 156, 157, 158, 159, 160, 161, 162, 163, 164, 150, 151, 152, 153, 165, 166, 167] (by decide +kernel) (by decide +kernel)
set_option maxRecDepth 20000 in
theorem gX6_who_X6_findRows : GoodIn wsX6_who (wsV RX6 214 RX6 yX6_findRows wsX6_findRows) := goodIn_app (goodIn_of _ (by decide +kernel)) ggX6_who_X6_findRows
theorem dX6_who_0 : decode cX6_who 0 = .ok (.iload_n 1, 1) := by decide +kernel
theorem dX6_who_1 : decode cX6_who 1 = .ok (.iconst 0, 1) := by decide +kernel
theorem dX6_who_2 : decode cX6_who 2 = .ok (.iconst 2, 1) := by decide +kernel
theorem dX6_who_3 : decode cX6_who 3 = .ok (.invokestatic 57, 3) := by decide +kernel
theorem dX6_who_6 : decode cX6_who 6 = .ok (.ifCond .ne 12, 3) := by decide +kernel
theorem dX6_who_9 : decode cX6_who 9 = .ok (.iload_n 2, 1) := by decide +kernel
theorem dX6_who_10 : decode cX6_who 10 = .ok (.iconst 0, 1) := by decide +kernel
theorem dX6_who_11 : decode cX6_who 11 = .ok (.iconst 2, 1) := by decide +kernel
theorem dX6_who_12 : decode cX6_who 12 = .ok (.invokestatic 57, 3) := by decide +kernel
theorem dX6_who_15 : decode cX6_who 15 = .ok (.ifCond .eq 6, 3) := by decide +kernel
theorem dX6_who_18 : decode cX6_who 18 = .ok (.bipush (-2), 2) := by decide +kernel
theorem dX6_who_20 : decode cX6_who 20 = .ok (.ireturn, 1) := by decide +kernel
theorem dX6_who_21 : decode cX6_who 21 = .ok (.aload_n 0, 1) := by decide +kernel
theorem dX6_who_22 : decode cX6_who 22 = .ok (.iload_n 1, 1) := by decide +kernel
theorem dX6_who_23 : decode cX6_who 23 = .ok (.invokevirtual 214, 3) := by decide +kernel
theorem dX6_who_26 : decode cX6_who 26 = .ok (.iload_n 2, 1) := by decide +kernel
theorem dX6_who_27 : decode cX6_who 27 = .ok (.ifCond .ne 13, 3) := by decide +kernel
theorem dX6_who_30 : decode cX6_who 30 = .ok (.aload_n 0, 1) := by decide +kernel
theorem dX6_who_31 : decode cX6_who 31 = .ok (.getfield 46, 3) := by decide +kernel
theorem dX6_who_34 : decode cX6_who 34 = .ok (.getfield 217, 3) := by decide +kernel
theorem dX6_who_37 : decode cX6_who 37 = .ok (.goto 25, 3) := by decide +kernel
theorem dX6_who_40 : decode cX6_who 40 = .ok (.iload_n 2, 1) := by decide +kernel
theorem dX6_who_41 : decode cX6_who 41 = .ok (.iconst 1, 1) := by decide +kernel
theorem dX6_who_42 : decode cX6_who 42 = .ok (.if_icmp .ne 13, 3) := by decide +kernel
theorem dX6_who_45 : decode cX6_who 45 = .ok (.aload_n 0, 1) := by decide +kernel
theorem dX6_who_46 : decode cX6_who 46 = .ok (.getfield 46, 3) := by decide +kernel
theorem dX6_who_49 : decode cX6_who 49 = .ok (.getfield 218, 3) := by decide +kernel
theorem dX6_who_52 : decode cX6_who 52 = .ok (.goto 10, 3) := by decide +kernel
theorem dX6_who_55 : decode cX6_who 55 = .ok (.aload_n 0, 1) := by decide +kernel
theorem dX6_who_56 : decode cX6_who 56 = .ok (.getfield 46, 3) := by decide +kernel
theorem dX6_who_59 : decode cX6_who 59 = .ok (.getfield 221, 3) := by decide +kernel
theorem dX6_who_62 : decode cX6_who 62 = .ok (.ireturn, 1) := by decide +kernel
set_option maxRecDepth 20000 in
theorem ggX6_look_X6_isOutside : GoodIn wsX6_look wsX6_isOutside := goodIn_r _ [7] (by decide +kernel) (by decide +kernel)
set_option maxRecDepth 20000 in
theorem gX6_look_X6_isOutside : GoodIn wsX6_look (va_wsS RX6 57 yX6_isOutside wsX6_isOutside) := goodIn_app (goodIn_of _ (by decide +kernel)) ggX6_look_X6_isOutside
set_option maxRecDepth 20000 in
theorem ggX6_look_X6_findRows : GoodIn wsX6_look wsX6_findRows := goodIn_r _ [11, 12, 2, 1, 3, 13, 14, 15, 16, 17, 18, 19, 20, 21, 22, 23, 24, 25, 26, 27, 28, 6, 29, 30, 31, 32, 33, 34, 35, 36, 37, 38, 39, 40, 41, 42, 43, 44, 45, 46, 47, 48, 49, 50, 51, 52, 53, 54, 55, 56, 57, 58, 59, 60, 61, 62, 63, 64, 65, 66, 67, 68, 69, 70, 71, 72, 73, 74, 75, 76, 77, 78, 79, 80, 81, 82, 83, 84, 85, 86, 87, 88, 89, 90, 91, 92, 93, 94, 95, 96, 97, 98, 99, 100, 101, 102, 103, 104, 105, 106, 107, 108, 109, 110, 111, 112, 113, 114, 115, 116, 117, 118, 119, 120, 121, 122, 123, 124, 125, 126, 127, 128, 129, 130, 131, 132, 133, 134, 135, 136, 137, 138, 139, 140, 141, 151, 152, 153, 154, 155, 156, 157, 158, 163, 164, 165, 166, 167, 168, 169, 170, 171, 172, 173, 159, 160, 161, 162, 174, 175, 176] (by decide +kernel) (by decide +kernel)
set_option maxRecDepth 20000 in
theorem gX6_look_X6_findRows : GoodIn wsX6_look (wsV RX6 214 RX6 yX6_findRows wsX6_findRows) := goodIn_app (goodIn_of _ (by decide +kernel)) ggX6_look_X6_findRows
set_option maxRecDepth 20000 in
theorem ggX6_look_X4_hasSeen : GoodIn wsX6_look wsX4_hasSeen := goodIn_r _ [145, 57, 58, 60, 6, 61, 174, 175, 176] (by decide +kernel) (by decide +kernel)
set_option maxRecDepth 20000 in
theorem gX6_look_X4_hasSeen : GoodIn wsX6_look (wsV RX6 224 RX4 yX4_hasSeen wsX4_hasSeen) := goodIn_app (goodIn_of _ (by decide +kernel)) ggX6_look_X4_hasSeen
set_option maxRecDepth 20000 in
theorem ggX6_look_X3_mostLeft : GoodIn wsX6_look wsX3_mostLeft := goodIn_r _ [149, 46, 150, 88, 32, 89, 60, 6, 61, 159, 160, 161, 162] (by decide +kernel) (by decide +kernel)
set_option maxRecDepth 20000 in
theorem gX6_look_X3_mostLeft : GoodIn wsX6_look (wsV RX6 227 RX3 yX3_mostLeft wsX3_mostLeft) := goodIn_app (goodIn_of _ (by decide +kernel)) ggX6_look_X3_mostLeft
theorem dX6_look_0 : decode cX6_look 0 = .ok (.iload_n 1, 1) := by decide +kernel
theorem dX6_look_1 : decode cX6_look 1 = .ok (.iconst 0, 1) := by decide +kernel
theorem dX6_look_2 : decode cX6_look 2 = .ok (.iconst 2, 1) := by decide +kernel
theorem dX6_look_3 : decode cX6_look 3 = .ok (.invokestatic 57, 3) := by decide +kernel
theorem dX6_look_6 : decode cX6_look 6 = .ok (.ifCond .ne 12, 3) := by decide +kernel
theorem dX6_look_9 : decode cX6_look 9 = .ok (.iload_n 2, 1) := by decide +kernel
theorem dX6_look_10 : decode cX6_look 10 = .ok (.iconst 0, 1) := by decide +kernel
theorem dX6_look_11 : decode cX6_look 11 = .ok (.iconst 1, 1) := by decide +kernel
theorem dX6_look_12 : decode cX6_look 12 = .ok (.invokestatic 57, 3) := by decide +kernel
theorem dX6_look_15 : decode cX6_look 15 = .ok (.ifCond .eq 6, 3) := by decide +kernel
theorem dX6_look_18 : decode cX6_look 18 = .ok (.bipush (-2), 2) := by decide +kernel
theorem dX6_look_20 : decode cX6_look 20 = .ok (.ireturn, 1) := by decide +kernel
theorem dX6_look_21 : decode cX6_look 21 = .ok (.aload_n 0, 1) := by decide +kernel
theorem dX6_look_22 : decode cX6_look 22 = .ok (.iload_n 1, 1) := by decide +kernel
theorem dX6_look_23 : decode cX6_look 23 = .ok (.invokevirtual 214, 3) := by decide +kernel
theorem dX6_look_26 : decode cX6_look 26 = .ok (.aload_n 0, 1) := by decide +kernel
theorem dX6_look_27 : decode cX6_look 27 = .ok (.getfield 46, 3) := by decide +kernel
theorem dX6_look_30 : decode cX6_look 30 = .ok (.getfield 217, 3) := by decide +kernel
theorem dX6_look_33 : decode cX6_look 33 = .ok (.ifCond .ne 6, 3) := by decide +kernel
theorem dX6_look_36 : decode cX6_look 36 = .ok (.bipush (-6), 2) := by decide +kernel
theorem dX6_look_38 : decode cX6_look 38 = .ok (.ireturn, 1) := by decide +kernel
theorem dX6_look_39 : decode cX6_look 39 = .ok (.bipush (-6), 2) := by decide +kernel
theorem dX6_look_41 : decode cX6_look 41 = .ok (.istore_n 3, 1) := by decide +kernel
theorem dX6_look_42 : decode cX6_look 42 = .ok (.bipush (-6), 2) := by decide +kernel
theorem dX6_look_44 : decode cX6_look 44 = .ok (.istore 4, 2) := by decide +kernel
theorem dX6_look_46 : decode cX6_look 46 = .ok (.aload_n 0, 1) := by decide +kernel
theorem dX6_look_47 : decode cX6_look 47 = .ok (.getfield 10, 3) := by decide +kernel
theorem dX6_look_50 : decode cX6_look 50 = .ok (.getfield 61, 3) := by decide +kernel
theorem dX6_look_53 : decode cX6_look 53 = .ok (.istore 5, 2) := by decide +kernel
theorem dX6_look_55 : decode cX6_look 55 = .ok (.iconst 0, 1) := by decide +kernel
theorem dX6_look_56 : decode cX6_look 56 = .ok (.istore 6, 2) := by decide +kernel
theorem dX6_look_58 : decode cX6_look 58 = .ok (.iload 6, 2) := by decide +kernel
theorem dX6_look_60 : decode cX6_look 60 = .ok (.iload 5, 2) := by decide +kernel
theorem dX6_look_62 : decode cX6_look 62 = .ok (.if_icmp .ge 52, 3) := by decide +kernel
theorem dX6_look_65 : decode cX6_look 65 = .ok (.aload_n 0, 1) := by decide +kernel
theorem dX6_look_66 : decode cX6_look 66 = .ok (.getfield 22, 3) := by decide +kernel
theorem dX6_look_69 : decode cX6_look 69 = .ok (.iload 6, 2) := by decide +kernel
theorem dX6_look_71 : decode cX6_look 71 = .ok (.invokevirtual 224, 3) := by decide +kernel
theorem dX6_look_74 : decode cX6_look 74 = .ok (.ifCond .ne 34, 3) := by decide +kernel
theorem dX6_look_77 : decode cX6_look 77 = .ok (.aload_n 0, 1) := by decide +kernel
theorem dX6_look_78 : decode cX6_look 78 = .ok (.getfield 46, 3) := by decide +kernel
theorem dX6_look_81 : decode cX6_look 81 = .ok (.iload 6, 2) := by decide +kernel
theorem dX6_look_83 : decode cX6_look 83 = .ok (.invokevirtual 227, 3) := by decide +kernel
theorem dX6_look_86 : decode cX6_look 86 = .ok (.istore 7, 2) := by decide +kernel
theorem dX6_look_88 : decode cX6_look 88 = .ok (.iload_n 3, 1) := by decide +kernel
theorem dX6_look_89 : decode cX6_look 89 = .ok (.bipush (-6), 2) := by decide +kernel
theorem dX6_look_91 : decode cX6_look 91 = .ok (.if_icmp .eq 10, 3) := by decide +kernel
theorem dX6_look_94 : decode cX6_look 94 = .ok (.iload 7, 2) := by decide +kernel
theorem dX6_look_96 : decode cX6_look 96 = .ok (.iload 4, 2) := by decide +kernel
theorem dX6_look_98 : decode cX6_look 98 = .ok (.if_icmp .ge 10, 3) := by decide +kernel
theorem dX6_look_101 : decode cX6_look 101 = .ok (.iload 6, 2) := by decide +kernel
theorem dX6_look_103 : decode cX6_look 103 = .ok (.istore_n 3, 1) := by decide +kernel
theorem dX6_look_104 : decode cX6_look 104 = .ok (.iload 7, 2) := by decide +kernel
theorem dX6_look_106 : decode cX6_look 106 = .ok (.istore 4, 2) := by decide +kernel
theorem dX6_look_108 : decode cX6_look 108 = .ok (.iinc 6 1, 3) := by decide +kernel
theorem dX6_look_111 : decode cX6_look 111 = .ok (.goto (-53), 3) := by decide +kernel
theorem dX6_look_114 : decode cX6_look 114 = .ok (.iload_n 2, 1) := by decide +kernel
theorem dX6_look_115 : decode cX6_look 115 = .ok (.ifCond .ne 7, 3) := by decide +kernel
theorem dX6_look_118 : decode cX6_look 118 = .ok (.iload_n 3, 1) := by decide +kernel
theorem dX6_look_119 : decode cX6_look 119 = .ok (.goto 5, 3) := by decide +kernel
theorem dX6_look_122 : decode cX6_look 122 = .ok (.iload 4, 2) := by decide +kernel
theorem dX6_look_124 : decode cX6_look 124 = .ok (.ireturn, 1) := by decide +kernel
set_option maxRecDepth 20000 in
theorem ggX6_weak_X6_isOutside : GoodIn wsX6_weak wsX6_isOutside := goodIn_r _ [8] (by decide +kernel) (by decide +kernel)
set_option maxRecDepth 20000 in
theorem gX6_weak_X6_isOutside : GoodIn wsX6_weak (va_wsS RX6 57 yX6_isOutside wsX6_isOutside) := goodIn_app (goodIn_of _ (by decide +kernel)) ggX6_weak_X6_isOutside
set_option maxRecDepth 20000 in
theorem ggX6_weak_X5_weigh : GoodIn wsX6_weak wsX5_weigh := goodIn_r _ [13, 14, 15, 16, 7, 17, 18, 19, 20, 12, 21, 22, 23, 24, 25, 26, 27, 28, 29, 30, 31, 32, 33, 34, 35, 36, 37, 38, 39, 40, 41, 42, 43, 44, 45, 46, 47, 48, 49, 50, 51, 52, 53, 54, 55, 73, 74, 75, 76, 77, 78, 79, 80, 81, 82, 83] (by decide +kernel) (by decide +kernel)
set_option maxRecDepth 20000 in
theorem gX6_weak_X5_weigh : GoodIn wsX6_weak (wsV RX6 131 RX5 yX5_weigh wsX5_weigh) := goodIn_app (goodIn_of _ (by decide +kernel)) ggX6_weak_X5_weigh
set_option maxRecDepth 20000 in
theorem ggX6_weak_X5_isLaid : GoodIn wsX6_weak wsX5_isLaid := goodIn_r _ [32, 33, 34, 7, 35, 73, 74, 75, 76, 77, 78, 79, 80, 81, 82, 83] (by decide +kernel) (by decide +kernel)
set_option maxRecDepth 20000 in
theorem gX6_weak_X5_isLaid : GoodIn wsX6_weak (wsV RX6 76 RX5 yX5_isLaid wsX5_isLaid) := goodIn_app (goodIn_of _ (by decide +kernel)) ggX6_weak_X5_isLaid
set_option maxRecDepth 20000 in
theorem ggX6_weak_X6_at_ : GoodIn wsX6_weak wsX6_at_ := goodIn_r _ [50] (by decide +kernel) (by decide +kernel)
set_option maxRecDepth 20000 in
theorem gX6_weak_X6_at_ : GoodIn wsX6_weak (va_wsS RX6 138 yX6_at_ wsX6_at_) := goodIn_app (goodIn_of _ (by decide +kernel)) ggX6_weak_X6_at_
set_option maxRecDepth 20000 in
theorem ggX6_weak_X6_at : GoodIn wsX6_weak wsX6_at := goodIn_r _ [28] (by decide +kernel) (by decide +kernel)
set_option maxRecDepth 20000 in
theorem gX6_weak_X6_at : GoodIn wsX6_weak (va_wsS RX6 121 yX6_at wsX6_at) := goodIn_app (goodIn_of _ (by decide +kernel)) ggX6_weak_X6_at
set_option maxRecDepth 20000 in
theorem ggX6_weak_X6_inLowestTerms : GoodIn wsX6_weak wsX6_inLowestTerms := goodIn_r _ [61, 62, 63, 7, 64] (by decide +kernel) (by decide +kernel)
set_option maxRecDepth 20000 in
theorem gX6_weak_X6_inLowestTerms : GoodIn wsX6_weak (va_wsS RX6 143 yX6_inLowestTerms wsX6_inLowestTerms) := goodIn_app (goodIn_of _ (by decide +kernel)) ggX6_weak_X6_inLowestTerms
theorem dX6_weak_0 : decode cX6_weak 0 = .ok (.iload_n 1, 1) := by decide +kernel
theorem dX6_weak_1 : decode cX6_weak 1 = .ok (.iconst 0, 1) := by decide +kernel
theorem dX6_weak_2 : decode cX6_weak 2 = .ok (.bipush 10, 2) := by decide +kernel
theorem dX6_weak_4 : decode cX6_weak 4 = .ok (.invokestatic 57, 3) := by decide +kernel
theorem dX6_weak_7 : decode cX6_weak 7 = .ok (.ifCond .ne 21, 3) := by decide +kernel
theorem dX6_weak_10 : decode cX6_weak 10 = .ok (.iload_n 2, 1) := by decide +kernel
theorem dX6_weak_11 : decode cX6_weak 11 = .ok (.iconst 0, 1) := by decide +kernel
theorem dX6_weak_12 : decode cX6_weak 12 = .ok (.iconst 1, 1) := by decide +kernel
theorem dX6_weak_13 : decode cX6_weak 13 = .ok (.invokestatic 57, 3) := by decide +kernel
theorem dX6_weak_16 : decode cX6_weak 16 = .ok (.ifCond .ne 12, 3) := by decide +kernel
theorem dX6_weak_19 : decode cX6_weak 19 = .ok (.iload_n 3, 1) := by decide +kernel
theorem dX6_weak_20 : decode cX6_weak 20 = .ok (.iconst 0, 1) := by decide +kernel
theorem dX6_weak_21 : decode cX6_weak 21 = .ok (.iconst 1, 1) := by decide +kernel
theorem dX6_weak_22 : decode cX6_weak 22 = .ok (.invokestatic 57, 3) := by decide +kernel
theorem dX6_weak_25 : decode cX6_weak 25 = .ok (.ifCond .eq 7, 3) := by decide +kernel
theorem dX6_weak_28 : decode cX6_weak 28 = .ok (.ldc2_w 127, 3) := by decide +kernel
theorem dX6_weak_31 : decode cX6_weak 31 = .ok (.lreturn, 1) := by decide +kernel
theorem dX6_weak_32 : decode cX6_weak 32 = .ok (.aload_n 0, 1) := by decide +kernel
theorem dX6_weak_33 : decode cX6_weak 33 = .ok (.getfield 10, 3) := by decide +kernel
theorem dX6_weak_36 : decode cX6_weak 36 = .ok (.invokevirtual 131, 3) := by decide +kernel
theorem dX6_weak_39 : decode cX6_weak 39 = .ok (.lconst 1, 1) := by decide +kernel
theorem dX6_weak_40 : decode cX6_weak 40 = .ok (.lstore 4, 2) := by decide +kernel
theorem dX6_weak_42 : decode cX6_weak 42 = .ok (.lconst 1, 1) := by decide +kernel
theorem dX6_weak_43 : decode cX6_weak 43 = .ok (.lstore 6, 2) := by decide +kernel
theorem dX6_weak_45 : decode cX6_weak 45 = .ok (.iconst 0, 1) := by decide +kernel
theorem dX6_weak_46 : decode cX6_weak 46 = .ok (.istore 8, 2) := by decide +kernel
theorem dX6_weak_48 : decode cX6_weak 48 = .ok (.iconst 0, 1) := by decide +kernel
theorem dX6_weak_49 : decode cX6_weak 49 = .ok (.istore 9, 2) := by decide +kernel
theorem dX6_weak_51 : decode cX6_weak 51 = .ok (.iload 9, 2) := by decide +kernel
theorem dX6_weak_53 : decode cX6_weak 53 = .ok (.bipush 10, 2) := by decide +kernel
theorem dX6_weak_55 : decode cX6_weak 55 = .ok (.if_icmp .ge 77, 3) := by decide +kernel
theorem dX6_weak_58 : decode cX6_weak 58 = .ok (.aload_n 0, 1) := by decide +kernel
theorem dX6_weak_59 : decode cX6_weak 59 = .ok (.getfield 10, 3) := by decide +kernel
theorem dX6_weak_62 : decode cX6_weak 62 = .ok (.iload 9, 2) := by decide +kernel
theorem dX6_weak_64 : decode cX6_weak 64 = .ok (.invokevirtual 76, 3) := by decide +kernel
theorem dX6_weak_67 : decode cX6_weak 67 = .ok (.ifCond .eq 59, 3) := by decide +kernel
theorem dX6_weak_70 : decode cX6_weak 70 = .ok (.aload_n 0, 1) := by decide +kernel
theorem dX6_weak_71 : decode cX6_weak 71 = .ok (.getfield 10, 3) := by decide +kernel
theorem dX6_weak_74 : decode cX6_weak 74 = .ok (.getfield 134, 3) := by decide +kernel
theorem dX6_weak_77 : decode cX6_weak 77 = .ok (.iload 9, 2) := by decide +kernel
theorem dX6_weak_79 : decode cX6_weak 79 = .ok (.invokestatic 138, 3) := by decide +kernel
theorem dX6_weak_82 : decode cX6_weak 82 = .ok (.aload_n 0, 1) := by decide +kernel
theorem dX6_weak_83 : decode cX6_weak 83 = .ok (.getfield 10, 3) := by decide +kernel
theorem dX6_weak_86 : decode cX6_weak 86 = .ok (.getfield 161, 3) := by decide +kernel
theorem dX6_weak_89 : decode cX6_weak 89 = .ok (.iload 9, 2) := by decide +kernel
theorem dX6_weak_91 : decode cX6_weak 91 = .ok (.invokestatic 121, 3) := by decide +kernel
theorem dX6_weak_94 : decode cX6_weak 94 = .ok (.iconst 2, 1) := by decide +kernel
theorem dX6_weak_95 : decode cX6_weak 95 = .ok (.idiv, 1) := by decide +kernel
theorem dX6_weak_96 : decode cX6_weak 96 = .ok (.i2l, 1) := by decide +kernel
theorem dX6_weak_97 : decode cX6_weak 97 = .ok (.ldc2_w 141, 3) := by decide +kernel
theorem dX6_weak_100 : decode cX6_weak 100 = .ok (.lmul, 1) := by decide +kernel
theorem dX6_weak_101 : decode cX6_weak 101 = .ok (.lcmp, 1) := by decide +kernel
theorem dX6_weak_102 : decode cX6_weak 102 = .ok (.ifCond .le 24, 3) := by decide +kernel
theorem dX6_weak_105 : decode cX6_weak 105 = .ok (.lload 4, 2) := by decide +kernel
theorem dX6_weak_107 : decode cX6_weak 107 = .ok (.bipush 10, 2) := by decide +kernel
theorem dX6_weak_109 : decode cX6_weak 109 = .ok (.iload_n 1, 1) := by decide +kernel
theorem dX6_weak_110 : decode cX6_weak 110 = .ok (.isub, 1) := by decide +kernel
theorem dX6_weak_111 : decode cX6_weak 111 = .ok (.i2l, 1) := by decide +kernel
theorem dX6_weak_112 : decode cX6_weak 112 = .ok (.lmul, 1) := by decide +kernel
theorem dX6_weak_113 : decode cX6_weak 113 = .ok (.lstore 4, 2) := by decide +kernel
theorem dX6_weak_115 : decode cX6_weak 115 = .ok (.lload 6, 2) := by decide +kernel
theorem dX6_weak_117 : decode cX6_weak 117 = .ok (.ldc2_w 230, 3) := by decide +kernel
theorem dX6_weak_120 : decode cX6_weak 120 = .ok (.lmul, 1) := by decide +kernel
theorem dX6_weak_121 : decode cX6_weak 121 = .ok (.lstore 6, 2) := by decide +kernel
theorem dX6_weak_123 : decode cX6_weak 123 = .ok (.iinc 8 1, 3) := by decide +kernel
theorem dX6_weak_126 : decode cX6_weak 126 = .ok (.iinc 9 1, 3) := by decide +kernel
theorem dX6_weak_129 : decode cX6_weak 129 = .ok (.goto (-78), 3) := by decide +kernel
theorem dX6_weak_132 : decode cX6_weak 132 = .ok (.iload_n 2, 1) := by decide +kernel
theorem dX6_weak_133 : decode cX6_weak 133 = .ok (.ifCond .ne 14, 3) := by decide +kernel
theorem dX6_weak_136 : decode cX6_weak 136 = .ok (.lload 4, 2) := by decide +kernel
theorem dX6_weak_138 : decode cX6_weak 138 = .ok (.lload 6, 2) := by decide +kernel
theorem dX6_weak_140 : decode cX6_weak 140 = .ok (.iload_n 3, 1) := by decide +kernel
theorem dX6_weak_141 : decode cX6_weak 141 = .ok (.invokestatic 143, 3) := by decide +kernel
theorem dX6_weak_144 : decode cX6_weak 144 = .ok (.goto 15, 3) := by decide +kernel
theorem dX6_weak_147 : decode cX6_weak 147 = .ok (.iload 8, 2) := by decide +kernel
theorem dX6_weak_149 : decode cX6_weak 149 = .ok (.iload_n 1, 1) := by decide +kernel
theorem dX6_weak_150 : decode cX6_weak 150 = .ok (.imul, 1) := by decide +kernel
theorem dX6_weak_151 : decode cX6_weak 151 = .ok (.i2l, 1) := by decide +kernel
theorem dX6_weak_152 : decode cX6_weak 152 = .ok (.ldc2_w 230, 3) := by decide +kernel
theorem dX6_weak_155 : decode cX6_weak 155 = .ok (.iload_n 3, 1) := by decide +kernel
theorem dX6_weak_156 : decode cX6_weak 156 = .ok (.invokestatic 143, 3) := by decide +kernel
theorem dX6_weak_159 : decode cX6_weak 159 = .ok (.lreturn, 1) := by decide +kernel
set_option maxRecDepth 20000 in
theorem ggX6_year_X6_isOutside : GoodIn wsX6_year wsX6_isOutside := goodIn_r _ [11] (by decide +kernel) (by decide +kernel)
set_option maxRecDepth 20000 in
theorem gX6_year_X6_isOutside : GoodIn wsX6_year (va_wsS RX6 57 yX6_isOutside wsX6_isOutside) := goodIn_app (goodIn_of _ (by decide +kernel)) ggX6_year_X6_isOutside
set_option maxRecDepth 20000 in
theorem ggX6_year_X5_become : GoodIn wsX6_year wsX5_become := goodIn_r _ [16, 17, 18, 19, 20, 21, 22, 23, 24, 25, 26, 27, 10, 28, 29, 30, 6, 31, 32, 33, 34, 35, 130, 131, 132, 133, 134, 135, 136, 137, 138, 139, 140] (by decide +kernel) (by decide +kernel)
set_option maxRecDepth 20000 in
theorem gX6_year_X5_become : GoodIn wsX6_year (wsV RX6 106 RX5 yX5_become wsX5_become) := goodIn_app (goodIn_of _ (by decide +kernel)) ggX6_year_X5_become
set_option maxRecDepth 20000 in
theorem ggX6_year_X6_leftOver : GoodIn wsX6_year wsX6_leftOver := goodIn_r _ [38] (by decide +kernel) (by decide +kernel)
set_option maxRecDepth 20000 in
theorem gX6_year_X6_leftOver : GoodIn wsX6_year (va_wsS RX6 233 yX6_leftOver wsX6_leftOver) := goodIn_app (goodIn_of _ (by decide +kernel)) ggX6_year_X6_leftOver
set_option maxRecDepth 20000 in
theorem ggX6_year_X5_put : GoodIn wsX6_year wsX5_put := goodIn_r _ [42, 20, 17, 43, 44, 45, 15, 46, 47, 48, 49, 50, 18, 19, 51, 10, 52, 53, 54, 55, 56, 57, 58, 26, 59, 5, 6, 7, 60, 61, 62, 63, 25, 64, 65, 66, 67, 23, 24, 68, 69, 70, 71, 72, 73, 74, 75, 76, 77, 78, 79, 80, 81, 82, 83, 84, 85, 86, 87, 88, 89, 90, 91, 21, 92, 93, 94, 95, 96, 97, 98, 99, 100, 101, 102, 103, 104, 22, 105, 106, 107, 108, 109, 110, 111, 112, 130, 131, 132, 133, 134, 135, 136, 137, 138, 139, 140] (by decide +kernel) (by decide +kernel)
set_option maxRecDepth 20000 in
theorem gX6_year_X5_put : GoodIn wsX6_year (wsV RX6 174 RX5 yX5_put wsX5_put) := goodIn_app (goodIn_of _ (by decide +kernel)) ggX6_year_X5_put
set_option maxRecDepth 20000 in
theorem ggX6_year_X5_take : GoodIn wsX6_year wsX5_take := goodIn_r _ [116, 84, 85, 86, 15, 87, 19, 51, 10, 52, 117, 118, 119, 120, 20, 25, 23, 24, 53, 54, 70, 71, 72, 105, 106, 107, 108, 26, 68, 69, 109, 110, 111, 112, 130, 131, 132, 133, 134, 135, 136, 137, 138, 139, 140] (by decide +kernel) (by decide +kernel)
set_option maxRecDepth 20000 in
theorem gX6_year_X5_take : GoodIn wsX6_year (wsV RX6 236 RX5 yX5_take wsX5_take) := goodIn_app (goodIn_of _ (by decide +kernel)) ggX6_year_X5_take
set_option maxRecDepth 20000 in
theorem ggX6_year_X5_tallest : GoodIn wsX6_year wsX5_tallest := goodIn_r _ [83, 26, 59, 5, 6, 7, 53, 10, 54, 130, 131, 132, 133, 134, 135, 136, 137, 138, 139, 140] (by decide +kernel) (by decide +kernel)
set_option maxRecDepth 20000 in
theorem gX6_year_X5_tallest : GoodIn wsX6_year (wsV RX6 239 RX5 yX5_tallest wsX5_tallest) := goodIn_app (goodIn_of _ (by decide +kernel)) ggX6_year_X5_tallest
theorem dX6_year_0 : decode cX6_year 0 = .ok (.iload_n 1, 1) := by decide +kernel
theorem dX6_year_1 : decode cX6_year 1 = .ok (.iconst 0, 1) := by decide +kernel
theorem dX6_year_2 : decode cX6_year 2 = .ok (.sipush 9999, 3) := by decide +kernel
theorem dX6_year_5 : decode cX6_year 5 = .ok (.invokestatic 57, 3) := by decide +kernel
theorem dX6_year_8 : decode cX6_year 8 = .ok (.ifCond .ne 22, 3) := by decide +kernel
theorem dX6_year_11 : decode cX6_year 11 = .ok (.iload_n 2, 1) := by decide +kernel
theorem dX6_year_12 : decode cX6_year 12 = .ok (.iconst 1, 1) := by decide +kernel
theorem dX6_year_13 : decode cX6_year 13 = .ok (.bipush 99, 2) := by decide +kernel
theorem dX6_year_15 : decode cX6_year 15 = .ok (.invokestatic 57, 3) := by decide +kernel
theorem dX6_year_18 : decode cX6_year 18 = .ok (.ifCond .ne 12, 3) := by decide +kernel
theorem dX6_year_21 : decode cX6_year 21 = .ok (.iload_n 3, 1) := by decide +kernel
theorem dX6_year_22 : decode cX6_year 22 = .ok (.iconst 0, 1) := by decide +kernel
theorem dX6_year_23 : decode cX6_year 23 = .ok (.iconst 2, 1) := by decide +kernel
theorem dX6_year_24 : decode cX6_year 24 = .ok (.invokestatic 57, 3) := by decide +kernel
theorem dX6_year_27 : decode cX6_year 27 = .ok (.ifCond .eq 6, 3) := by decide +kernel
theorem dX6_year_30 : decode cX6_year 30 = .ok (.bipush (-2), 2) := by decide +kernel
theorem dX6_year_32 : decode cX6_year 32 = .ok (.ireturn, 1) := by decide +kernel
theorem dX6_year_33 : decode cX6_year 33 = .ok (.aload_n 0, 1) := by decide +kernel
theorem dX6_year_34 : decode cX6_year 34 = .ok (.getfield 16, 3) := by decide +kernel
theorem dX6_year_37 : decode cX6_year 37 = .ok (.aload_n 0, 1) := by decide +kernel
theorem dX6_year_38 : decode cX6_year 38 = .ok (.getfield 10, 3) := by decide +kernel
theorem dX6_year_41 : decode cX6_year 41 = .ok (.invokevirtual 106, 3) := by decide +kernel
theorem dX6_year_44 : decode cX6_year 44 = .ok (.iload_n 1, 1) := by decide +kernel
theorem dX6_year_45 : decode cX6_year 45 = .ok (.istore 4, 2) := by decide +kernel
theorem dX6_year_47 : decode cX6_year 47 = .ok (.iconst 0, 1) := by decide +kernel
theorem dX6_year_48 : decode cX6_year 48 = .ok (.istore 5, 2) := by decide +kernel
theorem dX6_year_50 : decode cX6_year 50 = .ok (.iconst 0, 1) := by decide +kernel
theorem dX6_year_51 : decode cX6_year 51 = .ok (.istore 6, 2) := by decide +kernel
theorem dX6_year_53 : decode cX6_year 53 = .ok (.iconst 0, 1) := by decide +kernel
theorem dX6_year_54 : decode cX6_year 54 = .ok (.istore 7, 2) := by decide +kernel
theorem dX6_year_56 : decode cX6_year 56 = .ok (.iconst 0, 1) := by decide +kernel
theorem dX6_year_57 : decode cX6_year 57 = .ok (.istore 8, 2) := by decide +kernel
theorem dX6_year_59 : decode cX6_year 59 = .ok (.iload 8, 2) := by decide +kernel
theorem dX6_year_61 : decode cX6_year 61 = .ok (.iload_n 2, 1) := by decide +kernel
theorem dX6_year_62 : decode cX6_year 62 = .ok (.if_icmp .ge 91, 3) := by decide +kernel
theorem dX6_year_65 : decode cX6_year 65 = .ok (.bipush 75, 2) := by decide +kernel
theorem dX6_year_67 : decode cX6_year 67 = .ok (.iload 4, 2) := by decide +kernel
theorem dX6_year_69 : decode cX6_year 69 = .ok (.imul, 1) := by decide +kernel
theorem dX6_year_70 : decode cX6_year 70 = .ok (.bipush 74, 2) := by decide +kernel
theorem dX6_year_72 : decode cX6_year 72 = .ok (.iadd, 1) := by decide +kernel
theorem dX6_year_73 : decode cX6_year 73 = .ok (.ldc 232, 2) := by decide +kernel
theorem dX6_year_75 : decode cX6_year 75 = .ok (.irem, 1) := by decide +kernel
theorem dX6_year_76 : decode cX6_year 76 = .ok (.istore 4, 2) := by decide +kernel
theorem dX6_year_78 : decode cX6_year 78 = .ok (.iload 4, 2) := by decide +kernel
theorem dX6_year_80 : decode cX6_year 80 = .ok (.bipush 10, 2) := by decide +kernel
theorem dX6_year_82 : decode cX6_year 82 = .ok (.irem, 1) := by decide +kernel
theorem dX6_year_83 : decode cX6_year 83 = .ok (.istore 9, 2) := by decide +kernel
theorem dX6_year_85 : decode cX6_year 85 = .ok (.aload_n 0, 1) := by decide +kernel
theorem dX6_year_86 : decode cX6_year 86 = .ok (.getfield 16, 3) := by decide +kernel
theorem dX6_year_89 : decode cX6_year 89 = .ok (.iload 9, 2) := by decide +kernel
theorem dX6_year_91 : decode cX6_year 91 = .ok (.iload 4, 2) := by decide +kernel
theorem dX6_year_93 : decode cX6_year 93 = .ok (.bipush 10, 2) := by decide +kernel
theorem dX6_year_95 : decode cX6_year 95 = .ok (.idiv, 1) := by decide +kernel
theorem dX6_year_96 : decode cX6_year 96 = .ok (.aload_n 0, 1) := by decide +kernel
theorem dX6_year_97 : decode cX6_year 97 = .ok (.getfield 16, 3) := by decide +kernel
theorem dX6_year_100 : decode cX6_year 100 = .ok (.getfield 61, 3) := by decide +kernel
theorem dX6_year_103 : decode cX6_year 103 = .ok (.invokestatic 233, 3) := by decide +kernel
theorem dX6_year_106 : decode cX6_year 106 = .ok (.invokevirtual 174, 3) := by decide +kernel
theorem dX6_year_109 : decode cX6_year 109 = .ok (.ifCond .ne 9, 3) := by decide +kernel
theorem dX6_year_112 : decode cX6_year 112 = .ok (.iinc 5 1, 3) := by decide +kernel
theorem dX6_year_115 : decode cX6_year 115 = .ok (.goto 18, 3) := by decide +kernel
theorem dX6_year_118 : decode cX6_year 118 = .ok (.aload_n 0, 1) := by decide +kernel
theorem dX6_year_119 : decode cX6_year 119 = .ok (.getfield 16, 3) := by decide +kernel
theorem dX6_year_122 : decode cX6_year 122 = .ok (.iload 9, 2) := by decide +kernel
theorem dX6_year_124 : decode cX6_year 124 = .ok (.invokevirtual 236, 3) := by decide +kernel
theorem dX6_year_127 : decode cX6_year 127 = .ok (.ifCond .ne 6, 3) := by decide +kernel
theorem dX6_year_130 : decode cX6_year 130 = .ok (.iinc 6 1, 3) := by decide +kernel
theorem dX6_year_133 : decode cX6_year 133 = .ok (.iload 7, 2) := by decide +kernel
theorem dX6_year_135 : decode cX6_year 135 = .ok (.aload_n 0, 1) := by decide +kernel
theorem dX6_year_136 : decode cX6_year 136 = .ok (.getfield 16, 3) := by decide +kernel
theorem dX6_year_139 : decode cX6_year 139 = .ok (.invokevirtual 239, 3) := by decide +kernel
theorem dX6_year_142 : decode cX6_year 142 = .ok (.invokestatic 242, 3) := by decide +kernel
theorem dX6_year_145 : decode cX6_year 145 = .ok (.istore 7, 2) := by decide +kernel
theorem dX6_year_147 : decode cX6_year 147 = .ok (.iinc 8 1, 3) := by decide +kernel
theorem dX6_year_150 : decode cX6_year 150 = .ok (.goto (-91), 3) := by decide +kernel
theorem dX6_year_153 : decode cX6_year 153 = .ok (.iload_n 3, 1) := by decide +kernel
theorem dX6_year_154 : decode cX6_year 154 = .ok (.ifCond .ne 8, 3) := by decide +kernel
theorem dX6_year_157 : decode cX6_year 157 = .ok (.iload 5, 2) := by decide +kernel
theorem dX6_year_159 : decode cX6_year 159 = .ok (.goto 15, 3) := by decide +kernel
theorem dX6_year_162 : decode cX6_year 162 = .ok (.iload_n 3, 1) := by decide +kernel
theorem dX6_year_163 : decode cX6_year 163 = .ok (.iconst 1, 1) := by decide +kernel
theorem dX6_year_164 : decode cX6_year 164 = .ok (.if_icmp .ne 8, 3) := by decide +kernel
theorem dX6_year_167 : decode cX6_year 167 = .ok (.iload 6, 2) := by decide +kernel
theorem dX6_year_169 : decode cX6_year 169 = .ok (.goto 5, 3) := by decide +kernel
theorem dX6_year_172 : decode cX6_year 172 = .ok (.iload 7, 2) := by decide +kernel
theorem dX6_year_174 : decode cX6_year 174 = .ok (.ireturn, 1) := by decide +kernel
set_option maxRecDepth 20000 in
theorem ggX6_image_X6_isOutside : GoodIn wsX6_image wsX6_isOutside := goodIn_r _ [8] (by decide +kernel) (by decide +kernel)
set_option maxRecDepth 20000 in
theorem gX6_image_X6_isOutside : GoodIn wsX6_image (va_wsS RX6 57 yX6_isOutside wsX6_isOutside) := goodIn_app (goodIn_of _ (by decide +kernel)) ggX6_image_X6_isOutside
set_option maxRecDepth 20000 in
theorem ggX6_image_X5_become : GoodIn wsX6_image wsX5_become := goodIn_r _ [13, 14, 15, 16, 17, 18, 19, 20, 21, 22, 23, 24, 7, 25, 26, 27, 28, 29, 30, 31, 32, 33, 53, 54, 55, 56, 57, 58, 59, 60, 61, 62, 63] (by decide +kernel) (by decide +kernel)
set_option maxRecDepth 20000 in
theorem gX6_image_X5_become : GoodIn wsX6_image (wsV RX6 106 RX5 yX5_become wsX5_become) := goodIn_app (goodIn_of _ (by decide +kernel)) ggX6_image_X5_become
set_option maxRecDepth 20000 in
theorem ggX6_image_X4_become : GoodIn wsX6_image wsX4_become := goodIn_r _ [38, 39, 40, 41, 24, 7, 25, 26, 27, 28, 29, 30, 31, 32, 33, 64, 65, 66] (by decide +kernel) (by decide +kernel)
set_option maxRecDepth 20000 in
theorem gX6_image_X4_become : GoodIn wsX6_image (wsV RX6 251 RX4 yX4_become wsX4_become) := goodIn_app (goodIn_of _ (by decide +kernel)) ggX6_image_X4_become
theorem dX6_image_0 : decode cX6_image 0 = .ok (.iload_n 1, 1) := by decide +kernel
theorem dX6_image_1 : decode cX6_image 1 = .ok (.iconst 0, 1) := by decide +kernel
theorem dX6_image_2 : decode cX6_image 2 = .ok (.iconst 1, 1) := by decide +kernel
theorem dX6_image_3 : decode cX6_image 3 = .ok (.invokestatic 57, 3) := by decide +kernel
theorem dX6_image_6 : decode cX6_image 6 = .ok (.ifCond .eq 6, 3) := by decide +kernel
theorem dX6_image_9 : decode cX6_image 9 = .ok (.bipush (-2), 2) := by decide +kernel
theorem dX6_image_11 : decode cX6_image 11 = .ok (.ireturn, 1) := by decide +kernel
theorem dX6_image_12 : decode cX6_image 12 = .ok (.iload_n 1, 1) := by decide +kernel
theorem dX6_image_13 : decode cX6_image 13 = .ok (.ifCond .ne 10, 3) := by decide +kernel
theorem dX6_image_16 : decode cX6_image 16 = .ok (.aload_n 0, 1) := by decide +kernel
theorem dX6_image_17 : decode cX6_image 17 = .ok (.getfield 36, 3) := by decide +kernel
theorem dX6_image_20 : decode cX6_image 20 = .ok (.goto 7, 3) := by decide +kernel
theorem dX6_image_23 : decode cX6_image 23 = .ok (.aload_n 0, 1) := by decide +kernel
theorem dX6_image_24 : decode cX6_image 24 = .ok (.getfield 40, 3) := by decide +kernel
theorem dX6_image_27 : decode cX6_image 27 = .ok (.astore_n 2, 1) := by decide +kernel
theorem dX6_image_28 : decode cX6_image 28 = .ok (.aload_n 2, 1) := by decide +kernel
theorem dX6_image_29 : decode cX6_image 29 = .ok (.getfield 247, 3) := by decide +kernel
theorem dX6_image_32 : decode cX6_image 32 = .ok (.aload_n 0, 1) := by decide +kernel
theorem dX6_image_33 : decode cX6_image 33 = .ok (.getfield 10, 3) := by decide +kernel
theorem dX6_image_36 : decode cX6_image 36 = .ok (.invokevirtual 106, 3) := by decide +kernel
theorem dX6_image_39 : decode cX6_image 39 = .ok (.aload_n 2, 1) := by decide +kernel
theorem dX6_image_40 : decode cX6_image 40 = .ok (.getfield 250, 3) := by decide +kernel
theorem dX6_image_43 : decode cX6_image 43 = .ok (.aload_n 0, 1) := by decide +kernel
theorem dX6_image_44 : decode cX6_image 44 = .ok (.getfield 22, 3) := by decide +kernel
theorem dX6_image_47 : decode cX6_image 47 = .ok (.invokevirtual 251, 3) := by decide +kernel
theorem dX6_image_50 : decode cX6_image 50 = .ok (.aload_n 2, 1) := by decide +kernel
theorem dX6_image_51 : decode cX6_image 51 = .ok (.iconst 1, 1) := by decide +kernel
theorem dX6_image_52 : decode cX6_image 52 = .ok (.putfield 254, 3) := by decide +kernel
theorem dX6_image_55 : decode cX6_image 55 = .ok (.iconst 1, 1) := by decide +kernel
theorem dX6_image_56 : decode cX6_image 56 = .ok (.ireturn, 1) := by decide +kernel
set_option maxRecDepth 20000 in
theorem ggX6_restore_X6_isOutside : GoodIn wsX6_restore wsX6_isOutside := goodIn_r _ [8] (by decide +kernel) (by decide +kernel)
set_option maxRecDepth 20000 in
theorem gX6_restore_X6_isOutside : GoodIn wsX6_restore (va_wsS RX6 57 yX6_isOutside wsX6_isOutside) := goodIn_app (goodIn_of _ (by decide +kernel)) ggX6_restore_X6_isOutside
set_option maxRecDepth 20000 in
theorem ggX6_restore_X5_become : GoodIn wsX6_restore wsX5_become := goodIn_r _ [13, 14, 15, 16, 17, 18, 19, 20, 21, 22, 23, 24, 7, 25, 26, 27, 28, 29, 30, 31, 32, 33, 53, 54, 55, 56, 57, 58, 59, 60, 61, 62, 63] (by decide +kernel) (by decide +kernel)
set_option maxRecDepth 20000 in
theorem gX6_restore_X5_become : GoodIn wsX6_restore (wsV RX6 106 RX5 yX5_become wsX5_become) := goodIn_app (goodIn_of _ (by decide +kernel)) ggX6_restore_X5_become
set_option maxRecDepth 20000 in
theorem ggX6_restore_X4_become : GoodIn wsX6_restore wsX4_become := goodIn_r _ [38, 39, 40, 41, 24, 7, 25, 26, 27, 28, 29, 30, 31, 32, 33, 64, 65, 66] (by decide +kernel) (by decide +kernel)
set_option maxRecDepth 20000 in
theorem gX6_restore_X4_become : GoodIn wsX6_restore (wsV RX6 251 RX4 yX4_become wsX4_become) := goodIn_app (goodIn_of _ (by decide +kernel)) ggX6_restore_X4_become
theorem dX6_restore_0 : decode cX6_restore 0 = .ok (.iload_n 1, 1) := by decide +kernel
theorem dX6_restore_1 : decode cX6_restore 1 = .ok (.iconst 0, 1) := by decide +kernel
theorem dX6_restore_2 : decode cX6_restore 2 = .ok (.iconst 1, 1) := by decide +kernel
theorem dX6_restore_3 : decode cX6_restore 3 = .ok (.invokestatic 57, 3) := by decide +kernel
theorem dX6_restore_6 : decode cX6_restore 6 = .ok (.ifCond .eq 6, 3) := by decide +kernel
theorem dX6_restore_9 : decode cX6_restore 9 = .ok (.bipush (-2), 2) := by decide +kernel
theorem dX6_restore_11 : decode cX6_restore 11 = .ok (.ireturn, 1) := by decide +kernel
theorem dX6_restore_12 : decode cX6_restore 12 = .ok (.iload_n 1, 1) := by decide +kernel
theorem dX6_restore_13 : decode cX6_restore 13 = .ok (.ifCond .ne 10, 3) := by decide +kernel
theorem dX6_restore_16 : decode cX6_restore 16 = .ok (.aload_n 0, 1) := by decide +kernel
theorem dX6_restore_17 : decode cX6_restore 17 = .ok (.getfield 36, 3) := by decide +kernel
theorem dX6_restore_20 : decode cX6_restore 20 = .ok (.goto 7, 3) := by decide +kernel
theorem dX6_restore_23 : decode cX6_restore 23 = .ok (.aload_n 0, 1) := by decide +kernel
theorem dX6_restore_24 : decode cX6_restore 24 = .ok (.getfield 40, 3) := by decide +kernel
theorem dX6_restore_27 : decode cX6_restore 27 = .ok (.astore_n 2, 1) := by decide +kernel
theorem dX6_restore_28 : decode cX6_restore 28 = .ok (.aload_n 2, 1) := by decide +kernel
theorem dX6_restore_29 : decode cX6_restore 29 = .ok (.getfield 254, 3) := by decide +kernel
theorem dX6_restore_32 : decode cX6_restore 32 = .ok (.ifCond .ne 6, 3) := by decide +kernel
theorem dX6_restore_35 : decode cX6_restore 35 = .ok (.bipush (-3), 2) := by decide +kernel
theorem dX6_restore_37 : decode cX6_restore 37 = .ok (.ireturn, 1) := by decide +kernel
theorem dX6_restore_38 : decode cX6_restore 38 = .ok (.aload_n 0, 1) := by decide +kernel
theorem dX6_restore_39 : decode cX6_restore 39 = .ok (.getfield 10, 3) := by decide +kernel
theorem dX6_restore_42 : decode cX6_restore 42 = .ok (.aload_n 2, 1) := by decide +kernel
theorem dX6_restore_43 : decode cX6_restore 43 = .ok (.getfield 247, 3) := by decide +kernel
theorem dX6_restore_46 : decode cX6_restore 46 = .ok (.invokevirtual 106, 3) := by decide +kernel
theorem dX6_restore_49 : decode cX6_restore 49 = .ok (.aload_n 0, 1) := by decide +kernel
theorem dX6_restore_50 : decode cX6_restore 50 = .ok (.getfield 22, 3) := by decide +kernel
theorem dX6_restore_53 : decode cX6_restore 53 = .ok (.aload_n 2, 1) := by decide +kernel
theorem dX6_restore_54 : decode cX6_restore 54 = .ok (.getfield 250, 3) := by decide +kernel
theorem dX6_restore_57 : decode cX6_restore 57 = .ok (.invokevirtual 251, 3) := by decide +kernel
theorem dX6_restore_60 : decode cX6_restore 60 = .ok (.iconst 1, 1) := by decide +kernel
theorem dX6_restore_61 : decode cX6_restore 61 = .ok (.ireturn, 1) := by decide +kernel
set_option maxRecDepth 20000 in
theorem ggX6_told_X6_toldOfStone : GoodIn wsX6_told wsX6_toldOfStone := goodIn_r _ [8, 2, 9, 10, 11, 12, 13, 14, 15, 7, 16, 17, 18, 19, 20, 21, 22, 23, 24, 25, 26, 27, 30, 31, 32, 33, 34, 35, 36, 37, 38, 39, 40] (by decide +kernel) (by decide +kernel)
set_option maxRecDepth 20000 in
theorem gX6_told_X6_toldOfStone : GoodIn wsX6_told (wsV RX6 261 RX6 yX6_toldOfStone wsX6_toldOfStone) := goodIn_app (goodIn_of _ (by decide +kernel)) ggX6_told_X6_toldOfStone
theorem dX6_told_0 : decode cX6_told 0 = .ok (.iload_n 1, 1) := by decide +kernel
theorem dX6_told_1 : decode cX6_told 1 = .ok (.tableswitch 75 0 4 #[35, 43, 51, 59, 67], 35) := by decide +kernel
theorem dX6_told_36 : decode cX6_told 36 = .ok (.aload_n 0, 1) := by decide +kernel
theorem dX6_told_37 : decode cX6_told 37 = .ok (.getfield 29, 3) := by decide +kernel
theorem dX6_told_40 : decode cX6_told 40 = .ok (.getfield 92, 3) := by decide +kernel
theorem dX6_told_43 : decode cX6_told 43 = .ok (.ireturn, 1) := by decide +kernel
theorem dX6_told_44 : decode cX6_told 44 = .ok (.aload_n 0, 1) := by decide +kernel
theorem dX6_told_45 : decode cX6_told 45 = .ok (.getfield 10, 3) := by decide +kernel
theorem dX6_told_48 : decode cX6_told 48 = .ok (.getfield 61, 3) := by decide +kernel
theorem dX6_told_51 : decode cX6_told 51 = .ok (.ireturn, 1) := by decide +kernel
theorem dX6_told_52 : decode cX6_told 52 = .ok (.aload_n 0, 1) := by decide +kernel
theorem dX6_told_53 : decode cX6_told 53 = .ok (.getfield 10, 3) := by decide +kernel
theorem dX6_told_56 : decode cX6_told 56 = .ok (.getfield 83, 3) := by decide +kernel
theorem dX6_told_59 : decode cX6_told 59 = .ok (.ireturn, 1) := by decide +kernel
theorem dX6_told_60 : decode cX6_told 60 = .ok (.aload_n 0, 1) := by decide +kernel
theorem dX6_told_61 : decode cX6_told 61 = .ok (.getfield 10, 3) := by decide +kernel
theorem dX6_told_64 : decode cX6_told 64 = .ok (.getfield 258, 3) := by decide +kernel
theorem dX6_told_67 : decode cX6_told 67 = .ok (.ireturn, 1) := by decide +kernel
theorem dX6_told_68 : decode cX6_told 68 = .ok (.aload_n 0, 1) := by decide +kernel
theorem dX6_told_69 : decode cX6_told 69 = .ok (.getfield 22, 3) := by decide +kernel
theorem dX6_told_72 : decode cX6_told 72 = .ok (.getfield 69, 3) := by decide +kernel
theorem dX6_told_75 : decode cX6_told 75 = .ok (.ireturn, 1) := by decide +kernel
theorem dX6_told_76 : decode cX6_told 76 = .ok (.aload_n 0, 1) := by decide +kernel
theorem dX6_told_77 : decode cX6_told 77 = .ok (.iload_n 1, 1) := by decide +kernel
theorem dX6_told_78 : decode cX6_told 78 = .ok (.bipush 10, 2) := by decide +kernel
theorem dX6_told_80 : decode cX6_told 80 = .ok (.idiv, 1) := by decide +kernel
theorem dX6_told_81 : decode cX6_told 81 = .ok (.iconst 1, 1) := by decide +kernel
theorem dX6_told_82 : decode cX6_told 82 = .ok (.isub, 1) := by decide +kernel
theorem dX6_told_83 : decode cX6_told 83 = .ok (.iload_n 1, 1) := by decide +kernel
theorem dX6_told_84 : decode cX6_told 84 = .ok (.bipush 10, 2) := by decide +kernel
theorem dX6_told_86 : decode cX6_told 86 = .ok (.irem, 1) := by decide +kernel
theorem dX6_told_87 : decode cX6_told 87 = .ok (.invokevirtual 261, 3) := by decide +kernel
theorem dX6_told_90 : decode cX6_told 90 = .ok (.ireturn, 1) := by decide +kernel
theorem dX6_isOutside_0 : decode cX6_isOutside 0 = .ok (.iload_n 0, 1) := by decide +kernel
theorem dX6_isOutside_1 : decode cX6_isOutside 1 = .ok (.iload_n 1, 1) := by decide +kernel
theorem dX6_isOutside_2 : decode cX6_isOutside 2 = .ok (.if_icmp .lt 8, 3) := by decide +kernel
theorem dX6_isOutside_5 : decode cX6_isOutside 5 = .ok (.iload_n 0, 1) := by decide +kernel
theorem dX6_isOutside_6 : decode cX6_isOutside 6 = .ok (.iload_n 2, 1) := by decide +kernel
theorem dX6_isOutside_7 : decode cX6_isOutside 7 = .ok (.if_icmp .le 7, 3) := by decide +kernel
theorem dX6_isOutside_10 : decode cX6_isOutside 10 = .ok (.iconst 1, 1) := by decide +kernel
theorem dX6_isOutside_11 : decode cX6_isOutside 11 = .ok (.goto 4, 3) := by decide +kernel
theorem dX6_isOutside_14 : decode cX6_isOutside 14 = .ok (.iconst 0, 1) := by decide +kernel
theorem dX6_isOutside_15 : decode cX6_isOutside 15 = .ok (.ireturn, 1) := by decide +kernel
set_option maxRecDepth 20000 in
theorem ggX6_isNoGuest_X6_isOutside : GoodIn wsX6_isNoGuest wsX6_isOutside := goodIn_r _ [4] (by decide +kernel) (by decide +kernel)
set_option maxRecDepth 20000 in
theorem gX6_isNoGuest_X6_isOutside : GoodIn wsX6_isNoGuest (va_wsS RX6 57 yX6_isOutside wsX6_isOutside) := goodIn_app (goodIn_of _ (by decide +kernel)) ggX6_isNoGuest_X6_isOutside
theorem dX6_isNoGuest_0 : decode cX6_isNoGuest 0 = .ok (.iload_n 0, 1) := by decide +kernel
theorem dX6_isNoGuest_1 : decode cX6_isNoGuest 1 = .ok (.iconst 0, 1) := by decide +kernel
theorem dX6_isNoGuest_2 : decode cX6_isNoGuest 2 = .ok (.bipush 9, 2) := by decide +kernel
theorem dX6_isNoGuest_4 : decode cX6_isNoGuest 4 = .ok (.invokestatic 57, 3) := by decide +kernel
theorem dX6_isNoGuest_7 : decode cX6_isNoGuest 7 = .ok (.ireturn, 1) := by decide +kernel
set_option maxRecDepth 20000 in
theorem ggX6_isNoColumn_X6_isOutside : GoodIn wsX6_isNoColumn wsX6_isOutside := goodIn_r _ [5] (by decide +kernel) (by decide +kernel)
set_option maxRecDepth 20000 in
theorem gX6_isNoColumn_X6_isOutside : GoodIn wsX6_isNoColumn (va_wsS RX6 57 yX6_isOutside wsX6_isOutside) := goodIn_app (goodIn_of _ (by decide +kernel)) ggX6_isNoColumn_X6_isOutside
theorem dX6_isNoColumn_0 : decode cX6_isNoColumn 0 = .ok (.iload_n 1, 1) := by decide +kernel
theorem dX6_isNoColumn_1 : decode cX6_isNoColumn 1 = .ok (.iconst 0, 1) := by decide +kernel
theorem dX6_isNoColumn_2 : decode cX6_isNoColumn 2 = .ok (.aload_n 0, 1) := by decide +kernel
theorem dX6_isNoColumn_3 : decode cX6_isNoColumn 3 = .ok (.getfield 10, 3) := by decide +kernel
theorem dX6_isNoColumn_6 : decode cX6_isNoColumn 6 = .ok (.getfield 61, 3) := by decide +kernel
theorem dX6_isNoColumn_9 : decode cX6_isNoColumn 9 = .ok (.iconst 1, 1) := by decide +kernel
theorem dX6_isNoColumn_10 : decode cX6_isNoColumn 10 = .ok (.isub, 1) := by decide +kernel
theorem dX6_isNoColumn_11 : decode cX6_isNoColumn 11 = .ok (.invokestatic 57, 3) := by decide +kernel
theorem dX6_isNoColumn_14 : decode cX6_isNoColumn 14 = .ok (.ireturn, 1) := by decide +kernel
set_option maxRecDepth 20000 in
theorem ggX6_toldOfStone_X5_isGiven : GoodIn wsX6_toldOfStone wsX5_isGiven := goodIn_r _ [6, 7, 8, 9, 10, 22, 23, 24, 25, 26, 27, 28, 29, 30, 31, 32] (by decide +kernel) (by decide +kernel)
set_option maxRecDepth 20000 in
theorem gX6_toldOfStone_X5_isGiven : GoodIn wsX6_toldOfStone (wsV RX6 264 RX5 yX5_isGiven wsX5_isGiven) := goodIn_app (goodIn_of _ (by decide +kernel)) ggX6_toldOfStone_X5_isGiven
set_option maxRecDepth 20000 in
theorem ggX6_toldOfStone_X6_at : GoodIn wsX6_toldOfStone wsX6_at := goodIn_r _ [13] (by decide +kernel) (by decide +kernel)
set_option maxRecDepth 20000 in
theorem gX6_toldOfStone_X6_at : GoodIn wsX6_toldOfStone (va_wsS RX6 121 yX6_at wsX6_at) := goodIn_app (goodIn_of _ (by decide +kernel)) ggX6_toldOfStone_X6_at
theorem dX6_toldOfStone_0 : decode cX6_toldOfStone 0 = .ok (.aload_n 0, 1) := by decide +kernel
theorem dX6_toldOfStone_1 : decode cX6_toldOfStone 1 = .ok (.getfield 10, 3) := by decide +kernel
theorem dX6_toldOfStone_4 : decode cX6_toldOfStone 4 = .ok (.iload_n 1, 1) := by decide +kernel
theorem dX6_toldOfStone_5 : decode cX6_toldOfStone 5 = .ok (.invokevirtual 264, 3) := by decide +kernel
theorem dX6_toldOfStone_8 : decode cX6_toldOfStone 8 = .ok (.ifCond .ne 6, 3) := by decide +kernel
theorem dX6_toldOfStone_11 : decode cX6_toldOfStone 11 = .ok (.bipush (-2), 2) := by decide +kernel
theorem dX6_toldOfStone_13 : decode cX6_toldOfStone 13 = .ok (.ireturn, 1) := by decide +kernel
theorem dX6_toldOfStone_14 : decode cX6_toldOfStone 14 = .ok (.iload_n 2, 1) := by decide +kernel
theorem dX6_toldOfStone_15 : decode cX6_toldOfStone 15 = .ok (.tableswitch 61 0 2 #[25, 37, 49], 25) := by decide +kernel
theorem dX6_toldOfStone_40 : decode cX6_toldOfStone 40 = .ok (.aload_n 0, 1) := by decide +kernel
theorem dX6_toldOfStone_41 : decode cX6_toldOfStone 41 = .ok (.getfield 10, 3) := by decide +kernel
theorem dX6_toldOfStone_44 : decode cX6_toldOfStone 44 = .ok (.getfield 180, 3) := by decide +kernel
theorem dX6_toldOfStone_47 : decode cX6_toldOfStone 47 = .ok (.iload_n 1, 1) := by decide +kernel
theorem dX6_toldOfStone_48 : decode cX6_toldOfStone 48 = .ok (.invokestatic 121, 3) := by decide +kernel
theorem dX6_toldOfStone_51 : decode cX6_toldOfStone 51 = .ok (.ireturn, 1) := by decide +kernel
theorem dX6_toldOfStone_52 : decode cX6_toldOfStone 52 = .ok (.aload_n 0, 1) := by decide +kernel
theorem dX6_toldOfStone_53 : decode cX6_toldOfStone 53 = .ok (.getfield 10, 3) := by decide +kernel
theorem dX6_toldOfStone_56 : decode cX6_toldOfStone 56 = .ok (.getfield 267, 3) := by decide +kernel
theorem dX6_toldOfStone_59 : decode cX6_toldOfStone 59 = .ok (.iload_n 1, 1) := by decide +kernel
theorem dX6_toldOfStone_60 : decode cX6_toldOfStone 60 = .ok (.invokestatic 121, 3) := by decide +kernel
theorem dX6_toldOfStone_63 : decode cX6_toldOfStone 63 = .ok (.ireturn, 1) := by decide +kernel
theorem dX6_toldOfStone_64 : decode cX6_toldOfStone 64 = .ok (.aload_n 0, 1) := by decide +kernel
theorem dX6_toldOfStone_65 : decode cX6_toldOfStone 65 = .ok (.getfield 10, 3) := by decide +kernel
theorem dX6_toldOfStone_68 : decode cX6_toldOfStone 68 = .ok (.getfield 161, 3) := by decide +kernel
theorem dX6_toldOfStone_71 : decode cX6_toldOfStone 71 = .ok (.iload_n 1, 1) := by decide +kernel
theorem dX6_toldOfStone_72 : decode cX6_toldOfStone 72 = .ok (.invokestatic 121, 3) := by decide +kernel
theorem dX6_toldOfStone_75 : decode cX6_toldOfStone 75 = .ok (.ireturn, 1) := by decide +kernel
theorem dX6_toldOfStone_76 : decode cX6_toldOfStone 76 = .ok (.bipush (-2), 2) := by decide +kernel
theorem dX6_toldOfStone_78 : decode cX6_toldOfStone 78 = .ok (.ireturn, 1) := by decide +kernel
set_option maxRecDepth 20000 in
theorem ggX6_tryPad_X2_firstFault : GoodIn wsX6_tryPad wsX2_firstFault := goodIn_r _ [8, 9, 10, 11, 12, 13, 152, 153] (by decide +kernel) (by decide +kernel)
set_option maxRecDepth 20000 in
theorem gX6_tryPad_X2_firstFault : GoodIn wsX6_tryPad (wsV RX6 96 RX2 yX2_firstFault wsX2_firstFault) := goodIn_app (goodIn_of _ (by decide +kernel)) ggX6_tryPad_X2_firstFault
set_option maxRecDepth 20000 in
theorem ggX6_tryPad_X5_become : GoodIn wsX6_tryPad wsX5_become := goodIn_r _ [18, 19, 20, 21, 22, 23, 24, 25, 26, 27, 28, 29, 12, 30, 31, 32, 33, 34, 35, 36, 37, 38, 141, 142, 143, 144, 145, 146, 147, 148, 149, 150, 151] (by decide +kernel) (by decide +kernel)
set_option maxRecDepth 20000 in
theorem gX6_tryPad_X5_become : GoodIn wsX6_tryPad (wsV RX6 106 RX5 yX5_become wsX5_become) := goodIn_app (goodIn_of _ (by decide +kernel)) ggX6_tryPad_X5_become
set_option maxRecDepth 20000 in
theorem ggX6_tryPad_X2_acts : GoodIn wsX6_tryPad wsX2_acts := goodIn_r _ [42, 9, 152, 153] (by decide +kernel) (by decide +kernel)
set_option maxRecDepth 20000 in
theorem gX6_tryPad_X2_acts : GoodIn wsX6_tryPad (wsV RX6 103 RX2 yX2_acts wsX2_acts) := goodIn_app (goodIn_of _ (by decide +kernel)) ggX6_tryPad_X2_acts
set_option maxRecDepth 20000 in
theorem ggX6_tryPad_X2_guestOf : GoodIn wsX6_tryPad wsX2_guestOf := goodIn_r _ [46, 10, 11, 12, 13, 152, 153] (by decide +kernel) (by decide +kernel)
set_option maxRecDepth 20000 in
theorem gX6_tryPad_X2_guestOf : GoodIn wsX6_tryPad (wsV RX6 270 RX2 yX2_guestOf wsX2_guestOf) := goodIn_app (goodIn_of _ (by decide +kernel)) ggX6_tryPad_X2_guestOf
set_option maxRecDepth 20000 in
theorem ggX6_tryPad_X2_columnOf : GoodIn wsX6_tryPad wsX2_columnOf := goodIn_r _ [50, 10, 11, 12, 13, 152, 153] (by decide +kernel) (by decide +kernel)
set_option maxRecDepth 20000 in
theorem gX6_tryPad_X2_columnOf : GoodIn wsX6_tryPad (wsV RX6 273 RX2 yX2_columnOf wsX2_columnOf) := goodIn_app (goodIn_of _ (by decide +kernel)) ggX6_tryPad_X2_columnOf
set_option maxRecDepth 20000 in
theorem ggX6_tryPad_X5_take : GoodIn wsX6_tryPad wsX5_take := goodIn_r _ [54, 55, 56, 57, 17, 58, 21, 59, 12, 60, 61, 62, 63, 64, 22, 27, 25, 26, 11, 13, 65, 66, 67, 68, 69, 70, 71, 28, 72, 73, 74, 75, 76, 77, 141, 142, 143, 144, 145, 146, 147, 148, 149, 150, 151] (by decide +kernel) (by decide +kernel)
set_option maxRecDepth 20000 in
theorem gX6_tryPad_X5_take : GoodIn wsX6_tryPad (wsV RX6 236 RX5 yX5_take wsX5_take) := goodIn_app (goodIn_of _ (by decide +kernel)) ggX6_tryPad_X5_take
set_option maxRecDepth 20000 in
theorem ggX6_tryPad_X5_put : GoodIn wsX6_tryPad wsX5_put := goodIn_r _ [81, 22, 19, 82, 83, 84, 17, 85, 86, 87, 88, 89, 20, 21, 59, 12, 60, 11, 13, 90, 91, 92, 93, 28, 94, 95, 33, 96, 97, 98, 99, 100, 27, 101, 102, 103, 104, 25, 26, 72, 73, 65, 66, 67, 105, 106, 107, 108, 109, 110, 111, 112, 113, 114, 115, 55, 56, 57, 58, 116, 117, 118, 119, 23, 120, 121, 122, 123, 124, 125, 126, 127, 128, 129, 130, 131, 132, 24, 68, 69, 70, 71, 74, 75, 76, 77, 141, 142, 143, 144, 145, 146, 147, 148, 149, 150, 151] (by decide +kernel) (by decide +kernel)
set_option maxRecDepth 20000 in
theorem gX6_tryPad_X5_put : GoodIn wsX6_tryPad (wsV RX6 174 RX5 yX5_put wsX5_put) := goodIn_app (goodIn_of _ (by decide +kernel)) ggX6_tryPad_X5_put
theorem dX6_tryPad_0 : decode cX6_tryPad 0 = .ok (.aload_n 0, 1) := by decide +kernel
theorem dX6_tryPad_1 : decode cX6_tryPad 1 = .ok (.getfield 29, 3) := by decide +kernel
theorem dX6_tryPad_4 : decode cX6_tryPad 4 = .ok (.aload_n 0, 1) := by decide +kernel
theorem dX6_tryPad_5 : decode cX6_tryPad 5 = .ok (.getfield 10, 3) := by decide +kernel
theorem dX6_tryPad_8 : decode cX6_tryPad 8 = .ok (.getfield 61, 3) := by decide +kernel
theorem dX6_tryPad_11 : decode cX6_tryPad 11 = .ok (.invokevirtual 96, 3) := by decide +kernel
theorem dX6_tryPad_14 : decode cX6_tryPad 14 = .ok (.bipush (-6), 2) := by decide +kernel
theorem dX6_tryPad_16 : decode cX6_tryPad 16 = .ok (.if_icmp .eq 6, 3) := by decide +kernel
theorem dX6_tryPad_19 : decode cX6_tryPad 19 = .ok (.bipush (-5), 2) := by decide +kernel
theorem dX6_tryPad_21 : decode cX6_tryPad 21 = .ok (.ireturn, 1) := by decide +kernel
theorem dX6_tryPad_22 : decode cX6_tryPad 22 = .ok (.aload_n 0, 1) := by decide +kernel
theorem dX6_tryPad_23 : decode cX6_tryPad 23 = .ok (.getfield 16, 3) := by decide +kernel
theorem dX6_tryPad_26 : decode cX6_tryPad 26 = .ok (.aload_n 0, 1) := by decide +kernel
theorem dX6_tryPad_27 : decode cX6_tryPad 27 = .ok (.getfield 10, 3) := by decide +kernel
theorem dX6_tryPad_30 : decode cX6_tryPad 30 = .ok (.invokevirtual 106, 3) := by decide +kernel
theorem dX6_tryPad_33 : decode cX6_tryPad 33 = .ok (.aload_n 0, 1) := by decide +kernel
theorem dX6_tryPad_34 : decode cX6_tryPad 34 = .ok (.getfield 29, 3) := by decide +kernel
theorem dX6_tryPad_37 : decode cX6_tryPad 37 = .ok (.invokevirtual 103, 3) := by decide +kernel
theorem dX6_tryPad_40 : decode cX6_tryPad 40 = .ok (.istore_n 1, 1) := by decide +kernel
theorem dX6_tryPad_41 : decode cX6_tryPad 41 = .ok (.iconst 0, 1) := by decide +kernel
theorem dX6_tryPad_42 : decode cX6_tryPad 42 = .ok (.istore_n 2, 1) := by decide +kernel
theorem dX6_tryPad_43 : decode cX6_tryPad 43 = .ok (.iload_n 2, 1) := by decide +kernel
theorem dX6_tryPad_44 : decode cX6_tryPad 44 = .ok (.iload_n 1, 1) := by decide +kernel
theorem dX6_tryPad_45 : decode cX6_tryPad 45 = .ok (.if_icmp .ge 70, 3) := by decide +kernel
theorem dX6_tryPad_48 : decode cX6_tryPad 48 = .ok (.aload_n 0, 1) := by decide +kernel
theorem dX6_tryPad_49 : decode cX6_tryPad 49 = .ok (.getfield 29, 3) := by decide +kernel
theorem dX6_tryPad_52 : decode cX6_tryPad 52 = .ok (.iload_n 2, 1) := by decide +kernel
theorem dX6_tryPad_53 : decode cX6_tryPad 53 = .ok (.invokevirtual 270, 3) := by decide +kernel
theorem dX6_tryPad_56 : decode cX6_tryPad 56 = .ok (.istore_n 3, 1) := by decide +kernel
theorem dX6_tryPad_57 : decode cX6_tryPad 57 = .ok (.aload_n 0, 1) := by decide +kernel
theorem dX6_tryPad_58 : decode cX6_tryPad 58 = .ok (.getfield 29, 3) := by decide +kernel
theorem dX6_tryPad_61 : decode cX6_tryPad 61 = .ok (.iload_n 2, 1) := by decide +kernel
theorem dX6_tryPad_62 : decode cX6_tryPad 62 = .ok (.invokevirtual 273, 3) := by decide +kernel
theorem dX6_tryPad_65 : decode cX6_tryPad 65 = .ok (.istore 4, 2) := by decide +kernel
theorem dX6_tryPad_67 : decode cX6_tryPad 67 = .ok (.iload 4, 2) := by decide +kernel
theorem dX6_tryPad_69 : decode cX6_tryPad 69 = .ok (.iconst (-1), 1) := by decide +kernel
theorem dX6_tryPad_70 : decode cX6_tryPad 70 = .ok (.if_icmp .ne 14, 3) := by decide +kernel
theorem dX6_tryPad_73 : decode cX6_tryPad 73 = .ok (.aload_n 0, 1) := by decide +kernel
theorem dX6_tryPad_74 : decode cX6_tryPad 74 = .ok (.getfield 16, 3) := by decide +kernel
theorem dX6_tryPad_77 : decode cX6_tryPad 77 = .ok (.iload_n 3, 1) := by decide +kernel
theorem dX6_tryPad_78 : decode cX6_tryPad 78 = .ok (.invokevirtual 236, 3) := by decide +kernel
theorem dX6_tryPad_81 : decode cX6_tryPad 81 = .ok (.goto 13, 3) := by decide +kernel
theorem dX6_tryPad_84 : decode cX6_tryPad 84 = .ok (.aload_n 0, 1) := by decide +kernel
theorem dX6_tryPad_85 : decode cX6_tryPad 85 = .ok (.getfield 16, 3) := by decide +kernel
theorem dX6_tryPad_88 : decode cX6_tryPad 88 = .ok (.iload_n 3, 1) := by decide +kernel
theorem dX6_tryPad_89 : decode cX6_tryPad 89 = .ok (.iload 4, 2) := by decide +kernel
theorem dX6_tryPad_91 : decode cX6_tryPad 91 = .ok (.invokevirtual 174, 3) := by decide +kernel
theorem dX6_tryPad_94 : decode cX6_tryPad 94 = .ok (.istore 5, 2) := by decide +kernel
theorem dX6_tryPad_96 : decode cX6_tryPad 96 = .ok (.iload 5, 2) := by decide +kernel
theorem dX6_tryPad_98 : decode cX6_tryPad 98 = .ok (.ifCond .eq 11, 3) := by decide +kernel
theorem dX6_tryPad_101 : decode cX6_tryPad 101 = .ok (.bipush 10, 2) := by decide +kernel
theorem dX6_tryPad_103 : decode cX6_tryPad 103 = .ok (.iload_n 2, 1) := by decide +kernel
theorem dX6_tryPad_104 : decode cX6_tryPad 104 = .ok (.imul, 1) := by decide +kernel
theorem dX6_tryPad_105 : decode cX6_tryPad 105 = .ok (.iload 5, 2) := by decide +kernel
theorem dX6_tryPad_107 : decode cX6_tryPad 107 = .ok (.iadd, 1) := by decide +kernel
theorem dX6_tryPad_108 : decode cX6_tryPad 108 = .ok (.ireturn, 1) := by decide +kernel
theorem dX6_tryPad_109 : decode cX6_tryPad 109 = .ok (.iinc 2 1, 3) := by decide +kernel
theorem dX6_tryPad_112 : decode cX6_tryPad 112 = .ok (.goto (-69), 3) := by decide +kernel
theorem dX6_tryPad_115 : decode cX6_tryPad 115 = .ok (.bipush (-6), 2) := by decide +kernel
theorem dX6_tryPad_117 : decode cX6_tryPad 117 = .ok (.ireturn, 1) := by decide +kernel
set_option maxRecDepth 20000 in
theorem ggX6_guestsWhoPut_X2_acts : GoodIn wsX6_guestsWhoPut wsX2_acts := goodIn_r _ [6, 7, 28, 29] (by decide +kernel) (by decide +kernel)
set_option maxRecDepth 20000 in
theorem gX6_guestsWhoPut_X2_acts : GoodIn wsX6_guestsWhoPut (wsV RX6 103 RX2 yX2_acts wsX2_acts) := goodIn_app (goodIn_of _ (by decide +kernel)) ggX6_guestsWhoPut_X2_acts
set_option maxRecDepth 20000 in
theorem ggX6_guestsWhoPut_X2_guestOf : GoodIn wsX6_guestsWhoPut wsX2_guestOf := goodIn_r _ [11, 12, 13, 14, 15, 28, 29] (by decide +kernel) (by decide +kernel)
set_option maxRecDepth 20000 in
theorem gX6_guestsWhoPut_X2_guestOf : GoodIn wsX6_guestsWhoPut (wsV RX6 270 RX2 yX2_guestOf wsX2_guestOf) := goodIn_app (goodIn_of _ (by decide +kernel)) ggX6_guestsWhoPut_X2_guestOf
set_option maxRecDepth 20000 in
theorem ggX6_guestsWhoPut_X2_columnOf : GoodIn wsX6_guestsWhoPut wsX2_columnOf := goodIn_r _ [19, 12, 13, 14, 15, 28, 29] (by decide +kernel) (by decide +kernel)
set_option maxRecDepth 20000 in
theorem gX6_guestsWhoPut_X2_columnOf : GoodIn wsX6_guestsWhoPut (wsV RX6 273 RX2 yX2_columnOf wsX2_columnOf) := goodIn_app (goodIn_of _ (by decide +kernel)) ggX6_guestsWhoPut_X2_columnOf
theorem dX6_guestsWhoPut_0 : decode cX6_guestsWhoPut 0 = .ok (.iconst 0, 1) := by decide +kernel
theorem dX6_guestsWhoPut_1 : decode cX6_guestsWhoPut 1 = .ok (.istore_n 1, 1) := by decide +kernel
theorem dX6_guestsWhoPut_2 : decode cX6_guestsWhoPut 2 = .ok (.aload_n 0, 1) := by decide +kernel
theorem dX6_guestsWhoPut_3 : decode cX6_guestsWhoPut 3 = .ok (.getfield 29, 3) := by decide +kernel
theorem dX6_guestsWhoPut_6 : decode cX6_guestsWhoPut 6 = .ok (.invokevirtual 103, 3) := by decide +kernel
theorem dX6_guestsWhoPut_9 : decode cX6_guestsWhoPut 9 = .ok (.istore_n 2, 1) := by decide +kernel
theorem dX6_guestsWhoPut_10 : decode cX6_guestsWhoPut 10 = .ok (.iconst 0, 1) := by decide +kernel
theorem dX6_guestsWhoPut_11 : decode cX6_guestsWhoPut 11 = .ok (.istore_n 3, 1) := by decide +kernel
theorem dX6_guestsWhoPut_12 : decode cX6_guestsWhoPut 12 = .ok (.iload_n 3, 1) := by decide +kernel
theorem dX6_guestsWhoPut_13 : decode cX6_guestsWhoPut 13 = .ok (.iload_n 2, 1) := by decide +kernel
theorem dX6_guestsWhoPut_14 : decode cX6_guestsWhoPut 14 = .ok (.if_icmp .ge 48, 3) := by decide +kernel
theorem dX6_guestsWhoPut_17 : decode cX6_guestsWhoPut 17 = .ok (.iconst 1, 1) := by decide +kernel
theorem dX6_guestsWhoPut_18 : decode cX6_guestsWhoPut 18 = .ok (.aload_n 0, 1) := by decide +kernel
theorem dX6_guestsWhoPut_19 : decode cX6_guestsWhoPut 19 = .ok (.getfield 29, 3) := by decide +kernel
theorem dX6_guestsWhoPut_22 : decode cX6_guestsWhoPut 22 = .ok (.iload_n 3, 1) := by decide +kernel
theorem dX6_guestsWhoPut_23 : decode cX6_guestsWhoPut 23 = .ok (.invokevirtual 270, 3) := by decide +kernel
theorem dX6_guestsWhoPut_26 : decode cX6_guestsWhoPut 26 = .ok (.ishl, 1) := by decide +kernel
theorem dX6_guestsWhoPut_27 : decode cX6_guestsWhoPut 27 = .ok (.istore 4, 2) := by decide +kernel
theorem dX6_guestsWhoPut_29 : decode cX6_guestsWhoPut 29 = .ok (.aload_n 0, 1) := by decide +kernel
theorem dX6_guestsWhoPut_30 : decode cX6_guestsWhoPut 30 = .ok (.getfield 29, 3) := by decide +kernel
theorem dX6_guestsWhoPut_33 : decode cX6_guestsWhoPut 33 = .ok (.iload_n 3, 1) := by decide +kernel
theorem dX6_guestsWhoPut_34 : decode cX6_guestsWhoPut 34 = .ok (.invokevirtual 273, 3) := by decide +kernel
theorem dX6_guestsWhoPut_37 : decode cX6_guestsWhoPut 37 = .ok (.iconst (-1), 1) := by decide +kernel
theorem dX6_guestsWhoPut_38 : decode cX6_guestsWhoPut 38 = .ok (.if_icmp .eq 10, 3) := by decide +kernel
theorem dX6_guestsWhoPut_41 : decode cX6_guestsWhoPut 41 = .ok (.iload_n 1, 1) := by decide +kernel
theorem dX6_guestsWhoPut_42 : decode cX6_guestsWhoPut 42 = .ok (.iload 4, 2) := by decide +kernel
theorem dX6_guestsWhoPut_44 : decode cX6_guestsWhoPut 44 = .ok (.iand, 1) := by decide +kernel
theorem dX6_guestsWhoPut_45 : decode cX6_guestsWhoPut 45 = .ok (.ifCond .eq 6, 3) := by decide +kernel
theorem dX6_guestsWhoPut_48 : decode cX6_guestsWhoPut 48 = .ok (.bipush (-5), 2) := by decide +kernel
theorem dX6_guestsWhoPut_50 : decode cX6_guestsWhoPut 50 = .ok (.ireturn, 1) := by decide +kernel
theorem dX6_guestsWhoPut_51 : decode cX6_guestsWhoPut 51 = .ok (.iload_n 1, 1) := by decide +kernel
theorem dX6_guestsWhoPut_52 : decode cX6_guestsWhoPut 52 = .ok (.iload 4, 2) := by decide +kernel
theorem dX6_guestsWhoPut_54 : decode cX6_guestsWhoPut 54 = .ok (.ior, 1) := by decide +kernel
theorem dX6_guestsWhoPut_55 : decode cX6_guestsWhoPut 55 = .ok (.istore_n 1, 1) := by decide +kernel
theorem dX6_guestsWhoPut_56 : decode cX6_guestsWhoPut 56 = .ok (.iinc 3 1, 3) := by decide +kernel
theorem dX6_guestsWhoPut_59 : decode cX6_guestsWhoPut 59 = .ok (.goto (-47), 3) := by decide +kernel
theorem dX6_guestsWhoPut_62 : decode cX6_guestsWhoPut 62 = .ok (.iload_n 1, 1) := by decide +kernel
theorem dX6_guestsWhoPut_63 : decode cX6_guestsWhoPut 63 = .ok (.ireturn, 1) := by decide +kernel
set_option maxRecDepth 20000 in
theorem ggX6_fallenWithout_X5_become : GoodIn wsX6_fallenWithout wsX5_become := goodIn_r _ [7, 8, 9, 10, 11, 12, 13, 14, 15, 16, 17, 18, 19, 20, 21, 22, 23, 24, 25, 26, 27, 28, 102, 103, 104, 105, 106, 107, 108, 109, 110, 111, 112] (by decide +kernel) (by decide +kernel)
set_option maxRecDepth 20000 in
theorem gX6_fallenWithout_X5_become : GoodIn wsX6_fallenWithout (wsV RX6 106 RX5 yX5_become wsX5_become) := goodIn_app (goodIn_of _ (by decide +kernel)) ggX6_fallenWithout_X5_become
set_option maxRecDepth 20000 in
theorem ggX6_fallenWithout_X5_liftAll : GoodIn wsX6_fallenWithout wsX5_liftAll := goodIn_r _ [32, 33, 19, 34, 35, 36, 37, 6, 38, 10, 14, 15, 11, 16, 17, 39, 40, 41, 42, 43, 44, 45, 46, 47, 48, 49, 50, 51, 52, 53, 102, 103, 104, 105, 106, 107, 108, 109, 110, 111, 112] (by decide +kernel) (by decide +kernel)
set_option maxRecDepth 20000 in
theorem gX6_fallenWithout_X5_liftAll : GoodIn wsX6_fallenWithout (wsV RX6 276 RX5 yX5_liftAll wsX5_liftAll) := goodIn_app (goodIn_of _ (by decide +kernel)) ggX6_fallenWithout_X5_liftAll
set_option maxRecDepth 20000 in
theorem ggX6_fallenWithout_X5_collapse : GoodIn wsX6_fallenWithout wsX5_collapse := goodIn_r _ [57, 58, 59, 60, 6, 61, 11, 14, 15, 62, 63, 64, 65, 66, 67, 19, 68, 69, 70, 71, 72, 17, 73, 74, 23, 75, 43, 44, 39, 40, 41, 42, 10, 33, 34, 76, 77, 78, 79, 12, 80, 16, 81, 82, 83, 84, 85, 86, 45, 46, 47, 87, 88, 89, 90, 91, 92, 13, 93, 30, 31, 32, 35, 36, 37, 38, 48, 49, 50, 51, 52, 53, 102, 103, 104, 105, 106, 107, 108, 109, 110, 111, 112] (by decide +kernel) (by decide +kernel)
set_option maxRecDepth 20000 in
theorem gX6_fallenWithout_X5_collapse : GoodIn wsX6_fallenWithout (wsV RX6 279 RX5 yX5_collapse wsX5_collapse) := goodIn_app (goodIn_of _ (by decide +kernel)) ggX6_fallenWithout_X5_collapse
theorem dX6_fallenWithout_0 : decode cX6_fallenWithout 0 = .ok (.aload_n 0, 1) := by decide +kernel
theorem dX6_fallenWithout_1 : decode cX6_fallenWithout 1 = .ok (.getfield 16, 3) := by decide +kernel
theorem dX6_fallenWithout_4 : decode cX6_fallenWithout 4 = .ok (.aload_n 0, 1) := by decide +kernel
theorem dX6_fallenWithout_5 : decode cX6_fallenWithout 5 = .ok (.getfield 10, 3) := by decide +kernel
theorem dX6_fallenWithout_8 : decode cX6_fallenWithout 8 = .ok (.invokevirtual 106, 3) := by decide +kernel
theorem dX6_fallenWithout_11 : decode cX6_fallenWithout 11 = .ok (.aload_n 0, 1) := by decide +kernel
theorem dX6_fallenWithout_12 : decode cX6_fallenWithout 12 = .ok (.getfield 16, 3) := by decide +kernel
theorem dX6_fallenWithout_15 : decode cX6_fallenWithout 15 = .ok (.iload_n 1, 1) := by decide +kernel
theorem dX6_fallenWithout_16 : decode cX6_fallenWithout 16 = .ok (.invokevirtual 276, 3) := by decide +kernel
theorem dX6_fallenWithout_19 : decode cX6_fallenWithout 19 = .ok (.aload_n 0, 1) := by decide +kernel
theorem dX6_fallenWithout_20 : decode cX6_fallenWithout 20 = .ok (.getfield 16, 3) := by decide +kernel
theorem dX6_fallenWithout_23 : decode cX6_fallenWithout 23 = .ok (.invokevirtual 279, 3) := by decide +kernel
theorem dX6_fallenWithout_26 : decode cX6_fallenWithout 26 = .ok (.ireturn, 1) := by decide +kernel
set_option maxRecDepth 20000 in
theorem ggX6_findRows_X5_become : GoodIn wsX6_findRows wsX5_become := goodIn_r _ [9, 10, 11, 12, 13, 14, 15, 16, 17, 18, 19, 20, 21, 22, 23, 24, 25, 26, 27, 28, 29, 30, 143, 144, 145, 146, 147, 148, 149, 150, 151, 152, 153] (by decide +kernel) (by decide +kernel)
set_option maxRecDepth 20000 in
theorem gX6_findRows_X5_become : GoodIn wsX6_findRows (wsV RX6 106 RX5 yX5_become wsX5_become) := goodIn_app (goodIn_of _ (by decide +kernel)) ggX6_findRows_X5_become
set_option maxRecDepth 20000 in
theorem ggX6_findRows_X3_start : GoodIn wsX6_findRows wsX3_start := goodIn_r _ [35, 36, 37, 38, 39, 40, 21, 41, 154, 155, 156, 157] (by decide +kernel) (by decide +kernel)
set_option maxRecDepth 20000 in
theorem gX6_findRows_X3_start : GoodIn wsX6_findRows (wsV RX6 282 RX3 yX3_start wsX3_start) := goodIn_app (goodIn_of _ (by decide +kernel)) ggX6_findRows_X3_start
set_option maxRecDepth 20000 in
theorem ggX6_findRows_X6_grow : GoodIn wsX6_findRows wsX6_grow := goodIn_r _ [44, 45, 46, 47, 48, 49, 50, 51, 52, 53, 21, 54, 55, 56, 57, 34, 58, 37, 36, 38, 39, 59, 60, 61, 62, 63, 8, 64, 65, 66, 67, 68, 11, 12, 69, 70, 71, 72, 73, 74, 13, 10, 75, 76, 77, 78, 79, 19, 80, 81, 25, 82, 83, 84, 85, 86, 18, 87, 88, 89, 90, 16, 17, 91, 92, 93, 94, 95, 96, 97, 98, 99, 100, 101, 102, 103, 104, 105, 106, 107, 108, 109, 110, 111, 112, 14, 113, 114, 115, 116, 117, 118, 119, 120, 121, 122, 123, 124, 125, 15, 126, 127, 128, 129, 130, 131, 132, 133, 42, 43, 134, 143, 144, 145, 146, 147, 148, 149, 150, 151, 152, 153, 158, 159, 160, 154, 155, 156, 157] (by decide +kernel) (by decide +kernel)
set_option maxRecDepth 20000 in
theorem gX6_findRows_X6_grow : GoodIn wsX6_findRows (va_wsS RX6 284 yX6_grow wsX6_grow) := goodIn_app (goodIn_of _ (by decide +kernel)) ggX6_findRows_X6_grow
theorem dX6_findRows_0 : decode cX6_findRows 0 = .ok (.aload_n 0, 1) := by decide +kernel
theorem dX6_findRows_1 : decode cX6_findRows 1 = .ok (.getfield 16, 3) := by decide +kernel
theorem dX6_findRows_4 : decode cX6_findRows 4 = .ok (.aload_n 0, 1) := by decide +kernel
theorem dX6_findRows_5 : decode cX6_findRows 5 = .ok (.getfield 10, 3) := by decide +kernel
theorem dX6_findRows_8 : decode cX6_findRows 8 = .ok (.invokevirtual 106, 3) := by decide +kernel
theorem dX6_findRows_11 : decode cX6_findRows 11 = .ok (.aload_n 0, 1) := by decide +kernel
theorem dX6_findRows_12 : decode cX6_findRows 12 = .ok (.getfield 46, 3) := by decide +kernel
theorem dX6_findRows_15 : decode cX6_findRows 15 = .ok (.invokevirtual 282, 3) := by decide +kernel
theorem dX6_findRows_18 : decode cX6_findRows 18 = .ok (.aload_n 0, 1) := by decide +kernel
theorem dX6_findRows_19 : decode cX6_findRows 19 = .ok (.getfield 16, 3) := by decide +kernel
theorem dX6_findRows_22 : decode cX6_findRows 22 = .ok (.aload_n 0, 1) := by decide +kernel
theorem dX6_findRows_23 : decode cX6_findRows 23 = .ok (.getfield 22, 3) := by decide +kernel
theorem dX6_findRows_26 : decode cX6_findRows 26 = .ok (.aload_n 0, 1) := by decide +kernel
theorem dX6_findRows_27 : decode cX6_findRows 27 = .ok (.getfield 46, 3) := by decide +kernel
theorem dX6_findRows_30 : decode cX6_findRows 30 = .ok (.iload_n 1, 1) := by decide +kernel
theorem dX6_findRows_31 : decode cX6_findRows 31 = .ok (.iconst 0, 1) := by decide +kernel
theorem dX6_findRows_32 : decode cX6_findRows 32 = .ok (.invokestatic 284, 3) := by decide +kernel
theorem dX6_findRows_35 : decode cX6_findRows 35 = .ok (.return_, 1) := by decide +kernel
set_option maxRecDepth 20000 in
theorem ggX6_grow_X4_areSo : GoodIn wsX6_grow wsX4_areSo := goodIn_r _ [5, 6, 7, 8, 9, 10, 11, 122, 123, 124, 111, 112, 113, 114, 115, 116, 117, 118, 119, 120, 121] (by decide +kernel) (by decide +kernel)
set_option maxRecDepth 20000 in
theorem gX6_grow_X4_areSo : GoodIn wsX6_grow (wsV RX6 288 RX4 yX4_areSo wsX4_areSo) := goodIn_app (goodIn_of _ (by decide +kernel)) ggX6_grow_X4_areSo
set_option maxRecDepth 20000 in
theorem ggX6_grow_X3_add : GoodIn wsX6_grow wsX3_add := goodIn_r _ [16, 17, 18, 19, 20, 9, 10, 11, 21, 22, 125, 126, 127, 128, 111, 112, 113, 114, 115, 116, 117, 118, 119, 120, 121] (by decide +kernel) (by decide +kernel)
set_option maxRecDepth 20000 in
theorem gX6_grow_X3_add : GoodIn wsX6_grow (wsV RX6 292 RX3 yX3_add wsX3_add) := goodIn_app (goodIn_of _ (by decide +kernel)) ggX6_grow_X3_add
set_option maxRecDepth 20000 in
theorem ggX6_grow_X5_isFree : GoodIn wsX6_grow wsX5_isFree := goodIn_r _ [27, 28, 29, 30, 26, 31, 32, 33, 34, 10, 35, 111, 112, 113, 114, 115, 116, 117, 118, 119, 120, 121] (by decide +kernel) (by decide +kernel)
set_option maxRecDepth 20000 in
theorem gX6_grow_X5_isFree : GoodIn wsX6_grow (wsV RX6 171 RX5 yX5_isFree wsX5_isFree) := goodIn_app (goodIn_of _ (by decide +kernel)) ggX6_grow_X5_isFree
set_option maxRecDepth 20000 in
theorem ggX6_grow_X5_put : GoodIn wsX6_grow wsX5_put := goodIn_r _ [39, 40, 41, 42, 24, 25, 26, 27, 28, 29, 30, 31, 32, 33, 34, 10, 35, 9, 11, 43, 44, 45, 46, 47, 48, 49, 50, 51, 52, 53, 54, 55, 56, 57, 58, 59, 60, 61, 62, 21, 22, 63, 64, 65, 66, 67, 68, 69, 70, 71, 72, 73, 74, 75, 76, 77, 78, 79, 80, 81, 82, 83, 84, 85, 86, 87, 88, 89, 90, 91, 92, 93, 94, 95, 96, 97, 98, 99, 100, 101, 102, 103, 104, 105, 106, 107, 111, 112, 113, 114, 115, 116, 117, 118, 119, 120, 121] (by decide +kernel) (by decide +kernel)
set_option maxRecDepth 20000 in
theorem gX6_grow_X5_put : GoodIn wsX6_grow (wsV RX6 174 RX5 yX5_put wsX5_put) := goodIn_app (goodIn_of _ (by decide +kernel)) ggX6_grow_X5_put
set_option maxRecDepth 20000 in
theorem ggX6_grow_X6_grow : GoodIn wsX6_grow wsX6_grow := goodIn_r _ [0, 1, 2, 3, 4, 5, 6, 7, 8, 9, 10, 11, 12, 13, 14, 15, 16, 17, 18, 19, 20, 21, 22, 23, 24, 25, 26, 27, 28, 29, 30, 31, 32, 33, 34, 35, 36, 37, 38, 39, 40, 41, 42, 43, 44, 45, 46, 47, 48, 49, 50, 51, 52, 53, 54, 55, 56, 57, 58, 59, 60, 61, 62, 63, 64, 65, 66, 67, 68, 69, 70, 71, 72, 73, 74, 75, 76, 77, 78, 79, 80, 81, 82, 83, 84, 85, 86, 87, 88, 89, 90, 91, 92, 93, 94, 95, 96, 97, 98, 99, 100, 101, 102, 103, 104, 105, 106, 107, 108, 109, 110, 111, 112, 113, 114, 115, 116, 117, 118, 119, 120, 121, 122, 123, 124, 125, 126, 127, 128] (by decide +kernel) (by decide +kernel)
set_option maxRecDepth 20000 in
theorem gX6_grow_X6_grow : GoodIn wsX6_grow (va_wsS RX6 284 yX6_grow wsX6_grow) := goodIn_app (goodIn_of _ (by decide +kernel)) ggX6_grow_X6_grow
set_option maxRecDepth 20000 in
theorem ggX6_grow_X5_lift : GoodIn wsX6_grow wsX5_lift := goodIn_r _ [103, 33, 61, 62, 40, 56, 47, 77, 78, 79, 26, 80, 34, 10, 35, 9, 11, 63, 64, 65, 21, 22, 104, 105, 106, 107, 111, 112, 113, 114, 115, 116, 117, 118, 119, 120, 121] (by decide +kernel) (by decide +kernel)
set_option maxRecDepth 20000 in
theorem gX6_grow_X5_lift : GoodIn wsX6_grow (wsV RX6 177 RX5 yX5_lift wsX5_lift) := goodIn_app (goodIn_of _ (by decide +kernel)) ggX6_grow_X5_lift
theorem dX6_grow_0 : decode cX6_grow 0 = .ok (.aload_n 0, 1) := by decide +kernel
theorem dX6_grow_1 : decode cX6_grow 1 = .ok (.ifnull 20, 3) := by decide +kernel
theorem dX6_grow_4 : decode cX6_grow 4 = .ok (.aload_n 1, 1) := by decide +kernel
theorem dX6_grow_5 : decode cX6_grow 5 = .ok (.ifnull 16, 3) := by decide +kernel
theorem dX6_grow_8 : decode cX6_grow 8 = .ok (.aload_n 2, 1) := by decide +kernel
theorem dX6_grow_9 : decode cX6_grow 9 = .ok (.ifnull 12, 3) := by decide +kernel
theorem dX6_grow_12 : decode cX6_grow 12 = .ok (.iload_n 3, 1) := by decide +kernel
theorem dX6_grow_13 : decode cX6_grow 13 = .ok (.ifCond .lt 8, 3) := by decide +kernel
theorem dX6_grow_16 : decode cX6_grow 16 = .ok (.iload_n 3, 1) := by decide +kernel
theorem dX6_grow_17 : decode cX6_grow 17 = .ok (.iconst 2, 1) := by decide +kernel
theorem dX6_grow_18 : decode cX6_grow 18 = .ok (.if_icmp .le 4, 3) := by decide +kernel
theorem dX6_grow_21 : decode cX6_grow 21 = .ok (.return_, 1) := by decide +kernel
theorem dX6_grow_22 : decode cX6_grow 22 = .ok (.iload_n 3, 1) := by decide +kernel
theorem dX6_grow_23 : decode cX6_grow 23 = .ok (.ifCond .ne 19, 3) := by decide +kernel
theorem dX6_grow_26 : decode cX6_grow 26 = .ok (.aload_n 1, 1) := by decide +kernel
theorem dX6_grow_27 : decode cX6_grow 27 = .ok (.aload_n 0, 1) := by decide +kernel
theorem dX6_grow_28 : decode cX6_grow 28 = .ok (.invokevirtual 288, 3) := by decide +kernel
theorem dX6_grow_31 : decode cX6_grow 31 = .ok (.ifCond .eq 10, 3) := by decide +kernel
theorem dX6_grow_34 : decode cX6_grow 34 = .ok (.aload_n 2, 1) := by decide +kernel
theorem dX6_grow_35 : decode cX6_grow 35 = .ok (.aload_n 0, 1) := by decide +kernel
theorem dX6_grow_36 : decode cX6_grow 36 = .ok (.iload 4, 2) := by decide +kernel
theorem dX6_grow_38 : decode cX6_grow 38 = .ok (.invokevirtual 292, 3) := by decide +kernel
theorem dX6_grow_41 : decode cX6_grow 41 = .ok (.return_, 1) := by decide +kernel
theorem dX6_grow_42 : decode cX6_grow 42 = .ok (.aload_n 0, 1) := by decide +kernel
theorem dX6_grow_43 : decode cX6_grow 43 = .ok (.getfield 61, 3) := by decide +kernel
theorem dX6_grow_46 : decode cX6_grow 46 = .ok (.istore 5, 2) := by decide +kernel
theorem dX6_grow_48 : decode cX6_grow 48 = .ok (.iconst 0, 1) := by decide +kernel
theorem dX6_grow_49 : decode cX6_grow 49 = .ok (.istore 6, 2) := by decide +kernel
theorem dX6_grow_51 : decode cX6_grow 51 = .ok (.iload 6, 2) := by decide +kernel
theorem dX6_grow_53 : decode cX6_grow 53 = .ok (.bipush 10, 2) := by decide +kernel
theorem dX6_grow_55 : decode cX6_grow 55 = .ok (.if_icmp .ge 67, 3) := by decide +kernel
theorem dX6_grow_58 : decode cX6_grow 58 = .ok (.aload_n 0, 1) := by decide +kernel
theorem dX6_grow_59 : decode cX6_grow 59 = .ok (.iload 6, 2) := by decide +kernel
theorem dX6_grow_61 : decode cX6_grow 61 = .ok (.invokevirtual 171, 3) := by decide +kernel
theorem dX6_grow_64 : decode cX6_grow 64 = .ok (.ifCond .eq 52, 3) := by decide +kernel
theorem dX6_grow_67 : decode cX6_grow 67 = .ok (.iconst 0, 1) := by decide +kernel
theorem dX6_grow_68 : decode cX6_grow 68 = .ok (.istore 7, 2) := by decide +kernel
theorem dX6_grow_70 : decode cX6_grow 70 = .ok (.iload 7, 2) := by decide +kernel
theorem dX6_grow_72 : decode cX6_grow 72 = .ok (.iload 5, 2) := by decide +kernel
theorem dX6_grow_74 : decode cX6_grow 74 = .ok (.if_icmp .ge 42, 3) := by decide +kernel
theorem dX6_grow_77 : decode cX6_grow 77 = .ok (.aload_n 0, 1) := by decide +kernel
theorem dX6_grow_78 : decode cX6_grow 78 = .ok (.iload 6, 2) := by decide +kernel
theorem dX6_grow_80 : decode cX6_grow 80 = .ok (.iload 7, 2) := by decide +kernel
theorem dX6_grow_82 : decode cX6_grow 82 = .ok (.invokevirtual 174, 3) := by decide +kernel
theorem dX6_grow_85 : decode cX6_grow 85 = .ok (.ifCond .ne 25, 3) := by decide +kernel
theorem dX6_grow_88 : decode cX6_grow 88 = .ok (.aload_n 0, 1) := by decide +kernel
theorem dX6_grow_89 : decode cX6_grow 89 = .ok (.aload_n 1, 1) := by decide +kernel
theorem dX6_grow_90 : decode cX6_grow 90 = .ok (.aload_n 2, 1) := by decide +kernel
theorem dX6_grow_91 : decode cX6_grow 91 = .ok (.iload_n 3, 1) := by decide +kernel
theorem dX6_grow_92 : decode cX6_grow 92 = .ok (.iconst 1, 1) := by decide +kernel
theorem dX6_grow_93 : decode cX6_grow 93 = .ok (.isub, 1) := by decide +kernel
theorem dX6_grow_94 : decode cX6_grow 94 = .ok (.iload 4, 2) := by decide +kernel
theorem dX6_grow_96 : decode cX6_grow 96 = .ok (.iconst 1, 1) := by decide +kernel
theorem dX6_grow_97 : decode cX6_grow 97 = .ok (.iload 6, 2) := by decide +kernel
theorem dX6_grow_99 : decode cX6_grow 99 = .ok (.ishl, 1) := by decide +kernel
theorem dX6_grow_100 : decode cX6_grow 100 = .ok (.ior, 1) := by decide +kernel
theorem dX6_grow_101 : decode cX6_grow 101 = .ok (.invokestatic 284, 3) := by decide +kernel
theorem dX6_grow_104 : decode cX6_grow 104 = .ok (.aload_n 0, 1) := by decide +kernel
theorem dX6_grow_105 : decode cX6_grow 105 = .ok (.iload 6, 2) := by decide +kernel
theorem dX6_grow_107 : decode cX6_grow 107 = .ok (.invokevirtual 177, 3) := by decide +kernel
theorem dX6_grow_110 : decode cX6_grow 110 = .ok (.iinc 7 1, 3) := by decide +kernel
theorem dX6_grow_113 : decode cX6_grow 113 = .ok (.goto (-43), 3) := by decide +kernel
theorem dX6_grow_116 : decode cX6_grow 116 = .ok (.iinc 6 1, 3) := by decide +kernel
theorem dX6_grow_119 : decode cX6_grow 119 = .ok (.goto (-68), 3) := by decide +kernel
theorem dX6_grow_122 : decode cX6_grow 122 = .ok (.return_, 1) := by decide +kernel
set_option maxRecDepth 20000 in
theorem ggX6_arrange_X1_add : GoodIn wsX6_arrange wsX1_add := goodIn_r _ [5, 6, 7, 8, 9, 10, 11, 12, 13, 14, 15, 16, 17, 18, 19, 113, 114, 115, 116] (by decide +kernel) (by decide +kernel)
set_option maxRecDepth 20000 in
theorem gX6_arrange_X1_add : GoodIn wsX6_arrange (wsV RX6 295 RX1 yX1_add wsX1_add) := goodIn_app (goodIn_of _ (by decide +kernel)) ggX6_arrange_X1_add
set_option maxRecDepth 20000 in
theorem ggX6_arrange_X6_hasBit : GoodIn wsX6_arrange wsX6_hasBit := goodIn_r _ [22] (by decide +kernel) (by decide +kernel)
set_option maxRecDepth 20000 in
theorem gX6_arrange_X6_hasBit : GoodIn wsX6_arrange (va_wsS RX6 297 yX6_hasBit wsX6_hasBit) := goodIn_app (goodIn_of _ (by decide +kernel)) ggX6_arrange_X6_hasBit
set_option maxRecDepth 20000 in
theorem ggX6_arrange_X6_at : GoodIn wsX6_arrange wsX6_at := goodIn_r _ [25] (by decide +kernel) (by decide +kernel)
set_option maxRecDepth 20000 in
theorem gX6_arrange_X6_at : GoodIn wsX6_arrange (va_wsS RX6 121 yX6_at wsX6_at) := goodIn_app (goodIn_of _ (by decide +kernel)) ggX6_arrange_X6_at
set_option maxRecDepth 20000 in
theorem ggX6_arrange_X5_put : GoodIn wsX6_arrange wsX5_put := goodIn_r _ [30, 31, 32, 33, 34, 35, 29, 36, 37, 38, 39, 40, 41, 42, 21, 10, 22, 24, 25, 43, 44, 45, 46, 47, 48, 49, 14, 50, 51, 52, 53, 54, 55, 56, 57, 58, 59, 60, 61, 62, 63, 64, 65, 66, 67, 68, 69, 70, 71, 72, 73, 74, 75, 76, 77, 78, 79, 80, 81, 82, 83, 84, 85, 86, 87, 88, 89, 90, 91, 92, 93, 94, 95, 96, 97, 98, 99, 100, 101, 102, 103, 104, 105, 106, 107, 108, 117, 118, 119, 120, 121, 122, 123, 124, 125, 126, 127] (by decide +kernel) (by decide +kernel)
set_option maxRecDepth 20000 in
theorem gX6_arrange_X5_put : GoodIn wsX6_arrange (wsV RX6 174 RX5 yX5_put wsX5_put) := goodIn_app (goodIn_of _ (by decide +kernel)) ggX6_arrange_X5_put
set_option maxRecDepth 20000 in
theorem ggX6_arrange_X6_set : GoodIn wsX6_arrange wsX6_set := goodIn_r _ [63] (by decide +kernel) (by decide +kernel)
set_option maxRecDepth 20000 in
theorem gX6_arrange_X6_set : GoodIn wsX6_arrange (va_wsS RX6 306 yX6_set wsX6_set) := goodIn_app (goodIn_of _ (by decide +kernel)) ggX6_arrange_X6_set
set_option maxRecDepth 20000 in
theorem ggX6_arrange_X6_arrange : GoodIn wsX6_arrange wsX6_arrange := goodIn_r _ [0, 1, 2, 3, 4, 5, 6, 7, 8, 9, 10, 11, 12, 13, 14, 15, 16, 17, 18, 19, 20, 21, 22, 23, 24, 25, 26, 27, 28, 29, 30, 31, 32, 33, 34, 35, 36, 37, 38, 39, 40, 41, 42, 43, 44, 45, 46, 47, 48, 49, 50, 51, 52, 53, 54, 55, 56, 57, 58, 59, 60, 61, 62, 63, 64, 65, 66, 67, 68, 69, 70, 71, 72, 73, 74, 75, 76, 77, 78, 79, 80, 81, 82, 83, 84, 85, 86, 87, 88, 89, 90, 91, 92, 93, 94, 95, 96, 97, 98, 99, 100, 101, 102, 103, 104, 105, 106, 107, 108, 109, 110, 111, 112, 113, 114, 115, 116, 117, 118, 119, 120, 121, 122, 123, 124, 125, 126, 127] (by decide +kernel) (by decide +kernel)
set_option maxRecDepth 20000 in
theorem gX6_arrange_X6_arrange : GoodIn wsX6_arrange (va_wsS RX6 193 yX6_arrange wsX6_arrange) := goodIn_app (goodIn_of _ (by decide +kernel)) ggX6_arrange_X6_arrange
set_option maxRecDepth 20000 in
theorem ggX6_arrange_X5_lift : GoodIn wsX6_arrange wsX5_lift := goodIn_r _ [104, 42, 60, 61, 31, 55, 47, 78, 79, 80, 29, 81, 21, 10, 22, 24, 25, 64, 65, 66, 62, 63, 105, 106, 107, 108, 117, 118, 119, 120, 121, 122, 123, 124, 125, 126, 127] (by decide +kernel) (by decide +kernel)
set_option maxRecDepth 20000 in
theorem gX6_arrange_X5_lift : GoodIn wsX6_arrange (wsV RX6 177 RX5 yX5_lift wsX5_lift) := goodIn_app (goodIn_of _ (by decide +kernel)) ggX6_arrange_X5_lift
theorem dX6_arrange_0 : decode cX6_arrange 0 = .ok (.aload_n 0, 1) := by decide +kernel
theorem dX6_arrange_1 : decode cX6_arrange 1 = .ok (.ifnull 17, 3) := by decide +kernel
theorem dX6_arrange_4 : decode cX6_arrange 4 = .ok (.aload_n 1, 1) := by decide +kernel
theorem dX6_arrange_5 : decode cX6_arrange 5 = .ok (.ifnull 13, 3) := by decide +kernel
theorem dX6_arrange_8 : decode cX6_arrange 8 = .ok (.iload_n 3, 1) := by decide +kernel
theorem dX6_arrange_9 : decode cX6_arrange 9 = .ok (.ifCond .lt 9, 3) := by decide +kernel
theorem dX6_arrange_12 : decode cX6_arrange 12 = .ok (.iload_n 3, 1) := by decide +kernel
theorem dX6_arrange_13 : decode cX6_arrange 13 = .ok (.bipush 6, 2) := by decide +kernel
theorem dX6_arrange_15 : decode cX6_arrange 15 = .ok (.if_icmp .le 4, 3) := by decide +kernel
theorem dX6_arrange_18 : decode cX6_arrange 18 = .ok (.return_, 1) := by decide +kernel
theorem dX6_arrange_19 : decode cX6_arrange 19 = .ok (.iload_n 2, 1) := by decide +kernel
theorem dX6_arrange_20 : decode cX6_arrange 20 = .ok (.ifCond .ne 8, 3) := by decide +kernel
theorem dX6_arrange_23 : decode cX6_arrange 23 = .ok (.aload_n 1, 1) := by decide +kernel
theorem dX6_arrange_24 : decode cX6_arrange 24 = .ok (.invokevirtual 295, 3) := by decide +kernel
theorem dX6_arrange_27 : decode cX6_arrange 27 = .ok (.return_, 1) := by decide +kernel
theorem dX6_arrange_28 : decode cX6_arrange 28 = .ok (.iconst 0, 1) := by decide +kernel
theorem dX6_arrange_29 : decode cX6_arrange 29 = .ok (.istore 4, 2) := by decide +kernel
theorem dX6_arrange_31 : decode cX6_arrange 31 = .ok (.iload 4, 2) := by decide +kernel
theorem dX6_arrange_33 : decode cX6_arrange 33 = .ok (.bipush 10, 2) := by decide +kernel
theorem dX6_arrange_35 : decode cX6_arrange 35 = .ok (.if_icmp .ge 68, 3) := by decide +kernel
theorem dX6_arrange_38 : decode cX6_arrange 38 = .ok (.iload_n 2, 1) := by decide +kernel
theorem dX6_arrange_39 : decode cX6_arrange 39 = .ok (.iload 4, 2) := by decide +kernel
theorem dX6_arrange_41 : decode cX6_arrange 41 = .ok (.invokestatic 297, 3) := by decide +kernel
theorem dX6_arrange_44 : decode cX6_arrange 44 = .ok (.ifCond .eq 53, 3) := by decide +kernel
theorem dX6_arrange_47 : decode cX6_arrange 47 = .ok (.aload_n 0, 1) := by decide +kernel
theorem dX6_arrange_48 : decode cX6_arrange 48 = .ok (.iload 4, 2) := by decide +kernel
theorem dX6_arrange_50 : decode cX6_arrange 50 = .ok (.aload_n 1, 1) := by decide +kernel
theorem dX6_arrange_51 : decode cX6_arrange 51 = .ok (.getfield 300, 3) := by decide +kernel
theorem dX6_arrange_54 : decode cX6_arrange 54 = .ok (.iload 4, 2) := by decide +kernel
theorem dX6_arrange_56 : decode cX6_arrange 56 = .ok (.invokestatic 121, 3) := by decide +kernel
theorem dX6_arrange_59 : decode cX6_arrange 59 = .ok (.invokevirtual 174, 3) := by decide +kernel
theorem dX6_arrange_62 : decode cX6_arrange 62 = .ok (.ifCond .ne 35, 3) := by decide +kernel
theorem dX6_arrange_65 : decode cX6_arrange 65 = .ok (.aload_n 1, 1) := by decide +kernel
theorem dX6_arrange_66 : decode cX6_arrange 66 = .ok (.getfield 303, 3) := by decide +kernel
theorem dX6_arrange_69 : decode cX6_arrange 69 = .ok (.iload_n 3, 1) := by decide +kernel
theorem dX6_arrange_70 : decode cX6_arrange 70 = .ok (.iload 4, 2) := by decide +kernel
theorem dX6_arrange_72 : decode cX6_arrange 72 = .ok (.invokestatic 306, 3) := by decide +kernel
theorem dX6_arrange_75 : decode cX6_arrange 75 = .ok (.aload_n 0, 1) := by decide +kernel
theorem dX6_arrange_76 : decode cX6_arrange 76 = .ok (.aload_n 1, 1) := by decide +kernel
theorem dX6_arrange_77 : decode cX6_arrange 77 = .ok (.iload_n 2, 1) := by decide +kernel
theorem dX6_arrange_78 : decode cX6_arrange 78 = .ok (.iconst 1, 1) := by decide +kernel
theorem dX6_arrange_79 : decode cX6_arrange 79 = .ok (.iload 4, 2) := by decide +kernel
theorem dX6_arrange_81 : decode cX6_arrange 81 = .ok (.ishl, 1) := by decide +kernel
theorem dX6_arrange_82 : decode cX6_arrange 82 = .ok (.iconst (-1), 1) := by decide +kernel
theorem dX6_arrange_83 : decode cX6_arrange 83 = .ok (.ixor, 1) := by decide +kernel
theorem dX6_arrange_84 : decode cX6_arrange 84 = .ok (.iand, 1) := by decide +kernel
theorem dX6_arrange_85 : decode cX6_arrange 85 = .ok (.iload_n 3, 1) := by decide +kernel
theorem dX6_arrange_86 : decode cX6_arrange 86 = .ok (.iconst 1, 1) := by decide +kernel
theorem dX6_arrange_87 : decode cX6_arrange 87 = .ok (.iadd, 1) := by decide +kernel
theorem dX6_arrange_88 : decode cX6_arrange 88 = .ok (.invokestatic 193, 3) := by decide +kernel
theorem dX6_arrange_91 : decode cX6_arrange 91 = .ok (.aload_n 0, 1) := by decide +kernel
theorem dX6_arrange_92 : decode cX6_arrange 92 = .ok (.iload 4, 2) := by decide +kernel
theorem dX6_arrange_94 : decode cX6_arrange 94 = .ok (.invokevirtual 177, 3) := by decide +kernel
theorem dX6_arrange_97 : decode cX6_arrange 97 = .ok (.iinc 4 1, 3) := by decide +kernel
theorem dX6_arrange_100 : decode cX6_arrange 100 = .ok (.goto (-69), 3) := by decide +kernel
theorem dX6_arrange_103 : decode cX6_arrange 103 = .ok (.return_, 1) := by decide +kernel
set_option maxRecDepth 20000 in
theorem ggX6_climb_X5_tallest : GoodIn wsX6_climb wsX5_tallest := goodIn_r _ [9, 10, 11, 2, 3, 4, 12, 13, 14, 104, 105, 106, 107, 108, 109, 110, 111, 112, 113, 114] (by decide +kernel) (by decide +kernel)
set_option maxRecDepth 20000 in
theorem gX6_climb_X5_tallest : GoodIn wsX6_climb (wsV RX6 239 RX5 yX5_tallest wsX5_tallest) := goodIn_app (goodIn_of _ (by decide +kernel)) ggX6_climb_X5_tallest
set_option maxRecDepth 20000 in
theorem ggX6_climb_X5_freeGuests : GoodIn wsX6_climb wsX5_freeGuests := goodIn_r _ [18, 19, 20, 104, 105, 106, 107, 108, 109, 110, 111, 112, 113, 114] (by decide +kernel) (by decide +kernel)
set_option maxRecDepth 20000 in
theorem gX6_climb_X5_freeGuests : GoodIn wsX6_climb (wsV RX6 201 RX5 yX5_freeGuests wsX5_freeGuests) := goodIn_app (goodIn_of _ (by decide +kernel)) ggX6_climb_X5_freeGuests
set_option maxRecDepth 20000 in
theorem ggX6_climb_J6_bitCount_0f7a4 : GoodIn wsX6_climb wsJ6_bitCount_0f7a4 := goodIn_r _ [24, 25, 26, 27] (by decide +kernel) (by decide +kernel)
set_option maxRecDepth 20000 in
theorem gX6_climb_J6_bitCount_0f7a4 : GoodIn wsX6_climb (va_wsS RX6 86 yJ6_bitCount_0f7a4 wsJ6_bitCount_0f7a4) := goodIn_app (goodIn_of _ (by decide +kernel)) ggX6_climb_J6_bitCount_0f7a4
set_option maxRecDepth 20000 in
theorem ggX6_climb_X5_isFree : GoodIn wsX6_climb wsX5_isFree := goodIn_r _ [31, 32, 16, 17, 8, 18, 19, 20, 33, 13, 34, 104, 105, 106, 107, 108, 109, 110, 111, 112, 113, 114] (by decide +kernel) (by decide +kernel)
set_option maxRecDepth 20000 in
theorem gX6_climb_X5_isFree : GoodIn wsX6_climb (wsV RX6 171 RX5 yX5_isFree wsX5_isFree) := goodIn_app (goodIn_of _ (by decide +kernel)) ggX6_climb_X5_isFree
set_option maxRecDepth 20000 in
theorem ggX6_climb_X5_put : GoodIn wsX6_climb wsX5_put := goodIn_r _ [38, 39, 40, 41, 29, 30, 8, 31, 32, 16, 17, 18, 19, 20, 33, 13, 34, 12, 14, 42, 43, 44, 45, 10, 11, 2, 3, 4, 46, 47, 48, 49, 50, 51, 52, 53, 54, 55, 56, 57, 58, 59, 60, 61, 62, 63, 64, 65, 66, 67, 68, 69, 6, 7, 9, 70, 71, 72, 73, 74, 75, 76, 77, 78, 79, 80, 81, 82, 83, 84, 85, 86, 87, 88, 89, 90, 91, 92, 93, 94, 95, 96, 97, 98, 99, 100, 104, 105, 106, 107, 108, 109, 110, 111, 112, 113, 114] (by decide +kernel) (by decide +kernel)
set_option maxRecDepth 20000 in
theorem gX6_climb_X5_put : GoodIn wsX6_climb (wsV RX6 174 RX5 yX5_put wsX5_put) := goodIn_app (goodIn_of _ (by decide +kernel)) ggX6_climb_X5_put
set_option maxRecDepth 20000 in
theorem ggX6_climb_X6_climb : GoodIn wsX6_climb wsX6_climb := goodIn_r _ [0, 1, 2, 3, 4, 5, 6, 7, 8, 9, 10, 11, 12, 13, 14, 15, 16, 17, 18, 19, 20, 21, 22, 23, 24, 25, 26, 27, 28, 29, 30, 31, 32, 33, 34, 35, 36, 37, 38, 39, 40, 41, 42, 43, 44, 45, 46, 47, 48, 49, 50, 51, 52, 53, 54, 55, 56, 57, 58, 59, 60, 61, 62, 63, 64, 65, 66, 67, 68, 69, 70, 71, 72, 73, 74, 75, 76, 77, 78, 79, 80, 81, 82, 83, 84, 85, 86, 87, 88, 89, 90, 91, 92, 93, 94, 95, 96, 97, 98, 99, 100, 101, 102, 103, 104, 105, 106, 107, 108, 109, 110, 111, 112, 113, 114] (by decide +kernel) (by decide +kernel)
set_option maxRecDepth 20000 in
theorem gX6_climb_X6_climb : GoodIn wsX6_climb (va_wsS RX6 204 yX6_climb wsX6_climb) := goodIn_app (goodIn_of _ (by decide +kernel)) ggX6_climb_X6_climb
set_option maxRecDepth 20000 in
theorem ggX6_climb_X5_lift : GoodIn wsX6_climb wsX5_lift := goodIn_r _ [96, 20, 55, 56, 39, 50, 10, 70, 71, 72, 8, 73, 33, 13, 34, 12, 14, 59, 60, 61, 57, 58, 97, 98, 99, 100, 104, 105, 106, 107, 108, 109, 110, 111, 112, 113, 114] (by decide +kernel) (by decide +kernel)
set_option maxRecDepth 20000 in
theorem gX6_climb_X5_lift : GoodIn wsX6_climb (wsV RX6 177 RX5 yX5_lift wsX5_lift) := goodIn_app (goodIn_of _ (by decide +kernel)) ggX6_climb_X5_lift
theorem dX6_climb_0 : decode cX6_climb 0 = .ok (.aload_n 0, 1) := by decide +kernel
theorem dX6_climb_1 : decode cX6_climb 1 = .ok (.ifnull 12, 3) := by decide +kernel
theorem dX6_climb_4 : decode cX6_climb 4 = .ok (.iload_n 1, 1) := by decide +kernel
theorem dX6_climb_5 : decode cX6_climb 5 = .ok (.ifCond .lt 8, 3) := by decide +kernel
theorem dX6_climb_8 : decode cX6_climb 8 = .ok (.iload_n 1, 1) := by decide +kernel
theorem dX6_climb_9 : decode cX6_climb 9 = .ok (.iconst 3, 1) := by decide +kernel
theorem dX6_climb_10 : decode cX6_climb 10 = .ok (.if_icmp .le 5, 3) := by decide +kernel
theorem dX6_climb_13 : decode cX6_climb 13 = .ok (.iload_n 2, 1) := by decide +kernel
theorem dX6_climb_14 : decode cX6_climb 14 = .ok (.ireturn, 1) := by decide +kernel
theorem dX6_climb_15 : decode cX6_climb 15 = .ok (.aload_n 0, 1) := by decide +kernel
theorem dX6_climb_16 : decode cX6_climb 16 = .ok (.invokevirtual 239, 3) := by decide +kernel
theorem dX6_climb_19 : decode cX6_climb 19 = .ok (.istore_n 3, 1) := by decide +kernel
theorem dX6_climb_20 : decode cX6_climb 20 = .ok (.iload_n 2, 1) := by decide +kernel
theorem dX6_climb_21 : decode cX6_climb 21 = .ok (.iconst 4, 1) := by decide +kernel
theorem dX6_climb_22 : decode cX6_climb 22 = .ok (.iload_n 3, 1) := by decide +kernel
theorem dX6_climb_23 : decode cX6_climb 23 = .ok (.imul, 1) := by decide +kernel
theorem dX6_climb_24 : decode cX6_climb 24 = .ok (.iconst 3, 1) := by decide +kernel
theorem dX6_climb_25 : decode cX6_climb 25 = .ok (.iadd, 1) := by decide +kernel
theorem dX6_climb_26 : decode cX6_climb 26 = .ok (.iload_n 1, 1) := by decide +kernel
theorem dX6_climb_27 : decode cX6_climb 27 = .ok (.isub, 1) := by decide +kernel
theorem dX6_climb_28 : decode cX6_climb 28 = .ok (.invokestatic 242, 3) := by decide +kernel
theorem dX6_climb_31 : decode cX6_climb 31 = .ok (.istore 4, 2) := by decide +kernel
theorem dX6_climb_33 : decode cX6_climb 33 = .ok (.iload_n 3, 1) := by decide +kernel
theorem dX6_climb_34 : decode cX6_climb 34 = .ok (.aload_n 0, 1) := by decide +kernel
theorem dX6_climb_35 : decode cX6_climb 35 = .ok (.invokevirtual 201, 3) := by decide +kernel
theorem dX6_climb_38 : decode cX6_climb 38 = .ok (.invokestatic 86, 3) := by decide +kernel
theorem dX6_climb_41 : decode cX6_climb 41 = .ok (.iadd, 1) := by decide +kernel
theorem dX6_climb_42 : decode cX6_climb 42 = .ok (.iload 4, 2) := by decide +kernel
theorem dX6_climb_44 : decode cX6_climb 44 = .ok (.iconst 4, 1) := by decide +kernel
theorem dX6_climb_45 : decode cX6_climb 45 = .ok (.idiv, 1) := by decide +kernel
theorem dX6_climb_46 : decode cX6_climb 46 = .ok (.if_icmp .gt 6, 3) := by decide +kernel
theorem dX6_climb_49 : decode cX6_climb 49 = .ok (.iload 4, 2) := by decide +kernel
theorem dX6_climb_51 : decode cX6_climb 51 = .ok (.ireturn, 1) := by decide +kernel
theorem dX6_climb_52 : decode cX6_climb 52 = .ok (.aload_n 0, 1) := by decide +kernel
theorem dX6_climb_53 : decode cX6_climb 53 = .ok (.getfield 61, 3) := by decide +kernel
theorem dX6_climb_56 : decode cX6_climb 56 = .ok (.istore 5, 2) := by decide +kernel
theorem dX6_climb_58 : decode cX6_climb 58 = .ok (.iconst 0, 1) := by decide +kernel
theorem dX6_climb_59 : decode cX6_climb 59 = .ok (.istore 6, 2) := by decide +kernel
theorem dX6_climb_61 : decode cX6_climb 61 = .ok (.iload 6, 2) := by decide +kernel
theorem dX6_climb_63 : decode cX6_climb 63 = .ok (.bipush 10, 2) := by decide +kernel
theorem dX6_climb_65 : decode cX6_climb 65 = .ok (.if_icmp .ge 62, 3) := by decide +kernel
theorem dX6_climb_68 : decode cX6_climb 68 = .ok (.aload_n 0, 1) := by decide +kernel
theorem dX6_climb_69 : decode cX6_climb 69 = .ok (.iload 6, 2) := by decide +kernel
theorem dX6_climb_71 : decode cX6_climb 71 = .ok (.invokevirtual 171, 3) := by decide +kernel
theorem dX6_climb_74 : decode cX6_climb 74 = .ok (.ifCond .eq 47, 3) := by decide +kernel
theorem dX6_climb_77 : decode cX6_climb 77 = .ok (.iconst 0, 1) := by decide +kernel
theorem dX6_climb_78 : decode cX6_climb 78 = .ok (.istore 7, 2) := by decide +kernel
theorem dX6_climb_80 : decode cX6_climb 80 = .ok (.iload 7, 2) := by decide +kernel
theorem dX6_climb_82 : decode cX6_climb 82 = .ok (.iload 5, 2) := by decide +kernel
theorem dX6_climb_84 : decode cX6_climb 84 = .ok (.if_icmp .ge 37, 3) := by decide +kernel
theorem dX6_climb_87 : decode cX6_climb 87 = .ok (.aload_n 0, 1) := by decide +kernel
theorem dX6_climb_88 : decode cX6_climb 88 = .ok (.iload 6, 2) := by decide +kernel
theorem dX6_climb_90 : decode cX6_climb 90 = .ok (.iload 7, 2) := by decide +kernel
theorem dX6_climb_92 : decode cX6_climb 92 = .ok (.invokevirtual 174, 3) := by decide +kernel
theorem dX6_climb_95 : decode cX6_climb 95 = .ok (.ifCond .ne 20, 3) := by decide +kernel
theorem dX6_climb_98 : decode cX6_climb 98 = .ok (.aload_n 0, 1) := by decide +kernel
theorem dX6_climb_99 : decode cX6_climb 99 = .ok (.iload_n 1, 1) := by decide +kernel
theorem dX6_climb_100 : decode cX6_climb 100 = .ok (.iconst 1, 1) := by decide +kernel
theorem dX6_climb_101 : decode cX6_climb 101 = .ok (.iadd, 1) := by decide +kernel
theorem dX6_climb_102 : decode cX6_climb 102 = .ok (.iload 4, 2) := by decide +kernel
theorem dX6_climb_104 : decode cX6_climb 104 = .ok (.invokestatic 204, 3) := by decide +kernel
theorem dX6_climb_107 : decode cX6_climb 107 = .ok (.istore 4, 2) := by decide +kernel
theorem dX6_climb_109 : decode cX6_climb 109 = .ok (.aload_n 0, 1) := by decide +kernel
theorem dX6_climb_110 : decode cX6_climb 110 = .ok (.iload 6, 2) := by decide +kernel
theorem dX6_climb_112 : decode cX6_climb 112 = .ok (.invokevirtual 177, 3) := by decide +kernel
theorem dX6_climb_115 : decode cX6_climb 115 = .ok (.iinc 7 1, 3) := by decide +kernel
theorem dX6_climb_118 : decode cX6_climb 118 = .ok (.goto (-38), 3) := by decide +kernel
theorem dX6_climb_121 : decode cX6_climb 121 = .ok (.iinc 6 1, 3) := by decide +kernel
theorem dX6_climb_124 : decode cX6_climb 124 = .ok (.goto (-63), 3) := by decide +kernel
theorem dX6_climb_127 : decode cX6_climb 127 = .ok (.iload 4, 2) := by decide +kernel
theorem dX6_climb_129 : decode cX6_climb 129 = .ok (.ireturn, 1) := by decide +kernel
theorem dX6_hasBit_0 : decode cX6_hasBit 0 = .ok (.iload_n 1, 1) := by decide +kernel
theorem dX6_hasBit_1 : decode cX6_hasBit 1 = .ok (.ifCond .lt 22, 3) := by decide +kernel
theorem dX6_hasBit_4 : decode cX6_hasBit 4 = .ok (.iload_n 1, 1) := by decide +kernel
theorem dX6_hasBit_5 : decode cX6_hasBit 5 = .ok (.bipush 10, 2) := by decide +kernel
theorem dX6_hasBit_7 : decode cX6_hasBit 7 = .ok (.if_icmp .ge 16, 3) := by decide +kernel
theorem dX6_hasBit_10 : decode cX6_hasBit 10 = .ok (.iload_n 0, 1) := by decide +kernel
theorem dX6_hasBit_11 : decode cX6_hasBit 11 = .ok (.iload_n 1, 1) := by decide +kernel
theorem dX6_hasBit_12 : decode cX6_hasBit 12 = .ok (.ishr, 1) := by decide +kernel
theorem dX6_hasBit_13 : decode cX6_hasBit 13 = .ok (.iconst 1, 1) := by decide +kernel
theorem dX6_hasBit_14 : decode cX6_hasBit 14 = .ok (.iand, 1) := by decide +kernel
theorem dX6_hasBit_15 : decode cX6_hasBit 15 = .ok (.iconst 1, 1) := by decide +kernel
theorem dX6_hasBit_16 : decode cX6_hasBit 16 = .ok (.if_icmp .ne 7, 3) := by decide +kernel
theorem dX6_hasBit_19 : decode cX6_hasBit 19 = .ok (.iconst 1, 1) := by decide +kernel
theorem dX6_hasBit_20 : decode cX6_hasBit 20 = .ok (.goto 4, 3) := by decide +kernel
theorem dX6_hasBit_23 : decode cX6_hasBit 23 = .ok (.iconst 0, 1) := by decide +kernel
theorem dX6_hasBit_24 : decode cX6_hasBit 24 = .ok (.ireturn, 1) := by decide +kernel
theorem dX6_leftOver_0 : decode cX6_leftOver 0 = .ok (.iload_n 1, 1) := by decide +kernel
theorem dX6_leftOver_1 : decode cX6_leftOver 1 = .ok (.ifCond .le 9, 3) := by decide +kernel
theorem dX6_leftOver_4 : decode cX6_leftOver 4 = .ok (.iload_n 0, 1) := by decide +kernel
theorem dX6_leftOver_5 : decode cX6_leftOver 5 = .ok (.iload_n 1, 1) := by decide +kernel
theorem dX6_leftOver_6 : decode cX6_leftOver 6 = .ok (.irem, 1) := by decide +kernel
theorem dX6_leftOver_7 : decode cX6_leftOver 7 = .ok (.goto 4, 3) := by decide +kernel
theorem dX6_leftOver_10 : decode cX6_leftOver 10 = .ok (.iconst 0, 1) := by decide +kernel
theorem dX6_leftOver_11 : decode cX6_leftOver 11 = .ok (.ireturn, 1) := by decide +kernel
set_option maxRecDepth 20000 in
theorem ggX6_inLowestTerms_X6_greatestDivisor : GoodIn wsX6_inLowestTerms wsX6_greatestDivisor := goodIn_r _ [4] (by decide +kernel) (by decide +kernel)
set_option maxRecDepth 20000 in
theorem gX6_inLowestTerms_X6_greatestDivisor : GoodIn wsX6_inLowestTerms (va_wsS RX6 310 yX6_greatestDivisor wsX6_greatestDivisor) := goodIn_app (goodIn_of _ (by decide +kernel)) ggX6_inLowestTerms_X6_greatestDivisor
theorem dX6_inLowestTerms_0 : decode cX6_inLowestTerms 0 = .ok (.lload_n 0, 1) := by decide +kernel
theorem dX6_inLowestTerms_1 : decode cX6_inLowestTerms 1 = .ok (.lload_n 2, 1) := by decide +kernel
theorem dX6_inLowestTerms_2 : decode cX6_inLowestTerms 2 = .ok (.invokestatic 310, 3) := by decide +kernel
theorem dX6_inLowestTerms_5 : decode cX6_inLowestTerms 5 = .ok (.lstore 5, 2) := by decide +kernel
theorem dX6_inLowestTerms_7 : decode cX6_inLowestTerms 7 = .ok (.lload 5, 2) := by decide +kernel
theorem dX6_inLowestTerms_9 : decode cX6_inLowestTerms 9 = .ok (.lconst 0, 1) := by decide +kernel
theorem dX6_inLowestTerms_10 : decode cX6_inLowestTerms 10 = .ok (.lcmp, 1) := by decide +kernel
theorem dX6_inLowestTerms_11 : decode cX6_inLowestTerms 11 = .ok (.ifCond .ne 5, 3) := by decide +kernel
theorem dX6_inLowestTerms_14 : decode cX6_inLowestTerms 14 = .ok (.lconst 0, 1) := by decide +kernel
theorem dX6_inLowestTerms_15 : decode cX6_inLowestTerms 15 = .ok (.lreturn, 1) := by decide +kernel
theorem dX6_inLowestTerms_16 : decode cX6_inLowestTerms 16 = .ok (.iload 4, 2) := by decide +kernel
theorem dX6_inLowestTerms_18 : decode cX6_inLowestTerms 18 = .ok (.ifCond .ne 10, 3) := by decide +kernel
theorem dX6_inLowestTerms_21 : decode cX6_inLowestTerms 21 = .ok (.lload_n 0, 1) := by decide +kernel
theorem dX6_inLowestTerms_22 : decode cX6_inLowestTerms 22 = .ok (.lload 5, 2) := by decide +kernel
theorem dX6_inLowestTerms_24 : decode cX6_inLowestTerms 24 = .ok (.ldiv, 1) := by decide +kernel
theorem dX6_inLowestTerms_25 : decode cX6_inLowestTerms 25 = .ok (.goto 7, 3) := by decide +kernel
theorem dX6_inLowestTerms_28 : decode cX6_inLowestTerms 28 = .ok (.lload_n 2, 1) := by decide +kernel
theorem dX6_inLowestTerms_29 : decode cX6_inLowestTerms 29 = .ok (.lload 5, 2) := by decide +kernel
theorem dX6_inLowestTerms_31 : decode cX6_inLowestTerms 31 = .ok (.ldiv, 1) := by decide +kernel
theorem dX6_inLowestTerms_32 : decode cX6_inLowestTerms 32 = .ok (.lreturn, 1) := by decide +kernel
theorem dX6_greatestDivisor_0 : decode cX6_greatestDivisor 0 = .ok (.lload_n 0, 1) := by decide +kernel
theorem dX6_greatestDivisor_1 : decode cX6_greatestDivisor 1 = .ok (.lstore 4, 2) := by decide +kernel
theorem dX6_greatestDivisor_3 : decode cX6_greatestDivisor 3 = .ok (.lload_n 2, 1) := by decide +kernel
theorem dX6_greatestDivisor_4 : decode cX6_greatestDivisor 4 = .ok (.lstore 6, 2) := by decide +kernel
theorem dX6_greatestDivisor_6 : decode cX6_greatestDivisor 6 = .ok (.iconst 0, 1) := by decide +kernel
theorem dX6_greatestDivisor_7 : decode cX6_greatestDivisor 7 = .ok (.istore 8, 2) := by decide +kernel
theorem dX6_greatestDivisor_9 : decode cX6_greatestDivisor 9 = .ok (.iload 8, 2) := by decide +kernel
theorem dX6_greatestDivisor_11 : decode cX6_greatestDivisor 11 = .ok (.sipush 128, 3) := by decide +kernel
theorem dX6_greatestDivisor_14 : decode cX6_greatestDivisor 14 = .ok (.if_icmp .ge 31, 3) := by decide +kernel
theorem dX6_greatestDivisor_17 : decode cX6_greatestDivisor 17 = .ok (.lload 6, 2) := by decide +kernel
theorem dX6_greatestDivisor_19 : decode cX6_greatestDivisor 19 = .ok (.lconst 0, 1) := by decide +kernel
theorem dX6_greatestDivisor_20 : decode cX6_greatestDivisor 20 = .ok (.lcmp, 1) := by decide +kernel
theorem dX6_greatestDivisor_21 : decode cX6_greatestDivisor 21 = .ok (.ifCond .eq 24, 3) := by decide +kernel
theorem dX6_greatestDivisor_24 : decode cX6_greatestDivisor 24 = .ok (.lload 4, 2) := by decide +kernel
theorem dX6_greatestDivisor_26 : decode cX6_greatestDivisor 26 = .ok (.lload 6, 2) := by decide +kernel
theorem dX6_greatestDivisor_28 : decode cX6_greatestDivisor 28 = .ok (.lrem, 1) := by decide +kernel
theorem dX6_greatestDivisor_29 : decode cX6_greatestDivisor 29 = .ok (.lstore 9, 2) := by decide +kernel
theorem dX6_greatestDivisor_31 : decode cX6_greatestDivisor 31 = .ok (.lload 6, 2) := by decide +kernel
theorem dX6_greatestDivisor_33 : decode cX6_greatestDivisor 33 = .ok (.lstore 4, 2) := by decide +kernel
theorem dX6_greatestDivisor_35 : decode cX6_greatestDivisor 35 = .ok (.lload 9, 2) := by decide +kernel
theorem dX6_greatestDivisor_37 : decode cX6_greatestDivisor 37 = .ok (.lstore 6, 2) := by decide +kernel
theorem dX6_greatestDivisor_39 : decode cX6_greatestDivisor 39 = .ok (.iinc 8 1, 3) := by decide +kernel
theorem dX6_greatestDivisor_42 : decode cX6_greatestDivisor 42 = .ok (.goto (-33), 3) := by decide +kernel
theorem dX6_greatestDivisor_45 : decode cX6_greatestDivisor 45 = .ok (.lload 4, 2) := by decide +kernel
theorem dX6_greatestDivisor_47 : decode cX6_greatestDivisor 47 = .ok (.lreturn, 1) := by decide +kernel
theorem dX6_at_0 : decode cX6_at 0 = .ok (.aload_n 0, 1) := by decide +kernel
theorem dX6_at_1 : decode cX6_at 1 = .ok (.ifnull 19, 3) := by decide +kernel
theorem dX6_at_4 : decode cX6_at 4 = .ok (.iload_n 1, 1) := by decide +kernel
theorem dX6_at_5 : decode cX6_at 5 = .ok (.ifCond .lt 15, 3) := by decide +kernel
theorem dX6_at_8 : decode cX6_at 8 = .ok (.iload_n 1, 1) := by decide +kernel
theorem dX6_at_9 : decode cX6_at 9 = .ok (.aload_n 0, 1) := by decide +kernel
theorem dX6_at_10 : decode cX6_at 10 = .ok (.arraylength, 1) := by decide +kernel
theorem dX6_at_11 : decode cX6_at 11 = .ok (.if_icmp .ge 9, 3) := by decide +kernel
theorem dX6_at_14 : decode cX6_at 14 = .ok (.aload_n 0, 1) := by decide +kernel
theorem dX6_at_15 : decode cX6_at 15 = .ok (.iload_n 1, 1) := by decide +kernel
theorem dX6_at_16 : decode cX6_at 16 = .ok (.iaload, 1) := by decide +kernel
theorem dX6_at_17 : decode cX6_at 17 = .ok (.goto 4, 3) := by decide +kernel
theorem dX6_at_20 : decode cX6_at 20 = .ok (.iconst 0, 1) := by decide +kernel
theorem dX6_at_21 : decode cX6_at 21 = .ok (.ireturn, 1) := by decide +kernel
theorem dX6_at__0 : decode cX6_at_ 0 = .ok (.aload_n 0, 1) := by decide +kernel
theorem dX6_at__1 : decode cX6_at_ 1 = .ok (.ifnull 19, 3) := by decide +kernel
theorem dX6_at__4 : decode cX6_at_ 4 = .ok (.iload_n 1, 1) := by decide +kernel
theorem dX6_at__5 : decode cX6_at_ 5 = .ok (.ifCond .lt 15, 3) := by decide +kernel
theorem dX6_at__8 : decode cX6_at_ 8 = .ok (.iload_n 1, 1) := by decide +kernel
theorem dX6_at__9 : decode cX6_at_ 9 = .ok (.aload_n 0, 1) := by decide +kernel
theorem dX6_at__10 : decode cX6_at_ 10 = .ok (.arraylength, 1) := by decide +kernel
theorem dX6_at__11 : decode cX6_at_ 11 = .ok (.if_icmp .ge 9, 3) := by decide +kernel
theorem dX6_at__14 : decode cX6_at_ 14 = .ok (.aload_n 0, 1) := by decide +kernel
theorem dX6_at__15 : decode cX6_at_ 15 = .ok (.iload_n 1, 1) := by decide +kernel
theorem dX6_at__16 : decode cX6_at_ 16 = .ok (.laload, 1) := by decide +kernel
theorem dX6_at__17 : decode cX6_at_ 17 = .ok (.goto 4, 3) := by decide +kernel
theorem dX6_at__20 : decode cX6_at_ 20 = .ok (.lconst 0, 1) := by decide +kernel
theorem dX6_at__21 : decode cX6_at_ 21 = .ok (.lreturn, 1) := by decide +kernel
theorem dX6_set_0 : decode cX6_set 0 = .ok (.aload_n 0, 1) := by decide +kernel
theorem dX6_set_1 : decode cX6_set 1 = .ok (.ifnull 17, 3) := by decide +kernel
theorem dX6_set_4 : decode cX6_set 4 = .ok (.iload_n 1, 1) := by decide +kernel
theorem dX6_set_5 : decode cX6_set 5 = .ok (.ifCond .lt 13, 3) := by decide +kernel
theorem dX6_set_8 : decode cX6_set 8 = .ok (.iload_n 1, 1) := by decide +kernel
theorem dX6_set_9 : decode cX6_set 9 = .ok (.aload_n 0, 1) := by decide +kernel
theorem dX6_set_10 : decode cX6_set 10 = .ok (.arraylength, 1) := by decide +kernel
theorem dX6_set_11 : decode cX6_set 11 = .ok (.if_icmp .ge 7, 3) := by decide +kernel
theorem dX6_set_14 : decode cX6_set 14 = .ok (.aload_n 0, 1) := by decide +kernel
theorem dX6_set_15 : decode cX6_set 15 = .ok (.iload_n 1, 1) := by decide +kernel
theorem dX6_set_16 : decode cX6_set 16 = .ok (.iload_n 2, 1) := by decide +kernel
theorem dX6_set_17 : decode cX6_set 17 = .ok (.iastore, 1) := by decide +kernel
theorem dX6_set_18 : decode cX6_set 18 = .ok (.return_, 1) := by decide +kernel
theorem dX6_addTo_0 : decode cX6_addTo 0 = .ok (.aload_n 0, 1) := by decide +kernel
theorem dX6_addTo_1 : decode cX6_addTo 1 = .ok (.ifnull 20, 3) := by decide +kernel
theorem dX6_addTo_4 : decode cX6_addTo 4 = .ok (.iload_n 1, 1) := by decide +kernel
theorem dX6_addTo_5 : decode cX6_addTo 5 = .ok (.ifCond .lt 16, 3) := by decide +kernel
theorem dX6_addTo_8 : decode cX6_addTo 8 = .ok (.iload_n 1, 1) := by decide +kernel
theorem dX6_addTo_9 : decode cX6_addTo 9 = .ok (.aload_n 0, 1) := by decide +kernel
theorem dX6_addTo_10 : decode cX6_addTo 10 = .ok (.arraylength, 1) := by decide +kernel
theorem dX6_addTo_11 : decode cX6_addTo 11 = .ok (.if_icmp .ge 10, 3) := by decide +kernel
theorem dX6_addTo_14 : decode cX6_addTo 14 = .ok (.aload_n 0, 1) := by decide +kernel
theorem dX6_addTo_15 : decode cX6_addTo 15 = .ok (.iload_n 1, 1) := by decide +kernel
theorem dX6_addTo_16 : decode cX6_addTo 16 = .ok (.dup2, 1) := by decide +kernel
theorem dX6_addTo_17 : decode cX6_addTo 17 = .ok (.laload, 1) := by decide +kernel
theorem dX6_addTo_18 : decode cX6_addTo 18 = .ok (.lload_n 2, 1) := by decide +kernel
theorem dX6_addTo_19 : decode cX6_addTo 19 = .ok (.ladd, 1) := by decide +kernel
theorem dX6_addTo_20 : decode cX6_addTo 20 = .ok (.lastore, 1) := by decide +kernel
theorem dX6_addTo_21 : decode cX6_addTo 21 = .ok (.return_, 1) := by decide +kernel
theorem dX6_fill_0 : decode cX6_fill 0 = .ok (.aload_n 0, 1) := by decide +kernel
theorem dX6_fill_1 : decode cX6_fill 1 = .ok (.ifnonnull 4, 3) := by decide +kernel
theorem dX6_fill_4 : decode cX6_fill 4 = .ok (.return_, 1) := by decide +kernel
theorem dX6_fill_5 : decode cX6_fill 5 = .ok (.iconst 0, 1) := by decide +kernel
theorem dX6_fill_6 : decode cX6_fill 6 = .ok (.istore_n 2, 1) := by decide +kernel
theorem dX6_fill_7 : decode cX6_fill 7 = .ok (.iload_n 2, 1) := by decide +kernel
theorem dX6_fill_8 : decode cX6_fill 8 = .ok (.aload_n 0, 1) := by decide +kernel
theorem dX6_fill_9 : decode cX6_fill 9 = .ok (.arraylength, 1) := by decide +kernel
theorem dX6_fill_10 : decode cX6_fill 10 = .ok (.if_icmp .ge 13, 3) := by decide +kernel
theorem dX6_fill_13 : decode cX6_fill 13 = .ok (.aload_n 0, 1) := by decide +kernel
theorem dX6_fill_14 : decode cX6_fill 14 = .ok (.iload_n 2, 1) := by decide +kernel
theorem dX6_fill_15 : decode cX6_fill 15 = .ok (.iload_n 1, 1) := by decide +kernel
theorem dX6_fill_16 : decode cX6_fill 16 = .ok (.iastore, 1) := by decide +kernel
theorem dX6_fill_17 : decode cX6_fill 17 = .ok (.iinc 2 1, 3) := by decide +kernel
theorem dX6_fill_20 : decode cX6_fill 20 = .ok (.goto (-13), 3) := by decide +kernel
theorem dX6_fill_23 : decode cX6_fill 23 = .ok (.return_, 1) := by decide +kernel
theorem dX6_fill__0 : decode cX6_fill_ 0 = .ok (.aload_n 0, 1) := by decide +kernel
theorem dX6_fill__1 : decode cX6_fill_ 1 = .ok (.ifnonnull 4, 3) := by decide +kernel
theorem dX6_fill__4 : decode cX6_fill_ 4 = .ok (.return_, 1) := by decide +kernel
theorem dX6_fill__5 : decode cX6_fill_ 5 = .ok (.iconst 0, 1) := by decide +kernel
theorem dX6_fill__6 : decode cX6_fill_ 6 = .ok (.istore_n 3, 1) := by decide +kernel
theorem dX6_fill__7 : decode cX6_fill_ 7 = .ok (.iload_n 3, 1) := by decide +kernel
theorem dX6_fill__8 : decode cX6_fill_ 8 = .ok (.aload_n 0, 1) := by decide +kernel
theorem dX6_fill__9 : decode cX6_fill_ 9 = .ok (.arraylength, 1) := by decide +kernel
theorem dX6_fill__10 : decode cX6_fill_ 10 = .ok (.if_icmp .ge 13, 3) := by decide +kernel
theorem dX6_fill__13 : decode cX6_fill_ 13 = .ok (.aload_n 0, 1) := by decide +kernel
theorem dX6_fill__14 : decode cX6_fill_ 14 = .ok (.iload_n 3, 1) := by decide +kernel
theorem dX6_fill__15 : decode cX6_fill_ 15 = .ok (.lload_n 1, 1) := by decide +kernel
theorem dX6_fill__16 : decode cX6_fill_ 16 = .ok (.lastore, 1) := by decide +kernel
theorem dX6_fill__17 : decode cX6_fill_ 17 = .ok (.iinc 3 1, 3) := by decide +kernel
theorem dX6_fill__20 : decode cX6_fill_ 20 = .ok (.goto (-13), 3) := by decide +kernel
theorem dX6_fill__23 : decode cX6_fill_ 23 = .ok (.return_, 1) := by decide +kernel
theorem dX6_copy_0 : decode cX6_copy 0 = .ok (.aload_n 0, 1) := by decide +kernel
theorem dX6_copy_1 : decode cX6_copy 1 = .ok (.ifnull 21, 3) := by decide +kernel
theorem dX6_copy_4 : decode cX6_copy 4 = .ok (.aload_n 1, 1) := by decide +kernel
theorem dX6_copy_5 : decode cX6_copy 5 = .ok (.ifnull 17, 3) := by decide +kernel
theorem dX6_copy_8 : decode cX6_copy 8 = .ok (.aload_n 0, 1) := by decide +kernel
theorem dX6_copy_9 : decode cX6_copy 9 = .ok (.iconst 0, 1) := by decide +kernel
theorem dX6_copy_10 : decode cX6_copy 10 = .ok (.aload_n 1, 1) := by decide +kernel
theorem dX6_copy_11 : decode cX6_copy 11 = .ok (.iconst 0, 1) := by decide +kernel
theorem dX6_copy_12 : decode cX6_copy 12 = .ok (.aload_n 0, 1) := by decide +kernel
theorem dX6_copy_13 : decode cX6_copy 13 = .ok (.arraylength, 1) := by decide +kernel
theorem dX6_copy_14 : decode cX6_copy 14 = .ok (.aload_n 1, 1) := by decide +kernel
theorem dX6_copy_15 : decode cX6_copy 15 = .ok (.arraylength, 1) := by decide +kernel
theorem dX6_copy_16 : decode cX6_copy 16 = .ok (.invokestatic 314, 3) := by decide +kernel
theorem dX6_copy_19 : decode cX6_copy 19 = .ok (.invokestatic 317, 3) := by decide +kernel
theorem dX6_copy_22 : decode cX6_copy 22 = .ok (.return_, 1) := by decide +kernel
set_option maxRecDepth 20000 in
theorem ggX7_init_X7_clear : GoodIn wsX7_init wsX7_clear := goodIn_r _ [28, 29, 30, 9, 10, 31, 32, 33, 34, 35, 36, 37, 38, 39, 40, 41, 42, 43, 44, 45, 46, 47, 48, 49, 50, 51, 52, 53, 54, 55, 56] (by decide +kernel) (by decide +kernel)
set_option maxRecDepth 20000 in
theorem gX7_init_X7_clear : GoodIn wsX7_init (wsV RX7 64 RX7 yX7_clear wsX7_clear) := goodIn_app (goodIn_of _ (by decide +kernel)) ggX7_init_X7_clear
