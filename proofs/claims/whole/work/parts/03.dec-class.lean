theorem dX0_init_0 : decode cX0_init 0 = .ok (.aload_n 0, 1) := by decide +kernel
theorem dX0_init_1 : decode cX0_init 1 = .ok (.invokespecial 3, 3) := by decide +kernel
theorem dX0_init_4 : decode cX0_init 4 = .ok (.aload_n 0, 1) := by decide +kernel
theorem dX0_init_5 : decode cX0_init 5 = .ok (.bipush 80, 2) := by decide +kernel
theorem dX0_init_7 : decode cX0_init 7 = .ok (.newarray .int, 2) := by decide +kernel
theorem dX0_init_9 : decode cX0_init 9 = .ok (.putfield 9, 3) := by decide +kernel
theorem dX0_init_12 : decode cX0_init 12 = .ok (.aload_n 0, 1) := by decide +kernel
theorem dX0_init_13 : decode cX0_init 13 = .ok (.bipush 80, 2) := by decide +kernel
theorem dX0_init_15 : decode cX0_init 15 = .ok (.newarray .int, 2) := by decide +kernel
theorem dX0_init_17 : decode cX0_init 17 = .ok (.putfield 15, 3) := by decide +kernel
theorem dX0_init_20 : decode cX0_init 20 = .ok (.aload_n 0, 1) := by decide +kernel
theorem dX0_init_21 : decode cX0_init 21 = .ok (.bipush 80, 2) := by decide +kernel
theorem dX0_init_23 : decode cX0_init 23 = .ok (.newarray .int, 2) := by decide +kernel
theorem dX0_init_25 : decode cX0_init 25 = .ok (.putfield 18, 3) := by decide +kernel
theorem dX0_init_28 : decode cX0_init 28 = .ok (.aload_n 0, 1) := by decide +kernel
theorem dX0_init_29 : decode cX0_init 29 = .ok (.bipush 80, 2) := by decide +kernel
theorem dX0_init_31 : decode cX0_init 31 = .ok (.newarray .int, 2) := by decide +kernel
theorem dX0_init_33 : decode cX0_init 33 = .ok (.putfield 21, 3) := by decide +kernel
theorem dX0_init_36 : decode cX0_init 36 = .ok (.aload_n 0, 1) := by decide +kernel
theorem dX0_init_37 : decode cX0_init 37 = .ok (.iconst 0, 1) := by decide +kernel
theorem dX0_init_38 : decode cX0_init 38 = .ok (.putfield 24, 3) := by decide +kernel
theorem dX0_init_41 : decode cX0_init 41 = .ok (.return_, 1) := by decide +kernel
theorem dX0_append_0 : decode cX0_append 0 = .ok (.aload_n 0, 1) := by decide +kernel
theorem dX0_append_1 : decode cX0_append 1 = .ok (.getfield 24, 3) := by decide +kernel
theorem dX0_append_4 : decode cX0_append 4 = .ok (.bipush 80, 2) := by decide +kernel
theorem dX0_append_6 : decode cX0_append 6 = .ok (.if_icmp .lt 6, 3) := by decide +kernel
theorem dX0_append_9 : decode cX0_append 9 = .ok (.bipush (-2), 2) := by decide +kernel
theorem dX0_append_11 : decode cX0_append 11 = .ok (.ireturn, 1) := by decide +kernel
theorem dX0_append_12 : decode cX0_append 12 = .ok (.aload_n 0, 1) := by decide +kernel
theorem dX0_append_13 : decode cX0_append 13 = .ok (.getfield 9, 3) := by decide +kernel
theorem dX0_append_16 : decode cX0_append 16 = .ok (.aload_n 0, 1) := by decide +kernel
theorem dX0_append_17 : decode cX0_append 17 = .ok (.getfield 24, 3) := by decide +kernel
theorem dX0_append_20 : decode cX0_append 20 = .ok (.iload_n 1, 1) := by decide +kernel
theorem dX0_append_21 : decode cX0_append 21 = .ok (.iastore, 1) := by decide +kernel
theorem dX0_append_22 : decode cX0_append 22 = .ok (.aload_n 0, 1) := by decide +kernel
theorem dX0_append_23 : decode cX0_append 23 = .ok (.getfield 15, 3) := by decide +kernel
theorem dX0_append_26 : decode cX0_append 26 = .ok (.aload_n 0, 1) := by decide +kernel
theorem dX0_append_27 : decode cX0_append 27 = .ok (.getfield 24, 3) := by decide +kernel
theorem dX0_append_30 : decode cX0_append 30 = .ok (.iload_n 2, 1) := by decide +kernel
theorem dX0_append_31 : decode cX0_append 31 = .ok (.iastore, 1) := by decide +kernel
theorem dX0_append_32 : decode cX0_append 32 = .ok (.aload_n 0, 1) := by decide +kernel
theorem dX0_append_33 : decode cX0_append 33 = .ok (.getfield 18, 3) := by decide +kernel
theorem dX0_append_36 : decode cX0_append 36 = .ok (.aload_n 0, 1) := by decide +kernel
theorem dX0_append_37 : decode cX0_append 37 = .ok (.getfield 24, 3) := by decide +kernel
theorem dX0_append_40 : decode cX0_append 40 = .ok (.iload_n 3, 1) := by decide +kernel
theorem dX0_append_41 : decode cX0_append 41 = .ok (.iastore, 1) := by decide +kernel
theorem dX0_append_42 : decode cX0_append 42 = .ok (.aload_n 0, 1) := by decide +kernel
theorem dX0_append_43 : decode cX0_append 43 = .ok (.getfield 21, 3) := by decide +kernel
theorem dX0_append_46 : decode cX0_append 46 = .ok (.aload_n 0, 1) := by decide +kernel
theorem dX0_append_47 : decode cX0_append 47 = .ok (.getfield 24, 3) := by decide +kernel
theorem dX0_append_50 : decode cX0_append 50 = .ok (.iload 4, 2) := by decide +kernel
theorem dX0_append_52 : decode cX0_append 52 = .ok (.iastore, 1) := by decide +kernel
theorem dX0_append_53 : decode cX0_append 53 = .ok (.aload_n 0, 1) := by decide +kernel
theorem dX0_append_54 : decode cX0_append 54 = .ok (.dup, 1) := by decide +kernel
theorem dX0_append_55 : decode cX0_append 55 = .ok (.getfield 24, 3) := by decide +kernel
theorem dX0_append_58 : decode cX0_append 58 = .ok (.iconst 1, 1) := by decide +kernel
theorem dX0_append_59 : decode cX0_append 59 = .ok (.iadd, 1) := by decide +kernel
theorem dX0_append_60 : decode cX0_append 60 = .ok (.putfield 24, 3) := by decide +kernel
theorem dX0_append_63 : decode cX0_append 63 = .ok (.aload_n 0, 1) := by decide +kernel
theorem dX0_append_64 : decode cX0_append 64 = .ok (.getfield 24, 3) := by decide +kernel
theorem dX0_append_67 : decode cX0_append 67 = .ok (.iconst 1, 1) := by decide +kernel
theorem dX0_append_68 : decode cX0_append 68 = .ok (.isub, 1) := by decide +kernel
theorem dX0_append_69 : decode cX0_append 69 = .ok (.ireturn, 1) := by decide +kernel
set_option maxRecDepth 20000 in
theorem ggX0_remove_X0_closeGap : GoodIn wsX0_remove wsX0_closeGap := goodIn_r _ [10, 1, 11, 12, 13, 14, 15, 16, 17, 18, 19] (by decide +kernel) (by decide +kernel)
set_option maxRecDepth 20000 in
theorem gX0_remove_X0_closeGap : GoodIn wsX0_remove (wsV RX0 28 RX0 yX0_closeGap wsX0_closeGap) := goodIn_app (goodIn_of _ (by decide +kernel)) ggX0_remove_X0_closeGap
theorem dX0_remove_0 : decode cX0_remove 0 = .ok (.iload_n 1, 1) := by decide +kernel
theorem dX0_remove_1 : decode cX0_remove 1 = .ok (.ifCond .lt 11, 3) := by decide +kernel
theorem dX0_remove_4 : decode cX0_remove 4 = .ok (.iload_n 1, 1) := by decide +kernel
theorem dX0_remove_5 : decode cX0_remove 5 = .ok (.aload_n 0, 1) := by decide +kernel
theorem dX0_remove_6 : decode cX0_remove 6 = .ok (.getfield 24, 3) := by decide +kernel
theorem dX0_remove_9 : decode cX0_remove 9 = .ok (.if_icmp .lt 5, 3) := by decide +kernel
theorem dX0_remove_12 : decode cX0_remove 12 = .ok (.iconst (-1), 1) := by decide +kernel
theorem dX0_remove_13 : decode cX0_remove 13 = .ok (.ireturn, 1) := by decide +kernel
theorem dX0_remove_14 : decode cX0_remove 14 = .ok (.aload_n 0, 1) := by decide +kernel
theorem dX0_remove_15 : decode cX0_remove 15 = .ok (.dup, 1) := by decide +kernel
theorem dX0_remove_16 : decode cX0_remove 16 = .ok (.getfield 24, 3) := by decide +kernel
theorem dX0_remove_19 : decode cX0_remove 19 = .ok (.iconst 1, 1) := by decide +kernel
theorem dX0_remove_20 : decode cX0_remove 20 = .ok (.isub, 1) := by decide +kernel
theorem dX0_remove_21 : decode cX0_remove 21 = .ok (.putfield 24, 3) := by decide +kernel
theorem dX0_remove_24 : decode cX0_remove 24 = .ok (.aload_n 0, 1) := by decide +kernel
theorem dX0_remove_25 : decode cX0_remove 25 = .ok (.aload_n 0, 1) := by decide +kernel
theorem dX0_remove_26 : decode cX0_remove 26 = .ok (.getfield 9, 3) := by decide +kernel
theorem dX0_remove_29 : decode cX0_remove 29 = .ok (.iload_n 1, 1) := by decide +kernel
theorem dX0_remove_30 : decode cX0_remove 30 = .ok (.invokevirtual 28, 3) := by decide +kernel
theorem dX0_remove_33 : decode cX0_remove 33 = .ok (.aload_n 0, 1) := by decide +kernel
theorem dX0_remove_34 : decode cX0_remove 34 = .ok (.aload_n 0, 1) := by decide +kernel
theorem dX0_remove_35 : decode cX0_remove 35 = .ok (.getfield 15, 3) := by decide +kernel
theorem dX0_remove_38 : decode cX0_remove 38 = .ok (.iload_n 1, 1) := by decide +kernel
theorem dX0_remove_39 : decode cX0_remove 39 = .ok (.invokevirtual 28, 3) := by decide +kernel
theorem dX0_remove_42 : decode cX0_remove 42 = .ok (.aload_n 0, 1) := by decide +kernel
theorem dX0_remove_43 : decode cX0_remove 43 = .ok (.aload_n 0, 1) := by decide +kernel
theorem dX0_remove_44 : decode cX0_remove 44 = .ok (.getfield 18, 3) := by decide +kernel
theorem dX0_remove_47 : decode cX0_remove 47 = .ok (.iload_n 1, 1) := by decide +kernel
theorem dX0_remove_48 : decode cX0_remove 48 = .ok (.invokevirtual 28, 3) := by decide +kernel
theorem dX0_remove_51 : decode cX0_remove 51 = .ok (.aload_n 0, 1) := by decide +kernel
theorem dX0_remove_52 : decode cX0_remove 52 = .ok (.aload_n 0, 1) := by decide +kernel
theorem dX0_remove_53 : decode cX0_remove 53 = .ok (.getfield 21, 3) := by decide +kernel
theorem dX0_remove_56 : decode cX0_remove 56 = .ok (.iload_n 1, 1) := by decide +kernel
theorem dX0_remove_57 : decode cX0_remove 57 = .ok (.invokevirtual 28, 3) := by decide +kernel
theorem dX0_remove_60 : decode cX0_remove 60 = .ok (.aload_n 0, 1) := by decide +kernel
theorem dX0_remove_61 : decode cX0_remove 61 = .ok (.getfield 24, 3) := by decide +kernel
theorem dX0_remove_64 : decode cX0_remove 64 = .ok (.ireturn, 1) := by decide +kernel
theorem dX0_closeGap_0 : decode cX0_closeGap 0 = .ok (.aload_n 1, 1) := by decide +kernel
theorem dX0_closeGap_1 : decode cX0_closeGap 1 = .ok (.iload_n 2, 1) := by decide +kernel
theorem dX0_closeGap_2 : decode cX0_closeGap 2 = .ok (.iconst 1, 1) := by decide +kernel
theorem dX0_closeGap_3 : decode cX0_closeGap 3 = .ok (.iadd, 1) := by decide +kernel
theorem dX0_closeGap_4 : decode cX0_closeGap 4 = .ok (.aload_n 1, 1) := by decide +kernel
theorem dX0_closeGap_5 : decode cX0_closeGap 5 = .ok (.iload_n 2, 1) := by decide +kernel
theorem dX0_closeGap_6 : decode cX0_closeGap 6 = .ok (.aload_n 0, 1) := by decide +kernel
theorem dX0_closeGap_7 : decode cX0_closeGap 7 = .ok (.getfield 24, 3) := by decide +kernel
theorem dX0_closeGap_10 : decode cX0_closeGap 10 = .ok (.iload_n 2, 1) := by decide +kernel
theorem dX0_closeGap_11 : decode cX0_closeGap 11 = .ok (.isub, 1) := by decide +kernel
theorem dX0_closeGap_12 : decode cX0_closeGap 12 = .ok (.invokestatic 32, 3) := by decide +kernel
theorem dX0_closeGap_15 : decode cX0_closeGap 15 = .ok (.return_, 1) := by decide +kernel
theorem dX1_init_0 : decode cX1_init 0 = .ok (.aload_n 0, 1) := by decide +kernel
theorem dX1_init_1 : decode cX1_init 1 = .ok (.invokespecial 3, 3) := by decide +kernel
theorem dX1_init_4 : decode cX1_init 4 = .ok (.aload_n 0, 1) := by decide +kernel
theorem dX1_init_5 : decode cX1_init 5 = .ok (.sipush 168, 3) := by decide +kernel
theorem dX1_init_8 : decode cX1_init 8 = .ok (.newarray .int, 2) := by decide +kernel
theorem dX1_init_10 : decode cX1_init 10 = .ok (.putfield 9, 3) := by decide +kernel
theorem dX1_init_13 : decode cX1_init 13 = .ok (.aload_n 0, 1) := by decide +kernel
theorem dX1_init_14 : decode cX1_init 14 = .ok (.sipush 168, 3) := by decide +kernel
theorem dX1_init_17 : decode cX1_init 17 = .ok (.newarray .int, 2) := by decide +kernel
theorem dX1_init_19 : decode cX1_init 19 = .ok (.putfield 15, 3) := by decide +kernel
theorem dX1_init_22 : decode cX1_init 22 = .ok (.aload_n 0, 1) := by decide +kernel
theorem dX1_init_23 : decode cX1_init 23 = .ok (.sipush 4032, 3) := by decide +kernel
theorem dX1_init_26 : decode cX1_init 26 = .ok (.newarray .long, 2) := by decide +kernel
theorem dX1_init_28 : decode cX1_init 28 = .ok (.putfield 18, 3) := by decide +kernel
theorem dX1_init_31 : decode cX1_init 31 = .ok (.aload_n 0, 1) := by decide +kernel
theorem dX1_init_32 : decode cX1_init 32 = .ok (.sipush 4032, 3) := by decide +kernel
theorem dX1_init_35 : decode cX1_init 35 = .ok (.newarray .int, 2) := by decide +kernel
theorem dX1_init_37 : decode cX1_init 37 = .ok (.putfield 22, 3) := by decide +kernel
theorem dX1_init_40 : decode cX1_init 40 = .ok (.aload_n 0, 1) := by decide +kernel
theorem dX1_init_41 : decode cX1_init 41 = .ok (.iconst 0, 1) := by decide +kernel
theorem dX1_init_42 : decode cX1_init 42 = .ok (.putfield 25, 3) := by decide +kernel
theorem dX1_init_45 : decode cX1_init 45 = .ok (.aload_n 0, 1) := by decide +kernel
theorem dX1_init_46 : decode cX1_init 46 = .ok (.iconst 0, 1) := by decide +kernel
theorem dX1_init_47 : decode cX1_init 47 = .ok (.putfield 29, 3) := by decide +kernel
theorem dX1_init_50 : decode cX1_init 50 = .ok (.aload_n 0, 1) := by decide +kernel
theorem dX1_init_51 : decode cX1_init 51 = .ok (.iconst 0, 1) := by decide +kernel
theorem dX1_init_52 : decode cX1_init 52 = .ok (.putfield 32, 3) := by decide +kernel
theorem dX1_init_55 : decode cX1_init 55 = .ok (.aload_n 0, 1) := by decide +kernel
theorem dX1_init_56 : decode cX1_init 56 = .ok (.iconst 0, 1) := by decide +kernel
theorem dX1_init_57 : decode cX1_init 57 = .ok (.putfield 35, 3) := by decide +kernel
theorem dX1_init_60 : decode cX1_init 60 = .ok (.return_, 1) := by decide +kernel
set_option maxRecDepth 20000 in
theorem ggX1_fill_X1_clear : GoodIn wsX1_fill wsX1_clear := goodIn_r _ [12, 3, 2, 13, 14, 15, 16, 17, 1, 18, 19, 20, 21, 22, 23, 24, 77, 78, 79, 80, 81, 82, 83, 84] (by decide +kernel) (by decide +kernel)
set_option maxRecDepth 20000 in
theorem gX1_fill_X1_clear : GoodIn wsX1_fill (wsV RX1 38 RX1 yX1_clear wsX1_clear) := goodIn_app (goodIn_of _ (by decide +kernel)) ggX1_fill_X1_clear
set_option maxRecDepth 20000 in
theorem ggX1_fill_X1_giveAtFirst : GoodIn wsX1_fill wsX1_giveAtFirst := goodIn_r _ [28, 15, 29, 30, 31, 11, 32, 2, 1, 13, 17, 33, 34, 35, 36, 37, 38, 39, 40, 41, 42, 43, 77, 78, 79, 80, 81, 82, 83, 84, 85, 86, 87, 88, 89] (by decide +kernel) (by decide +kernel)
set_option maxRecDepth 20000 in
theorem gX1_fill_X1_giveAtFirst : GoodIn wsX1_fill (wsV RX1 42 RX1 yX1_giveAtFirst wsX1_giveAtFirst) := goodIn_app (goodIn_of _ (by decide +kernel)) ggX1_fill_X1_giveAtFirst
set_option maxRecDepth 20000 in
theorem ggX1_fill_X1_endRound : GoodIn wsX1_fill wsX1_endRound := goodIn_r _ [47, 1, 17, 48, 49, 50, 11, 51, 15, 33, 34, 35, 52, 53, 54, 55, 2, 3, 16, 56, 36, 37, 77, 78, 79, 80, 81, 82, 83, 84] (by decide +kernel) (by decide +kernel)
set_option maxRecDepth 20000 in
theorem gX1_fill_X1_endRound : GoodIn wsX1_fill (wsV RX1 46 RX1 yX1_endRound wsX1_endRound) := goodIn_app (goodIn_of _ (by decide +kernel)) ggX1_fill_X1_endRound
set_option maxRecDepth 20000 in
theorem ggX1_fill_X1_giveByAxiom : GoodIn wsX1_fill wsX1_giveByAxiom := goodIn_r _ [60, 3, 29, 30, 31, 11, 32, 2, 1, 15, 13, 17, 33, 34, 35, 36, 37, 61, 62, 63, 64, 42, 43, 65, 66, 67, 68, 69, 70, 71, 72, 73, 74, 75, 76, 85, 86, 87, 88, 89, 77, 78, 79, 80, 81, 82, 83, 84] (by decide +kernel) (by decide +kernel)
set_option maxRecDepth 20000 in
theorem gX1_fill_X1_giveByAxiom : GoodIn wsX1_fill (wsV RX1 60 RX1 yX1_giveByAxiom wsX1_giveByAxiom) := goodIn_app (goodIn_of _ (by decide +kernel)) ggX1_fill_X1_giveByAxiom
set_option maxRecDepth 20000 in
theorem ggX1_fill_X1_giveToWhatHas : GoodIn wsX1_fill wsX1_giveToWhatHas := goodIn_r _ [68, 3, 15, 33, 34, 35, 42, 43, 36, 37, 29, 30, 31, 11, 32, 2, 1, 13, 17, 77, 78, 79, 80, 81, 82, 83, 84] (by decide +kernel) (by decide +kernel)
set_option maxRecDepth 20000 in
theorem gX1_fill_X1_giveToWhatHas : GoodIn wsX1_fill (wsV RX1 64 RX1 yX1_giveToWhatHas wsX1_giveToWhatHas) := goodIn_app (goodIn_of _ (by decide +kernel)) ggX1_fill_X1_giveToWhatHas
theorem dX1_fill_0 : decode cX1_fill 0 = .ok (.aload_n 0, 1) := by decide +kernel
theorem dX1_fill_1 : decode cX1_fill 1 = .ok (.iload_n 2, 1) := by decide +kernel
theorem dX1_fill_2 : decode cX1_fill 2 = .ok (.invokevirtual 38, 3) := by decide +kernel
theorem dX1_fill_5 : decode cX1_fill 5 = .ok (.aload_n 0, 1) := by decide +kernel
theorem dX1_fill_6 : decode cX1_fill 6 = .ok (.aload_n 1, 1) := by decide +kernel
theorem dX1_fill_7 : decode cX1_fill 7 = .ok (.invokevirtual 42, 3) := by decide +kernel
theorem dX1_fill_10 : decode cX1_fill 10 = .ok (.aload_n 0, 1) := by decide +kernel
theorem dX1_fill_11 : decode cX1_fill 11 = .ok (.invokevirtual 46, 3) := by decide +kernel
theorem dX1_fill_14 : decode cX1_fill 14 = .ok (.iconst 1, 1) := by decide +kernel
theorem dX1_fill_15 : decode cX1_fill 15 = .ok (.istore_n 3, 1) := by decide +kernel
theorem dX1_fill_16 : decode cX1_fill 16 = .ok (.iload_n 3, 1) := by decide +kernel
theorem dX1_fill_17 : decode cX1_fill 17 = .ok (.sipush 4032, 3) := by decide +kernel
theorem dX1_fill_20 : decode cX1_fill 20 = .ok (.if_icmp .ge 92, 3) := by decide +kernel
theorem dX1_fill_23 : decode cX1_fill 23 = .ok (.aload_n 0, 1) := by decide +kernel
theorem dX1_fill_24 : decode cX1_fill 24 = .ok (.getfield 35, 3) := by decide +kernel
theorem dX1_fill_27 : decode cX1_fill 27 = .ok (.ifCond .eq 85, 3) := by decide +kernel
theorem dX1_fill_30 : decode cX1_fill 30 = .ok (.aload_n 0, 1) := by decide +kernel
theorem dX1_fill_31 : decode cX1_fill 31 = .ok (.getfield 15, 3) := by decide +kernel
theorem dX1_fill_34 : decode cX1_fill 34 = .ok (.iconst 0, 1) := by decide +kernel
theorem dX1_fill_35 : decode cX1_fill 35 = .ok (.aload_n 0, 1) := by decide +kernel
theorem dX1_fill_36 : decode cX1_fill 36 = .ok (.getfield 9, 3) := by decide +kernel
theorem dX1_fill_39 : decode cX1_fill 39 = .ok (.iconst 0, 1) := by decide +kernel
theorem dX1_fill_40 : decode cX1_fill 40 = .ok (.sipush 168, 3) := by decide +kernel
theorem dX1_fill_43 : decode cX1_fill 43 = .ok (.invokestatic 49, 3) := by decide +kernel
theorem dX1_fill_46 : decode cX1_fill 46 = .ok (.aload_n 0, 1) := by decide +kernel
theorem dX1_fill_47 : decode cX1_fill 47 = .ok (.iconst 0, 1) := by decide +kernel
theorem dX1_fill_48 : decode cX1_fill 48 = .ok (.putfield 35, 3) := by decide +kernel
theorem dX1_fill_51 : decode cX1_fill 51 = .ok (.iconst 0, 1) := by decide +kernel
theorem dX1_fill_52 : decode cX1_fill 52 = .ok (.istore 4, 2) := by decide +kernel
theorem dX1_fill_54 : decode cX1_fill 54 = .ok (.iload 4, 2) := by decide +kernel
theorem dX1_fill_56 : decode cX1_fill 56 = .ok (.aload_n 1, 1) := by decide +kernel
theorem dX1_fill_57 : decode cX1_fill 57 = .ok (.getfield 55, 3) := by decide +kernel
theorem dX1_fill_60 : decode cX1_fill 60 = .ok (.if_icmp .ge 16, 3) := by decide +kernel
theorem dX1_fill_63 : decode cX1_fill 63 = .ok (.aload_n 0, 1) := by decide +kernel
theorem dX1_fill_64 : decode cX1_fill 64 = .ok (.aload_n 1, 1) := by decide +kernel
theorem dX1_fill_65 : decode cX1_fill 65 = .ok (.iload 4, 2) := by decide +kernel
theorem dX1_fill_67 : decode cX1_fill 67 = .ok (.invokevirtual 60, 3) := by decide +kernel
theorem dX1_fill_70 : decode cX1_fill 70 = .ok (.iinc 4 1, 3) := by decide +kernel
theorem dX1_fill_73 : decode cX1_fill 73 = .ok (.goto (-19), 3) := by decide +kernel
theorem dX1_fill_76 : decode cX1_fill 76 = .ok (.iconst 0, 1) := by decide +kernel
theorem dX1_fill_77 : decode cX1_fill 77 = .ok (.istore 4, 2) := by decide +kernel
theorem dX1_fill_79 : decode cX1_fill 79 = .ok (.iload 4, 2) := by decide +kernel
theorem dX1_fill_81 : decode cX1_fill 81 = .ok (.bipush 6, 2) := by decide +kernel
theorem dX1_fill_83 : decode cX1_fill 83 = .ok (.if_icmp .ge 19, 3) := by decide +kernel
theorem dX1_fill_86 : decode cX1_fill 86 = .ok (.aload_n 0, 1) := by decide +kernel
theorem dX1_fill_87 : decode cX1_fill 87 = .ok (.bipush 100, 2) := by decide +kernel
theorem dX1_fill_89 : decode cX1_fill 89 = .ok (.iload 4, 2) := by decide +kernel
theorem dX1_fill_91 : decode cX1_fill 91 = .ok (.iconst 1, 1) := by decide +kernel
theorem dX1_fill_92 : decode cX1_fill 92 = .ok (.iconst 1, 1) := by decide +kernel
theorem dX1_fill_93 : decode cX1_fill 93 = .ok (.invokevirtual 64, 3) := by decide +kernel
theorem dX1_fill_96 : decode cX1_fill 96 = .ok (.iinc 4 1, 3) := by decide +kernel
theorem dX1_fill_99 : decode cX1_fill 99 = .ok (.goto (-20), 3) := by decide +kernel
theorem dX1_fill_102 : decode cX1_fill 102 = .ok (.aload_n 0, 1) := by decide +kernel
theorem dX1_fill_103 : decode cX1_fill 103 = .ok (.invokevirtual 46, 3) := by decide +kernel
theorem dX1_fill_106 : decode cX1_fill 106 = .ok (.iinc 3 1, 3) := by decide +kernel
theorem dX1_fill_109 : decode cX1_fill 109 = .ok (.goto (-93), 3) := by decide +kernel
theorem dX1_fill_112 : decode cX1_fill 112 = .ok (.return_, 1) := by decide +kernel
set_option maxRecDepth 20000 in
theorem ggX1_clear_J7_fill_53178 : GoodIn wsX1_clear wsJ7_fill_53178 := goodIn_r _ [12] (by decide +kernel) (by decide +kernel)
set_option maxRecDepth 20000 in
theorem gX1_clear_J7_fill_53178 : GoodIn wsX1_clear (va_wsS RX1 68 yJ7_fill_53178 wsJ7_fill_53178) := goodIn_app (goodIn_of _ (by decide +kernel)) ggX1_clear_J7_fill_53178
set_option maxRecDepth 20000 in
theorem ggX1_clear_J7_fill_d0a16 : GoodIn wsX1_clear wsJ7_fill_d0a16 := goodIn_r _ [15] (by decide +kernel) (by decide +kernel)
set_option maxRecDepth 20000 in
theorem gX1_clear_J7_fill_d0a16 : GoodIn wsX1_clear (va_wsS RX1 76 yJ7_fill_d0a16 wsJ7_fill_d0a16) := goodIn_app (goodIn_of _ (by decide +kernel)) ggX1_clear_J7_fill_d0a16
theorem dX1_clear_0 : decode cX1_clear 0 = .ok (.aload_n 0, 1) := by decide +kernel
theorem dX1_clear_1 : decode cX1_clear 1 = .ok (.getfield 9, 3) := by decide +kernel
theorem dX1_clear_4 : decode cX1_clear 4 = .ok (.iconst 0, 1) := by decide +kernel
theorem dX1_clear_5 : decode cX1_clear 5 = .ok (.invokestatic 68, 3) := by decide +kernel
theorem dX1_clear_8 : decode cX1_clear 8 = .ok (.aload_n 0, 1) := by decide +kernel
theorem dX1_clear_9 : decode cX1_clear 9 = .ok (.getfield 15, 3) := by decide +kernel
theorem dX1_clear_12 : decode cX1_clear 12 = .ok (.iconst 0, 1) := by decide +kernel
theorem dX1_clear_13 : decode cX1_clear 13 = .ok (.invokestatic 68, 3) := by decide +kernel
theorem dX1_clear_16 : decode cX1_clear 16 = .ok (.aload_n 0, 1) := by decide +kernel
theorem dX1_clear_17 : decode cX1_clear 17 = .ok (.getfield 18, 3) := by decide +kernel
theorem dX1_clear_20 : decode cX1_clear 20 = .ok (.ldc2_w 74, 3) := by decide +kernel
theorem dX1_clear_23 : decode cX1_clear 23 = .ok (.invokestatic 76, 3) := by decide +kernel
theorem dX1_clear_26 : decode cX1_clear 26 = .ok (.aload_n 0, 1) := by decide +kernel
theorem dX1_clear_27 : decode cX1_clear 27 = .ok (.iload_n 1, 1) := by decide +kernel
theorem dX1_clear_28 : decode cX1_clear 28 = .ok (.putfield 25, 3) := by decide +kernel
theorem dX1_clear_31 : decode cX1_clear 31 = .ok (.aload_n 0, 1) := by decide +kernel
theorem dX1_clear_32 : decode cX1_clear 32 = .ok (.iconst 0, 1) := by decide +kernel
theorem dX1_clear_33 : decode cX1_clear 33 = .ok (.putfield 29, 3) := by decide +kernel
theorem dX1_clear_36 : decode cX1_clear 36 = .ok (.aload_n 0, 1) := by decide +kernel
theorem dX1_clear_37 : decode cX1_clear 37 = .ok (.iconst 0, 1) := by decide +kernel
theorem dX1_clear_38 : decode cX1_clear 38 = .ok (.putfield 32, 3) := by decide +kernel
theorem dX1_clear_41 : decode cX1_clear 41 = .ok (.aload_n 0, 1) := by decide +kernel
theorem dX1_clear_42 : decode cX1_clear 42 = .ok (.iconst 0, 1) := by decide +kernel
theorem dX1_clear_43 : decode cX1_clear 43 = .ok (.putfield 35, 3) := by decide +kernel
theorem dX1_clear_46 : decode cX1_clear 46 = .ok (.return_, 1) := by decide +kernel
set_option maxRecDepth 20000 in
theorem ggX1_giveAtFirst_X1_give : GoodIn wsX1_giveAtFirst wsX1_give := goodIn_r _ [6, 7, 8, 1, 9, 10, 11, 12, 13, 14, 15, 22, 23, 24, 25, 26, 27, 28, 29] (by decide +kernel) (by decide +kernel)
set_option maxRecDepth 20000 in
theorem gX1_giveAtFirst_X1_give : GoodIn wsX1_giveAtFirst (wsV RX1 79 RX1 yX1_give wsX1_give) := goodIn_app (goodIn_of _ (by decide +kernel)) ggX1_giveAtFirst_X1_give
set_option maxRecDepth 20000 in
theorem ggX1_giveAtFirst_X1_giveOfItself : GoodIn wsX1_giveAtFirst wsX1_giveOfItself := goodIn_r _ [19, 1, 20, 12, 21, 2, 3, 4, 5, 6, 7, 8, 9, 10, 11, 13, 14, 15, 22, 23, 24, 25, 26, 27, 28, 29] (by decide +kernel) (by decide +kernel)
set_option maxRecDepth 20000 in
theorem gX1_giveAtFirst_X1_giveOfItself : GoodIn wsX1_giveAtFirst (wsV RX1 89 RX1 yX1_giveOfItself wsX1_giveOfItself) := goodIn_app (goodIn_of _ (by decide +kernel)) ggX1_giveAtFirst_X1_giveOfItself
theorem dX1_giveAtFirst_0 : decode cX1_giveAtFirst 0 = .ok (.iconst 0, 1) := by decide +kernel
theorem dX1_giveAtFirst_1 : decode cX1_giveAtFirst 1 = .ok (.istore_n 2, 1) := by decide +kernel
theorem dX1_giveAtFirst_2 : decode cX1_giveAtFirst 2 = .ok (.iload_n 2, 1) := by decide +kernel
theorem dX1_giveAtFirst_3 : decode cX1_giveAtFirst 3 = .ok (.aload_n 0, 1) := by decide +kernel
theorem dX1_giveAtFirst_4 : decode cX1_giveAtFirst 4 = .ok (.getfield 25, 3) := by decide +kernel
theorem dX1_giveAtFirst_7 : decode cX1_giveAtFirst 7 = .ok (.if_icmp .ge 43, 3) := by decide +kernel
theorem dX1_giveAtFirst_10 : decode cX1_giveAtFirst 10 = .ok (.aload_n 0, 1) := by decide +kernel
theorem dX1_giveAtFirst_11 : decode cX1_giveAtFirst 11 = .ok (.iconst 1, 1) := by decide +kernel
theorem dX1_giveAtFirst_12 : decode cX1_giveAtFirst 12 = .ok (.iload_n 2, 1) := by decide +kernel
theorem dX1_giveAtFirst_13 : decode cX1_giveAtFirst 13 = .ok (.ishl, 1) := by decide +kernel
theorem dX1_giveAtFirst_14 : decode cX1_giveAtFirst 14 = .ok (.iload_n 2, 1) := by decide +kernel
theorem dX1_giveAtFirst_15 : decode cX1_giveAtFirst 15 = .ok (.sipush 255, 3) := by decide +kernel
theorem dX1_giveAtFirst_18 : decode cX1_giveAtFirst 18 = .ok (.sipush 4095, 3) := by decide +kernel
theorem dX1_giveAtFirst_21 : decode cX1_giveAtFirst 21 = .ok (.sipush 4095, 3) := by decide +kernel
theorem dX1_giveAtFirst_24 : decode cX1_giveAtFirst 24 = .ok (.invokevirtual 79, 3) := by decide +kernel
theorem dX1_giveAtFirst_27 : decode cX1_giveAtFirst 27 = .ok (.aload_n 0, 1) := by decide +kernel
theorem dX1_giveAtFirst_28 : decode cX1_giveAtFirst 28 = .ok (.iconst 1, 1) := by decide +kernel
theorem dX1_giveAtFirst_29 : decode cX1_giveAtFirst 29 = .ok (.iload_n 2, 1) := by decide +kernel
theorem dX1_giveAtFirst_30 : decode cX1_giveAtFirst 30 = .ok (.ishl, 1) := by decide +kernel
theorem dX1_giveAtFirst_31 : decode cX1_giveAtFirst 31 = .ok (.iconst 0, 1) := by decide +kernel
theorem dX1_giveAtFirst_32 : decode cX1_giveAtFirst 32 = .ok (.sipush 255, 3) := by decide +kernel
theorem dX1_giveAtFirst_35 : decode cX1_giveAtFirst 35 = .ok (.sipush 4095, 3) := by decide +kernel
theorem dX1_giveAtFirst_38 : decode cX1_giveAtFirst 38 = .ok (.sipush 4095, 3) := by decide +kernel
theorem dX1_giveAtFirst_41 : decode cX1_giveAtFirst 41 = .ok (.invokevirtual 79, 3) := by decide +kernel
theorem dX1_giveAtFirst_44 : decode cX1_giveAtFirst 44 = .ok (.iinc 2 1, 3) := by decide +kernel
theorem dX1_giveAtFirst_47 : decode cX1_giveAtFirst 47 = .ok (.goto (-45), 3) := by decide +kernel
theorem dX1_giveAtFirst_50 : decode cX1_giveAtFirst 50 = .ok (.iconst 0, 1) := by decide +kernel
theorem dX1_giveAtFirst_51 : decode cX1_giveAtFirst 51 = .ok (.istore_n 2, 1) := by decide +kernel
theorem dX1_giveAtFirst_52 : decode cX1_giveAtFirst 52 = .ok (.iload_n 2, 1) := by decide +kernel
theorem dX1_giveAtFirst_53 : decode cX1_giveAtFirst 53 = .ok (.aload_n 1, 1) := by decide +kernel
theorem dX1_giveAtFirst_54 : decode cX1_giveAtFirst 54 = .ok (.getfield 55, 3) := by decide +kernel
theorem dX1_giveAtFirst_57 : decode cX1_giveAtFirst 57 = .ok (.if_icmp .ge 30, 3) := by decide +kernel
theorem dX1_giveAtFirst_60 : decode cX1_giveAtFirst 60 = .ok (.aload_n 1, 1) := by decide +kernel
theorem dX1_giveAtFirst_61 : decode cX1_giveAtFirst 61 = .ok (.getfield 83, 3) := by decide +kernel
theorem dX1_giveAtFirst_64 : decode cX1_giveAtFirst 64 = .ok (.iload_n 2, 1) := by decide +kernel
theorem dX1_giveAtFirst_65 : decode cX1_giveAtFirst 65 = .ok (.iaload, 1) := by decide +kernel
theorem dX1_giveAtFirst_66 : decode cX1_giveAtFirst 66 = .ok (.bipush 7, 2) := by decide +kernel
theorem dX1_giveAtFirst_68 : decode cX1_giveAtFirst 68 = .ok (.if_icmp .ne 13, 3) := by decide +kernel
theorem dX1_giveAtFirst_71 : decode cX1_giveAtFirst 71 = .ok (.aload_n 0, 1) := by decide +kernel
theorem dX1_giveAtFirst_72 : decode cX1_giveAtFirst 72 = .ok (.aload_n 1, 1) := by decide +kernel
theorem dX1_giveAtFirst_73 : decode cX1_giveAtFirst 73 = .ok (.getfield 86, 3) := by decide +kernel
theorem dX1_giveAtFirst_76 : decode cX1_giveAtFirst 76 = .ok (.iload_n 2, 1) := by decide +kernel
theorem dX1_giveAtFirst_77 : decode cX1_giveAtFirst 77 = .ok (.iaload, 1) := by decide +kernel
theorem dX1_giveAtFirst_78 : decode cX1_giveAtFirst 78 = .ok (.invokevirtual 89, 3) := by decide +kernel
theorem dX1_giveAtFirst_81 : decode cX1_giveAtFirst 81 = .ok (.iinc 2 1, 3) := by decide +kernel
theorem dX1_giveAtFirst_84 : decode cX1_giveAtFirst 84 = .ok (.goto (-32), 3) := by decide +kernel
theorem dX1_giveAtFirst_87 : decode cX1_giveAtFirst 87 = .ok (.return_, 1) := by decide +kernel
set_option maxRecDepth 20000 in
theorem ggX1_giveOfItself_X3_linkColumn : GoodIn wsX1_giveOfItself wsX3_linkColumn := goodIn_r _ [4] (by decide +kernel) (by decide +kernel)
set_option maxRecDepth 20000 in
theorem gX1_giveOfItself_X3_linkColumn_n92 : GoodIn wsX1_giveOfItself (wsX3_linkColumn) := ggX1_giveOfItself_X3_linkColumn
set_option maxRecDepth 20000 in
theorem ggX1_giveOfItself_X1_give : GoodIn wsX1_giveOfItself wsX1_give := goodIn_r _ [9, 10, 11, 1, 12, 13, 14, 3, 15, 16, 17, 18, 19, 20, 21, 22, 23, 24, 25] (by decide +kernel) (by decide +kernel)
set_option maxRecDepth 20000 in
theorem gX1_giveOfItself_X1_give : GoodIn wsX1_giveOfItself (wsV RX1 79 RX1 yX1_give wsX1_give) := goodIn_app (goodIn_of _ (by decide +kernel)) ggX1_giveOfItself_X1_give
theorem dX1_giveOfItself_0 : decode cX1_giveOfItself 0 = .ok (.iconst 0, 1) := by decide +kernel
theorem dX1_giveOfItself_1 : decode cX1_giveOfItself 1 = .ok (.istore_n 2, 1) := by decide +kernel
theorem dX1_giveOfItself_2 : decode cX1_giveOfItself 2 = .ok (.iload_n 2, 1) := by decide +kernel
theorem dX1_giveOfItself_3 : decode cX1_giveOfItself 3 = .ok (.aload_n 0, 1) := by decide +kernel
theorem dX1_giveOfItself_4 : decode cX1_giveOfItself 4 = .ok (.getfield 25, 3) := by decide +kernel
theorem dX1_giveOfItself_7 : decode cX1_giveOfItself 7 = .ok (.if_icmp .ge 30, 3) := by decide +kernel
theorem dX1_giveOfItself_10 : decode cX1_giveOfItself 10 = .ok (.aload_n 0, 1) := by decide +kernel
theorem dX1_giveOfItself_11 : decode cX1_giveOfItself 11 = .ok (.iconst 1, 1) := by decide +kernel
theorem dX1_giveOfItself_12 : decode cX1_giveOfItself 12 = .ok (.iload_n 2, 1) := by decide +kernel
theorem dX1_giveOfItself_13 : decode cX1_giveOfItself 13 = .ok (.ishl, 1) := by decide +kernel
theorem dX1_giveOfItself_14 : decode cX1_giveOfItself 14 = .ok (.iload_n 1, 1) := by decide +kernel
theorem dX1_giveOfItself_15 : decode cX1_giveOfItself 15 = .ok (.iload_n 2, 1) := by decide +kernel
theorem dX1_giveOfItself_16 : decode cX1_giveOfItself 16 = .ok (.invokestatic 92, 3) := by decide +kernel
theorem dX1_giveOfItself_19 : decode cX1_giveOfItself 19 = .ok (.sipush 255, 3) := by decide +kernel
theorem dX1_giveOfItself_22 : decode cX1_giveOfItself 22 = .ok (.sipush 4095, 3) := by decide +kernel
theorem dX1_giveOfItself_25 : decode cX1_giveOfItself 25 = .ok (.sipush 4095, 3) := by decide +kernel
theorem dX1_giveOfItself_28 : decode cX1_giveOfItself 28 = .ok (.invokevirtual 79, 3) := by decide +kernel
theorem dX1_giveOfItself_31 : decode cX1_giveOfItself 31 = .ok (.iinc 2 1, 3) := by decide +kernel
theorem dX1_giveOfItself_34 : decode cX1_giveOfItself 34 = .ok (.goto (-32), 3) := by decide +kernel
theorem dX1_giveOfItself_37 : decode cX1_giveOfItself 37 = .ok (.return_, 1) := by decide +kernel
set_option maxRecDepth 20000 in
theorem ggX1_giveByAxiom_X1_give : GoodIn wsX1_giveByAxiom wsX1_give := goodIn_r _ [6, 7, 8, 9, 10, 11, 12, 13, 14, 15, 16, 40, 41, 42, 43, 44, 45, 46, 47] (by decide +kernel) (by decide +kernel)
set_option maxRecDepth 20000 in
theorem gX1_giveByAxiom_X1_give : GoodIn wsX1_giveByAxiom (wsV RX1 79 RX1 yX1_give wsX1_give) := goodIn_app (goodIn_of _ (by decide +kernel)) ggX1_giveByAxiom_X1_give
set_option maxRecDepth 20000 in
theorem ggX1_giveByAxiom_X1_giveToBoth : GoodIn wsX1_giveByAxiom wsX1_giveToBoth := goodIn_r _ [20, 1, 7, 9, 12, 13, 14, 15, 16, 2, 3, 4, 5, 6, 8, 10, 11, 40, 41, 42, 43, 44, 45, 46, 47] (by decide +kernel) (by decide +kernel)
set_option maxRecDepth 20000 in
theorem gX1_giveByAxiom_X1_giveToBoth : GoodIn wsX1_giveByAxiom (wsV RX1 102 RX1 yX1_giveToBoth wsX1_giveToBoth) := goodIn_app (goodIn_of _ (by decide +kernel)) ggX1_giveByAxiom_X1_giveToBoth
set_option maxRecDepth 20000 in
theorem ggX1_giveByAxiom_X3_linkColumn : GoodIn wsX1_giveByAxiom wsX3_linkColumn := goodIn_r _ [22] (by decide +kernel) (by decide +kernel)
set_option maxRecDepth 20000 in
theorem gX1_giveByAxiom_X3_linkColumn_n92 : GoodIn wsX1_giveByAxiom (wsX3_linkColumn) := ggX1_giveByAxiom_X3_linkColumn
set_option maxRecDepth 20000 in
theorem ggX1_giveByAxiom_X1_giveToWhatHas : GoodIn wsX1_giveByAxiom wsX1_giveToWhatHas := goodIn_r _ [26, 1, 9, 12, 13, 14, 21, 22, 15, 16, 2, 3, 4, 5, 6, 7, 8, 10, 11, 40, 41, 42, 43, 44, 45, 46, 47] (by decide +kernel) (by decide +kernel)
set_option maxRecDepth 20000 in
theorem gX1_giveByAxiom_X1_giveToWhatHas : GoodIn wsX1_giveByAxiom (wsV RX1 64 RX1 yX1_giveToWhatHas wsX1_giveToWhatHas) := goodIn_app (goodIn_of _ (by decide +kernel)) ggX1_giveByAxiom_X1_giveToWhatHas
set_option maxRecDepth 20000 in
theorem ggX1_giveByAxiom_X1_giveRole : GoodIn wsX1_giveByAxiom wsX1_giveRole := goodIn_r _ [30, 9, 1, 21, 13, 22, 2, 3, 4, 5, 6, 7, 8, 10, 11, 12, 14, 15, 16, 40, 41, 42, 43, 44, 45, 46, 47] (by decide +kernel) (by decide +kernel)
set_option maxRecDepth 20000 in
theorem gX1_giveByAxiom_X1_giveRole : GoodIn wsX1_giveByAxiom (wsV RX1 105 RX1 yX1_giveRole wsX1_giveRole) := goodIn_app (goodIn_of _ (by decide +kernel)) ggX1_giveByAxiom_X1_giveRole
set_option maxRecDepth 20000 in
theorem ggX1_giveByAxiom_X1_giveChain : GoodIn wsX1_giveByAxiom wsX1_giveChain := goodIn_r _ [34, 9, 1, 21, 13, 22, 12, 14, 15, 16, 2, 3, 4, 5, 6, 7, 8, 10, 11, 40, 41, 42, 43, 44, 45, 46, 47] (by decide +kernel) (by decide +kernel)
set_option maxRecDepth 20000 in
theorem gX1_giveByAxiom_X1_giveChain : GoodIn wsX1_giveByAxiom (wsV RX1 109 RX1 yX1_giveChain wsX1_giveChain) := goodIn_app (goodIn_of _ (by decide +kernel)) ggX1_giveByAxiom_X1_giveChain
theorem dX1_giveByAxiom_0 : decode cX1_giveByAxiom 0 = .ok (.aload_n 1, 1) := by decide +kernel
theorem dX1_giveByAxiom_1 : decode cX1_giveByAxiom 1 = .ok (.getfield 86, 3) := by decide +kernel
theorem dX1_giveByAxiom_4 : decode cX1_giveByAxiom 4 = .ok (.iload_n 2, 1) := by decide +kernel
theorem dX1_giveByAxiom_5 : decode cX1_giveByAxiom 5 = .ok (.iaload, 1) := by decide +kernel
theorem dX1_giveByAxiom_6 : decode cX1_giveByAxiom 6 = .ok (.istore_n 3, 1) := by decide +kernel
theorem dX1_giveByAxiom_7 : decode cX1_giveByAxiom 7 = .ok (.aload_n 1, 1) := by decide +kernel
theorem dX1_giveByAxiom_8 : decode cX1_giveByAxiom 8 = .ok (.getfield 96, 3) := by decide +kernel
theorem dX1_giveByAxiom_11 : decode cX1_giveByAxiom 11 = .ok (.iload_n 2, 1) := by decide +kernel
theorem dX1_giveByAxiom_12 : decode cX1_giveByAxiom 12 = .ok (.iaload, 1) := by decide +kernel
theorem dX1_giveByAxiom_13 : decode cX1_giveByAxiom 13 = .ok (.istore 4, 2) := by decide +kernel
theorem dX1_giveByAxiom_15 : decode cX1_giveByAxiom 15 = .ok (.aload_n 1, 1) := by decide +kernel
theorem dX1_giveByAxiom_16 : decode cX1_giveByAxiom 16 = .ok (.getfield 99, 3) := by decide +kernel
theorem dX1_giveByAxiom_19 : decode cX1_giveByAxiom 19 = .ok (.iload_n 2, 1) := by decide +kernel
theorem dX1_giveByAxiom_20 : decode cX1_giveByAxiom 20 = .ok (.iaload, 1) := by decide +kernel
theorem dX1_giveByAxiom_21 : decode cX1_giveByAxiom 21 = .ok (.istore 5, 2) := by decide +kernel
theorem dX1_giveByAxiom_23 : decode cX1_giveByAxiom 23 = .ok (.aload_n 1, 1) := by decide +kernel
theorem dX1_giveByAxiom_24 : decode cX1_giveByAxiom 24 = .ok (.getfield 83, 3) := by decide +kernel
theorem dX1_giveByAxiom_27 : decode cX1_giveByAxiom 27 = .ok (.iload_n 2, 1) := by decide +kernel
theorem dX1_giveByAxiom_28 : decode cX1_giveByAxiom 28 = .ok (.iaload, 1) := by decide +kernel
theorem dX1_giveByAxiom_29 : decode cX1_giveByAxiom 29 = .ok (.tableswitch 134 1 6 #[39, 59, 72, 97, 110, 121], 39) := by decide +kernel
theorem dX1_giveByAxiom_68 : decode cX1_giveByAxiom 68 = .ok (.aload_n 0, 1) := by decide +kernel
theorem dX1_giveByAxiom_69 : decode cX1_giveByAxiom 69 = .ok (.aload_n 0, 1) := by decide +kernel
theorem dX1_giveByAxiom_70 : decode cX1_giveByAxiom 70 = .ok (.getfield 9, 3) := by decide +kernel
theorem dX1_giveByAxiom_73 : decode cX1_giveByAxiom 73 = .ok (.iload_n 3, 1) := by decide +kernel
theorem dX1_giveByAxiom_74 : decode cX1_giveByAxiom 74 = .ok (.iaload, 1) := by decide +kernel
theorem dX1_giveByAxiom_75 : decode cX1_giveByAxiom 75 = .ok (.iload 4, 2) := by decide +kernel
theorem dX1_giveByAxiom_77 : decode cX1_giveByAxiom 77 = .ok (.iload_n 2, 1) := by decide +kernel
theorem dX1_giveByAxiom_78 : decode cX1_giveByAxiom 78 = .ok (.iload_n 3, 1) := by decide +kernel
theorem dX1_giveByAxiom_79 : decode cX1_giveByAxiom 79 = .ok (.sipush 4095, 3) := by decide +kernel
theorem dX1_giveByAxiom_82 : decode cX1_giveByAxiom 82 = .ok (.invokevirtual 79, 3) := by decide +kernel
theorem dX1_giveByAxiom_85 : decode cX1_giveByAxiom 85 = .ok (.goto 78, 3) := by decide +kernel
theorem dX1_giveByAxiom_88 : decode cX1_giveByAxiom 88 = .ok (.aload_n 0, 1) := by decide +kernel
theorem dX1_giveByAxiom_89 : decode cX1_giveByAxiom 89 = .ok (.iload_n 2, 1) := by decide +kernel
theorem dX1_giveByAxiom_90 : decode cX1_giveByAxiom 90 = .ok (.iload_n 3, 1) := by decide +kernel
theorem dX1_giveByAxiom_91 : decode cX1_giveByAxiom 91 = .ok (.iload 4, 2) := by decide +kernel
theorem dX1_giveByAxiom_93 : decode cX1_giveByAxiom 93 = .ok (.iload 5, 2) := by decide +kernel
theorem dX1_giveByAxiom_95 : decode cX1_giveByAxiom 95 = .ok (.invokevirtual 102, 3) := by decide +kernel
theorem dX1_giveByAxiom_98 : decode cX1_giveByAxiom 98 = .ok (.goto 65, 3) := by decide +kernel
theorem dX1_giveByAxiom_101 : decode cX1_giveByAxiom 101 = .ok (.aload_n 0, 1) := by decide +kernel
theorem dX1_giveByAxiom_102 : decode cX1_giveByAxiom 102 = .ok (.aload_n 0, 1) := by decide +kernel
theorem dX1_giveByAxiom_103 : decode cX1_giveByAxiom 103 = .ok (.getfield 9, 3) := by decide +kernel
theorem dX1_giveByAxiom_106 : decode cX1_giveByAxiom 106 = .ok (.iload_n 3, 1) := by decide +kernel
theorem dX1_giveByAxiom_107 : decode cX1_giveByAxiom 107 = .ok (.iaload, 1) := by decide +kernel
theorem dX1_giveByAxiom_108 : decode cX1_giveByAxiom 108 = .ok (.iload 4, 2) := by decide +kernel
theorem dX1_giveByAxiom_110 : decode cX1_giveByAxiom 110 = .ok (.iload 5, 2) := by decide +kernel
theorem dX1_giveByAxiom_112 : decode cX1_giveByAxiom 112 = .ok (.invokestatic 92, 3) := by decide +kernel
theorem dX1_giveByAxiom_115 : decode cX1_giveByAxiom 115 = .ok (.iload_n 2, 1) := by decide +kernel
theorem dX1_giveByAxiom_116 : decode cX1_giveByAxiom 116 = .ok (.iload_n 3, 1) := by decide +kernel
theorem dX1_giveByAxiom_117 : decode cX1_giveByAxiom 117 = .ok (.sipush 4095, 3) := by decide +kernel
theorem dX1_giveByAxiom_120 : decode cX1_giveByAxiom 120 = .ok (.invokevirtual 79, 3) := by decide +kernel
theorem dX1_giveByAxiom_123 : decode cX1_giveByAxiom 123 = .ok (.goto 40, 3) := by decide +kernel
theorem dX1_giveByAxiom_126 : decode cX1_giveByAxiom 126 = .ok (.aload_n 0, 1) := by decide +kernel
theorem dX1_giveByAxiom_127 : decode cX1_giveByAxiom 127 = .ok (.iload_n 2, 1) := by decide +kernel
theorem dX1_giveByAxiom_128 : decode cX1_giveByAxiom 128 = .ok (.iload_n 3, 1) := by decide +kernel
theorem dX1_giveByAxiom_129 : decode cX1_giveByAxiom 129 = .ok (.iload 4, 2) := by decide +kernel
theorem dX1_giveByAxiom_131 : decode cX1_giveByAxiom 131 = .ok (.iload 5, 2) := by decide +kernel
theorem dX1_giveByAxiom_133 : decode cX1_giveByAxiom 133 = .ok (.invokevirtual 64, 3) := by decide +kernel
theorem dX1_giveByAxiom_136 : decode cX1_giveByAxiom 136 = .ok (.goto 27, 3) := by decide +kernel
theorem dX1_giveByAxiom_139 : decode cX1_giveByAxiom 139 = .ok (.aload_n 0, 1) := by decide +kernel
theorem dX1_giveByAxiom_140 : decode cX1_giveByAxiom 140 = .ok (.iload_n 2, 1) := by decide +kernel
theorem dX1_giveByAxiom_141 : decode cX1_giveByAxiom 141 = .ok (.iload_n 3, 1) := by decide +kernel
theorem dX1_giveByAxiom_142 : decode cX1_giveByAxiom 142 = .ok (.iload 4, 2) := by decide +kernel
theorem dX1_giveByAxiom_144 : decode cX1_giveByAxiom 144 = .ok (.invokevirtual 105, 3) := by decide +kernel
theorem dX1_giveByAxiom_147 : decode cX1_giveByAxiom 147 = .ok (.goto 16, 3) := by decide +kernel
theorem dX1_giveByAxiom_150 : decode cX1_giveByAxiom 150 = .ok (.aload_n 0, 1) := by decide +kernel
theorem dX1_giveByAxiom_151 : decode cX1_giveByAxiom 151 = .ok (.iload_n 2, 1) := by decide +kernel
theorem dX1_giveByAxiom_152 : decode cX1_giveByAxiom 152 = .ok (.iload_n 3, 1) := by decide +kernel
theorem dX1_giveByAxiom_153 : decode cX1_giveByAxiom 153 = .ok (.iload 4, 2) := by decide +kernel
theorem dX1_giveByAxiom_155 : decode cX1_giveByAxiom 155 = .ok (.iload 5, 2) := by decide +kernel
theorem dX1_giveByAxiom_157 : decode cX1_giveByAxiom 157 = .ok (.invokevirtual 109, 3) := by decide +kernel
theorem dX1_giveByAxiom_160 : decode cX1_giveByAxiom 160 = .ok (.goto 3, 3) := by decide +kernel
theorem dX1_giveByAxiom_163 : decode cX1_giveByAxiom 163 = .ok (.return_, 1) := by decide +kernel
set_option maxRecDepth 20000 in
theorem ggX1_giveToBoth_X3_isIn : GoodIn wsX1_giveToBoth wsX3_isIn := goodIn_r _ [6] (by decide +kernel) (by decide +kernel)
set_option maxRecDepth 20000 in
theorem gX1_giveToBoth_X3_isIn_n112 : GoodIn wsX1_giveToBoth (wsX3_isIn) := ggX1_giveToBoth_X3_isIn
set_option maxRecDepth 20000 in
theorem ggX1_giveToBoth_X3_codeOf : GoodIn wsX1_giveToBoth wsX3_codeOf := goodIn_r _ [8] (by decide +kernel) (by decide +kernel)
set_option maxRecDepth 20000 in
theorem gX1_giveToBoth_X3_codeOf_n116 : GoodIn wsX1_giveToBoth (wsX3_codeOf) := ggX1_giveToBoth_X3_codeOf
set_option maxRecDepth 20000 in
theorem ggX1_giveToBoth_X1_give : GoodIn wsX1_giveToBoth wsX1_give := goodIn_r _ [13, 2, 14, 3, 15, 16, 4, 5, 6, 7, 8, 17, 18, 19, 20, 21, 22, 23, 24] (by decide +kernel) (by decide +kernel)
set_option maxRecDepth 20000 in
theorem gX1_giveToBoth_X1_give : GoodIn wsX1_giveToBoth (wsV RX1 79 RX1 yX1_give wsX1_give) := goodIn_app (goodIn_of _ (by decide +kernel)) ggX1_giveToBoth_X1_give
theorem dX1_giveToBoth_0 : decode cX1_giveToBoth 0 = .ok (.aload_n 0, 1) := by decide +kernel
theorem dX1_giveToBoth_1 : decode cX1_giveToBoth 1 = .ok (.getfield 9, 3) := by decide +kernel
theorem dX1_giveToBoth_4 : decode cX1_giveToBoth 4 = .ok (.iload_n 2, 1) := by decide +kernel
theorem dX1_giveToBoth_5 : decode cX1_giveToBoth 5 = .ok (.iaload, 1) := by decide +kernel
theorem dX1_giveToBoth_6 : decode cX1_giveToBoth 6 = .ok (.aload_n 0, 1) := by decide +kernel
theorem dX1_giveToBoth_7 : decode cX1_giveToBoth 7 = .ok (.getfield 9, 3) := by decide +kernel
theorem dX1_giveToBoth_10 : decode cX1_giveToBoth 10 = .ok (.iload_n 3, 1) := by decide +kernel
theorem dX1_giveToBoth_11 : decode cX1_giveToBoth 11 = .ok (.iaload, 1) := by decide +kernel
theorem dX1_giveToBoth_12 : decode cX1_giveToBoth 12 = .ok (.iand, 1) := by decide +kernel
theorem dX1_giveToBoth_13 : decode cX1_giveToBoth 13 = .ok (.aload_n 0, 1) := by decide +kernel
theorem dX1_giveToBoth_14 : decode cX1_giveToBoth 14 = .ok (.getfield 15, 3) := by decide +kernel
theorem dX1_giveToBoth_17 : decode cX1_giveToBoth 17 = .ok (.iload 4, 2) := by decide +kernel
theorem dX1_giveToBoth_19 : decode cX1_giveToBoth 19 = .ok (.iaload, 1) := by decide +kernel
theorem dX1_giveToBoth_20 : decode cX1_giveToBoth 20 = .ok (.iconst (-1), 1) := by decide +kernel
theorem dX1_giveToBoth_21 : decode cX1_giveToBoth 21 = .ok (.ixor, 1) := by decide +kernel
theorem dX1_giveToBoth_22 : decode cX1_giveToBoth 22 = .ok (.iand, 1) := by decide +kernel
theorem dX1_giveToBoth_23 : decode cX1_giveToBoth 23 = .ok (.istore 5, 2) := by decide +kernel
theorem dX1_giveToBoth_25 : decode cX1_giveToBoth 25 = .ok (.iconst 0, 1) := by decide +kernel
theorem dX1_giveToBoth_26 : decode cX1_giveToBoth 26 = .ok (.istore 6, 2) := by decide +kernel
theorem dX1_giveToBoth_28 : decode cX1_giveToBoth 28 = .ok (.iload 6, 2) := by decide +kernel
theorem dX1_giveToBoth_30 : decode cX1_giveToBoth 30 = .ok (.aload_n 0, 1) := by decide +kernel
theorem dX1_giveToBoth_31 : decode cX1_giveToBoth 31 = .ok (.getfield 25, 3) := by decide +kernel
theorem dX1_giveToBoth_34 : decode cX1_giveToBoth 34 = .ok (.if_icmp .ge 42, 3) := by decide +kernel
theorem dX1_giveToBoth_37 : decode cX1_giveToBoth 37 = .ok (.iload 5, 2) := by decide +kernel
theorem dX1_giveToBoth_39 : decode cX1_giveToBoth 39 = .ok (.ifCond .eq 37, 3) := by decide +kernel
theorem dX1_giveToBoth_42 : decode cX1_giveToBoth 42 = .ok (.iload 6, 2) := by decide +kernel
theorem dX1_giveToBoth_44 : decode cX1_giveToBoth 44 = .ok (.iload 5, 2) := by decide +kernel
theorem dX1_giveToBoth_46 : decode cX1_giveToBoth 46 = .ok (.invokestatic 112, 3) := by decide +kernel
theorem dX1_giveToBoth_49 : decode cX1_giveToBoth 49 = .ok (.ifCond .eq 21, 3) := by decide +kernel
theorem dX1_giveToBoth_52 : decode cX1_giveToBoth 52 = .ok (.aload_n 0, 1) := by decide +kernel
theorem dX1_giveToBoth_53 : decode cX1_giveToBoth 53 = .ok (.iconst 1, 1) := by decide +kernel
theorem dX1_giveToBoth_54 : decode cX1_giveToBoth 54 = .ok (.iload 6, 2) := by decide +kernel
theorem dX1_giveToBoth_56 : decode cX1_giveToBoth 56 = .ok (.ishl, 1) := by decide +kernel
theorem dX1_giveToBoth_57 : decode cX1_giveToBoth 57 = .ok (.iload 4, 2) := by decide +kernel
theorem dX1_giveToBoth_59 : decode cX1_giveToBoth 59 = .ok (.iload_n 1, 1) := by decide +kernel
theorem dX1_giveToBoth_60 : decode cX1_giveToBoth 60 = .ok (.iload_n 2, 1) := by decide +kernel
theorem dX1_giveToBoth_61 : decode cX1_giveToBoth 61 = .ok (.iload 6, 2) := by decide +kernel
theorem dX1_giveToBoth_63 : decode cX1_giveToBoth 63 = .ok (.iload_n 3, 1) := by decide +kernel
theorem dX1_giveToBoth_64 : decode cX1_giveToBoth 64 = .ok (.invokestatic 116, 3) := by decide +kernel
theorem dX1_giveToBoth_67 : decode cX1_giveToBoth 67 = .ok (.invokevirtual 79, 3) := by decide +kernel
theorem dX1_giveToBoth_70 : decode cX1_giveToBoth 70 = .ok (.iinc 6 1, 3) := by decide +kernel
theorem dX1_giveToBoth_73 : decode cX1_giveToBoth 73 = .ok (.goto (-45), 3) := by decide +kernel
theorem dX1_giveToBoth_76 : decode cX1_giveToBoth 76 = .ok (.return_, 1) := by decide +kernel
set_option maxRecDepth 20000 in
theorem ggX1_giveToWhatHas_X3_isIn : GoodIn wsX1_giveToWhatHas wsX3_isIn := goodIn_r _ [5] (by decide +kernel) (by decide +kernel)
set_option maxRecDepth 20000 in
theorem gX1_giveToWhatHas_X3_isIn_n112 : GoodIn wsX1_giveToWhatHas (wsX3_isIn) := ggX1_giveToWhatHas_X3_isIn
set_option maxRecDepth 20000 in
theorem ggX1_giveToWhatHas_X3_linkColumn : GoodIn wsX1_giveToWhatHas wsX3_linkColumn := goodIn_r _ [7] (by decide +kernel) (by decide +kernel)
set_option maxRecDepth 20000 in
theorem gX1_giveToWhatHas_X3_linkColumn_n92 : GoodIn wsX1_giveToWhatHas (wsX3_linkColumn) := ggX1_giveToWhatHas_X3_linkColumn
set_option maxRecDepth 20000 in
theorem ggX1_giveToWhatHas_X3_codeOf : GoodIn wsX1_giveToWhatHas wsX3_codeOf := goodIn_r _ [9] (by decide +kernel) (by decide +kernel)
set_option maxRecDepth 20000 in
theorem gX1_giveToWhatHas_X3_codeOf_n116 : GoodIn wsX1_giveToWhatHas (wsX3_codeOf) := ggX1_giveToWhatHas_X3_codeOf
set_option maxRecDepth 20000 in
theorem ggX1_giveToWhatHas_X1_give : GoodIn wsX1_giveToWhatHas wsX1_give := goodIn_r _ [14, 15, 16, 2, 17, 18, 3, 4, 5, 8, 9, 19, 20, 21, 22, 23, 24, 25, 26] (by decide +kernel) (by decide +kernel)
set_option maxRecDepth 20000 in
theorem gX1_giveToWhatHas_X1_give : GoodIn wsX1_giveToWhatHas (wsV RX1 79 RX1 yX1_give wsX1_give) := goodIn_app (goodIn_of _ (by decide +kernel)) ggX1_giveToWhatHas_X1_give
theorem dX1_giveToWhatHas_0 : decode cX1_giveToWhatHas 0 = .ok (.aload_n 0, 1) := by decide +kernel
theorem dX1_giveToWhatHas_1 : decode cX1_giveToWhatHas 1 = .ok (.getfield 9, 3) := by decide +kernel
theorem dX1_giveToWhatHas_4 : decode cX1_giveToWhatHas 4 = .ok (.iload_n 3, 1) := by decide +kernel
theorem dX1_giveToWhatHas_5 : decode cX1_giveToWhatHas 5 = .ok (.iaload, 1) := by decide +kernel
theorem dX1_giveToWhatHas_6 : decode cX1_giveToWhatHas 6 = .ok (.istore 5, 2) := by decide +kernel
theorem dX1_giveToWhatHas_8 : decode cX1_giveToWhatHas 8 = .ok (.iconst 0, 1) := by decide +kernel
theorem dX1_giveToWhatHas_9 : decode cX1_giveToWhatHas 9 = .ok (.istore 6, 2) := by decide +kernel
theorem dX1_giveToWhatHas_11 : decode cX1_giveToWhatHas 11 = .ok (.iload 6, 2) := by decide +kernel
theorem dX1_giveToWhatHas_13 : decode cX1_giveToWhatHas 13 = .ok (.aload_n 0, 1) := by decide +kernel
theorem dX1_giveToWhatHas_14 : decode cX1_giveToWhatHas 14 = .ok (.getfield 25, 3) := by decide +kernel
theorem dX1_giveToWhatHas_17 : decode cX1_giveToWhatHas 17 = .ok (.if_icmp .ge 49, 3) := by decide +kernel
theorem dX1_giveToWhatHas_20 : decode cX1_giveToWhatHas 20 = .ok (.iload 6, 2) := by decide +kernel
theorem dX1_giveToWhatHas_22 : decode cX1_giveToWhatHas 22 = .ok (.iload 5, 2) := by decide +kernel
theorem dX1_giveToWhatHas_24 : decode cX1_giveToWhatHas 24 = .ok (.invokestatic 112, 3) := by decide +kernel
theorem dX1_giveToWhatHas_27 : decode cX1_giveToWhatHas 27 = .ok (.ifCond .eq 33, 3) := by decide +kernel
theorem dX1_giveToWhatHas_30 : decode cX1_giveToWhatHas 30 = .ok (.iload_n 2, 1) := by decide +kernel
theorem dX1_giveToWhatHas_31 : decode cX1_giveToWhatHas 31 = .ok (.iload 6, 2) := by decide +kernel
theorem dX1_giveToWhatHas_33 : decode cX1_giveToWhatHas 33 = .ok (.invokestatic 92, 3) := by decide +kernel
theorem dX1_giveToWhatHas_36 : decode cX1_giveToWhatHas 36 = .ok (.istore 7, 2) := by decide +kernel
theorem dX1_giveToWhatHas_38 : decode cX1_giveToWhatHas 38 = .ok (.aload_n 0, 1) := by decide +kernel
theorem dX1_giveToWhatHas_39 : decode cX1_giveToWhatHas 39 = .ok (.aload_n 0, 1) := by decide +kernel
theorem dX1_giveToWhatHas_40 : decode cX1_giveToWhatHas 40 = .ok (.getfield 9, 3) := by decide +kernel
theorem dX1_giveToWhatHas_43 : decode cX1_giveToWhatHas 43 = .ok (.iload 7, 2) := by decide +kernel
theorem dX1_giveToWhatHas_45 : decode cX1_giveToWhatHas 45 = .ok (.iaload, 1) := by decide +kernel
theorem dX1_giveToWhatHas_46 : decode cX1_giveToWhatHas 46 = .ok (.iload 4, 2) := by decide +kernel
theorem dX1_giveToWhatHas_48 : decode cX1_giveToWhatHas 48 = .ok (.iload_n 1, 1) := by decide +kernel
theorem dX1_giveToWhatHas_49 : decode cX1_giveToWhatHas 49 = .ok (.iload 7, 2) := by decide +kernel
theorem dX1_giveToWhatHas_51 : decode cX1_giveToWhatHas 51 = .ok (.iload 6, 2) := by decide +kernel
theorem dX1_giveToWhatHas_53 : decode cX1_giveToWhatHas 53 = .ok (.iload_n 3, 1) := by decide +kernel
theorem dX1_giveToWhatHas_54 : decode cX1_giveToWhatHas 54 = .ok (.invokestatic 116, 3) := by decide +kernel
theorem dX1_giveToWhatHas_57 : decode cX1_giveToWhatHas 57 = .ok (.invokevirtual 79, 3) := by decide +kernel
theorem dX1_giveToWhatHas_60 : decode cX1_giveToWhatHas 60 = .ok (.iinc 6 1, 3) := by decide +kernel
theorem dX1_giveToWhatHas_63 : decode cX1_giveToWhatHas 63 = .ok (.goto (-52), 3) := by decide +kernel
theorem dX1_giveToWhatHas_66 : decode cX1_giveToWhatHas 66 = .ok (.return_, 1) := by decide +kernel
set_option maxRecDepth 20000 in
theorem ggX1_giveRole_X3_linkColumn : GoodIn wsX1_giveRole wsX3_linkColumn := goodIn_r _ [5] (by decide +kernel) (by decide +kernel)
set_option maxRecDepth 20000 in
theorem gX1_giveRole_X3_linkColumn_n92 : GoodIn wsX1_giveRole (wsX3_linkColumn) := ggX1_giveRole_X3_linkColumn
set_option maxRecDepth 20000 in
theorem ggX1_giveRole_X1_give : GoodIn wsX1_giveRole wsX1_give := goodIn_r _ [10, 11, 12, 1, 13, 14, 15, 4, 16, 17, 18, 19, 20, 21, 22, 23, 24, 25, 26] (by decide +kernel) (by decide +kernel)
set_option maxRecDepth 20000 in
theorem gX1_giveRole_X1_give : GoodIn wsX1_giveRole (wsV RX1 79 RX1 yX1_give wsX1_give) := goodIn_app (goodIn_of _ (by decide +kernel)) ggX1_giveRole_X1_give
theorem dX1_giveRole_0 : decode cX1_giveRole 0 = .ok (.iconst 0, 1) := by decide +kernel
theorem dX1_giveRole_1 : decode cX1_giveRole 1 = .ok (.istore 4, 2) := by decide +kernel
theorem dX1_giveRole_3 : decode cX1_giveRole 3 = .ok (.iload 4, 2) := by decide +kernel
theorem dX1_giveRole_5 : decode cX1_giveRole 5 = .ok (.aload_n 0, 1) := by decide +kernel
theorem dX1_giveRole_6 : decode cX1_giveRole 6 = .ok (.getfield 25, 3) := by decide +kernel
theorem dX1_giveRole_9 : decode cX1_giveRole 9 = .ok (.if_icmp .ge 40, 3) := by decide +kernel
theorem dX1_giveRole_12 : decode cX1_giveRole 12 = .ok (.iload_n 2, 1) := by decide +kernel
theorem dX1_giveRole_13 : decode cX1_giveRole 13 = .ok (.iload 4, 2) := by decide +kernel
theorem dX1_giveRole_15 : decode cX1_giveRole 15 = .ok (.invokestatic 92, 3) := by decide +kernel
theorem dX1_giveRole_18 : decode cX1_giveRole 18 = .ok (.istore 5, 2) := by decide +kernel
theorem dX1_giveRole_20 : decode cX1_giveRole 20 = .ok (.aload_n 0, 1) := by decide +kernel
theorem dX1_giveRole_21 : decode cX1_giveRole 21 = .ok (.aload_n 0, 1) := by decide +kernel
theorem dX1_giveRole_22 : decode cX1_giveRole 22 = .ok (.getfield 9, 3) := by decide +kernel
theorem dX1_giveRole_25 : decode cX1_giveRole 25 = .ok (.iload 5, 2) := by decide +kernel
theorem dX1_giveRole_27 : decode cX1_giveRole 27 = .ok (.iaload, 1) := by decide +kernel
theorem dX1_giveRole_28 : decode cX1_giveRole 28 = .ok (.iload_n 3, 1) := by decide +kernel
theorem dX1_giveRole_29 : decode cX1_giveRole 29 = .ok (.iload 4, 2) := by decide +kernel
theorem dX1_giveRole_31 : decode cX1_giveRole 31 = .ok (.invokestatic 92, 3) := by decide +kernel
theorem dX1_giveRole_34 : decode cX1_giveRole 34 = .ok (.iload_n 1, 1) := by decide +kernel
theorem dX1_giveRole_35 : decode cX1_giveRole 35 = .ok (.iload 5, 2) := by decide +kernel
theorem dX1_giveRole_37 : decode cX1_giveRole 37 = .ok (.sipush 4095, 3) := by decide +kernel
theorem dX1_giveRole_40 : decode cX1_giveRole 40 = .ok (.invokevirtual 79, 3) := by decide +kernel
theorem dX1_giveRole_43 : decode cX1_giveRole 43 = .ok (.iinc 4 1, 3) := by decide +kernel
theorem dX1_giveRole_46 : decode cX1_giveRole 46 = .ok (.goto (-43), 3) := by decide +kernel
theorem dX1_giveRole_49 : decode cX1_giveRole 49 = .ok (.return_, 1) := by decide +kernel
set_option maxRecDepth 20000 in
theorem ggX1_giveChain_X3_linkColumn : GoodIn wsX1_giveChain wsX3_linkColumn := goodIn_r _ [5] (by decide +kernel) (by decide +kernel)
set_option maxRecDepth 20000 in
theorem gX1_giveChain_X3_linkColumn_n92 : GoodIn wsX1_giveChain (wsX3_linkColumn) := ggX1_giveChain_X3_linkColumn
set_option maxRecDepth 20000 in
theorem ggX1_giveChain_X3_isIn : GoodIn wsX1_giveChain wsX3_isIn := goodIn_r _ [7] (by decide +kernel) (by decide +kernel)
set_option maxRecDepth 20000 in
theorem gX1_giveChain_X3_isIn_n112 : GoodIn wsX1_giveChain (wsX3_isIn) := ggX1_giveChain_X3_isIn
set_option maxRecDepth 20000 in
theorem ggX1_giveChain_X3_codeOf : GoodIn wsX1_giveChain wsX3_codeOf := goodIn_r _ [9] (by decide +kernel) (by decide +kernel)
set_option maxRecDepth 20000 in
theorem gX1_giveChain_X3_codeOf_n116 : GoodIn wsX1_giveChain (wsX3_codeOf) := ggX1_giveChain_X3_codeOf
set_option maxRecDepth 20000 in
theorem ggX1_giveChain_X1_give : GoodIn wsX1_giveChain wsX1_give := goodIn_r _ [14, 15, 16, 1, 17, 18, 6, 4, 7, 8, 9, 19, 20, 21, 22, 23, 24, 25, 26] (by decide +kernel) (by decide +kernel)
set_option maxRecDepth 20000 in
theorem gX1_giveChain_X1_give : GoodIn wsX1_giveChain (wsV RX1 79 RX1 yX1_give wsX1_give) := goodIn_app (goodIn_of _ (by decide +kernel)) ggX1_giveChain_X1_give
theorem dX1_giveChain_0 : decode cX1_giveChain 0 = .ok (.iconst 0, 1) := by decide +kernel
theorem dX1_giveChain_1 : decode cX1_giveChain 1 = .ok (.istore 5, 2) := by decide +kernel
theorem dX1_giveChain_3 : decode cX1_giveChain 3 = .ok (.iload 5, 2) := by decide +kernel
theorem dX1_giveChain_5 : decode cX1_giveChain 5 = .ok (.aload_n 0, 1) := by decide +kernel
theorem dX1_giveChain_6 : decode cX1_giveChain 6 = .ok (.getfield 25, 3) := by decide +kernel
theorem dX1_giveChain_9 : decode cX1_giveChain 9 = .ok (.if_icmp .ge 95, 3) := by decide +kernel
theorem dX1_giveChain_12 : decode cX1_giveChain 12 = .ok (.iload_n 3, 1) := by decide +kernel
theorem dX1_giveChain_13 : decode cX1_giveChain 13 = .ok (.iload 5, 2) := by decide +kernel
theorem dX1_giveChain_15 : decode cX1_giveChain 15 = .ok (.invokestatic 92, 3) := by decide +kernel
theorem dX1_giveChain_18 : decode cX1_giveChain 18 = .ok (.istore 6, 2) := by decide +kernel
theorem dX1_giveChain_20 : decode cX1_giveChain 20 = .ok (.aload_n 0, 1) := by decide +kernel
theorem dX1_giveChain_21 : decode cX1_giveChain 21 = .ok (.getfield 9, 3) := by decide +kernel
theorem dX1_giveChain_24 : decode cX1_giveChain 24 = .ok (.iload 6, 2) := by decide +kernel
theorem dX1_giveChain_26 : decode cX1_giveChain 26 = .ok (.iaload, 1) := by decide +kernel
theorem dX1_giveChain_27 : decode cX1_giveChain 27 = .ok (.istore 7, 2) := by decide +kernel
theorem dX1_giveChain_29 : decode cX1_giveChain 29 = .ok (.iconst 0, 1) := by decide +kernel
theorem dX1_giveChain_30 : decode cX1_giveChain 30 = .ok (.istore 8, 2) := by decide +kernel
theorem dX1_giveChain_32 : decode cX1_giveChain 32 = .ok (.iload 8, 2) := by decide +kernel
theorem dX1_giveChain_34 : decode cX1_giveChain 34 = .ok (.aload_n 0, 1) := by decide +kernel
theorem dX1_giveChain_35 : decode cX1_giveChain 35 = .ok (.getfield 25, 3) := by decide +kernel
theorem dX1_giveChain_38 : decode cX1_giveChain 38 = .ok (.if_icmp .ge 60, 3) := by decide +kernel
theorem dX1_giveChain_41 : decode cX1_giveChain 41 = .ok (.iload 7, 2) := by decide +kernel
theorem dX1_giveChain_43 : decode cX1_giveChain 43 = .ok (.ifCond .eq 55, 3) := by decide +kernel
theorem dX1_giveChain_46 : decode cX1_giveChain 46 = .ok (.iload 8, 2) := by decide +kernel
theorem dX1_giveChain_48 : decode cX1_giveChain 48 = .ok (.iload 7, 2) := by decide +kernel
theorem dX1_giveChain_50 : decode cX1_giveChain 50 = .ok (.invokestatic 112, 3) := by decide +kernel
theorem dX1_giveChain_53 : decode cX1_giveChain 53 = .ok (.ifCond .eq 39, 3) := by decide +kernel
theorem dX1_giveChain_56 : decode cX1_giveChain 56 = .ok (.iload_n 2, 1) := by decide +kernel
theorem dX1_giveChain_57 : decode cX1_giveChain 57 = .ok (.iload 8, 2) := by decide +kernel
theorem dX1_giveChain_59 : decode cX1_giveChain 59 = .ok (.invokestatic 92, 3) := by decide +kernel
theorem dX1_giveChain_62 : decode cX1_giveChain 62 = .ok (.istore 9, 2) := by decide +kernel
theorem dX1_giveChain_64 : decode cX1_giveChain 64 = .ok (.aload_n 0, 1) := by decide +kernel
theorem dX1_giveChain_65 : decode cX1_giveChain 65 = .ok (.aload_n 0, 1) := by decide +kernel
theorem dX1_giveChain_66 : decode cX1_giveChain 66 = .ok (.getfield 9, 3) := by decide +kernel
theorem dX1_giveChain_69 : decode cX1_giveChain 69 = .ok (.iload 9, 2) := by decide +kernel
theorem dX1_giveChain_71 : decode cX1_giveChain 71 = .ok (.iaload, 1) := by decide +kernel
theorem dX1_giveChain_72 : decode cX1_giveChain 72 = .ok (.iload 4, 2) := by decide +kernel
theorem dX1_giveChain_74 : decode cX1_giveChain 74 = .ok (.iload 5, 2) := by decide +kernel
theorem dX1_giveChain_76 : decode cX1_giveChain 76 = .ok (.invokestatic 92, 3) := by decide +kernel
theorem dX1_giveChain_79 : decode cX1_giveChain 79 = .ok (.iload_n 1, 1) := by decide +kernel
theorem dX1_giveChain_80 : decode cX1_giveChain 80 = .ok (.iload 9, 2) := by decide +kernel
theorem dX1_giveChain_82 : decode cX1_giveChain 82 = .ok (.iload 8, 2) := by decide +kernel
theorem dX1_giveChain_84 : decode cX1_giveChain 84 = .ok (.iload 6, 2) := by decide +kernel
theorem dX1_giveChain_86 : decode cX1_giveChain 86 = .ok (.invokestatic 116, 3) := by decide +kernel
theorem dX1_giveChain_89 : decode cX1_giveChain 89 = .ok (.invokevirtual 79, 3) := by decide +kernel
theorem dX1_giveChain_92 : decode cX1_giveChain 92 = .ok (.iinc 8 1, 3) := by decide +kernel
theorem dX1_giveChain_95 : decode cX1_giveChain 95 = .ok (.goto (-63), 3) := by decide +kernel
theorem dX1_giveChain_98 : decode cX1_giveChain 98 = .ok (.iinc 5 1, 3) := by decide +kernel
theorem dX1_giveChain_101 : decode cX1_giveChain 101 = .ok (.goto (-98), 3) := by decide +kernel
theorem dX1_giveChain_104 : decode cX1_giveChain 104 = .ok (.return_, 1) := by decide +kernel
set_option maxRecDepth 20000 in
theorem ggX1_give_X3_isIn : GoodIn wsX1_give wsX3_isIn := goodIn_r _ [8] (by decide +kernel) (by decide +kernel)
set_option maxRecDepth 20000 in
theorem gX1_give_X3_isIn_n112 : GoodIn wsX1_give (wsX3_isIn) := ggX1_give_X3_isIn
set_option maxRecDepth 20000 in
theorem ggX1_give_X3_codeOf : GoodIn wsX1_give wsX3_codeOf := goodIn_r _ [10] (by decide +kernel) (by decide +kernel)
set_option maxRecDepth 20000 in
theorem gX1_give_X3_codeOf_n116 : GoodIn wsX1_give (wsX3_codeOf) := ggX1_give_X3_codeOf
theorem dX1_give_0 : decode cX1_give 0 = .ok (.iload_n 1, 1) := by decide +kernel
theorem dX1_give_1 : decode cX1_give 1 = .ok (.aload_n 0, 1) := by decide +kernel
theorem dX1_give_2 : decode cX1_give 2 = .ok (.getfield 15, 3) := by decide +kernel
theorem dX1_give_5 : decode cX1_give 5 = .ok (.iload_n 2, 1) := by decide +kernel
theorem dX1_give_6 : decode cX1_give 6 = .ok (.iaload, 1) := by decide +kernel
theorem dX1_give_7 : decode cX1_give 7 = .ok (.iconst (-1), 1) := by decide +kernel
theorem dX1_give_8 : decode cX1_give 8 = .ok (.ixor, 1) := by decide +kernel
theorem dX1_give_9 : decode cX1_give 9 = .ok (.iand, 1) := by decide +kernel
theorem dX1_give_10 : decode cX1_give 10 = .ok (.istore 6, 2) := by decide +kernel
theorem dX1_give_12 : decode cX1_give 12 = .ok (.iload 6, 2) := by decide +kernel
theorem dX1_give_14 : decode cX1_give 14 = .ok (.ifCond .ne 4, 3) := by decide +kernel
theorem dX1_give_17 : decode cX1_give 17 = .ok (.return_, 1) := by decide +kernel
theorem dX1_give_18 : decode cX1_give 18 = .ok (.aload_n 0, 1) := by decide +kernel
theorem dX1_give_19 : decode cX1_give 19 = .ok (.getfield 15, 3) := by decide +kernel
theorem dX1_give_22 : decode cX1_give 22 = .ok (.iload_n 2, 1) := by decide +kernel
theorem dX1_give_23 : decode cX1_give 23 = .ok (.dup2, 1) := by decide +kernel
theorem dX1_give_24 : decode cX1_give 24 = .ok (.iaload, 1) := by decide +kernel
theorem dX1_give_25 : decode cX1_give 25 = .ok (.iload 6, 2) := by decide +kernel
theorem dX1_give_27 : decode cX1_give 27 = .ok (.ior, 1) := by decide +kernel
theorem dX1_give_28 : decode cX1_give 28 = .ok (.iastore, 1) := by decide +kernel
theorem dX1_give_29 : decode cX1_give 29 = .ok (.aload_n 0, 1) := by decide +kernel
theorem dX1_give_30 : decode cX1_give 30 = .ok (.dup, 1) := by decide +kernel
theorem dX1_give_31 : decode cX1_give 31 = .ok (.getfield 35, 3) := by decide +kernel
theorem dX1_give_34 : decode cX1_give 34 = .ok (.iload 6, 2) := by decide +kernel
theorem dX1_give_36 : decode cX1_give 36 = .ok (.ior, 1) := by decide +kernel
theorem dX1_give_37 : decode cX1_give 37 = .ok (.putfield 35, 3) := by decide +kernel
theorem dX1_give_40 : decode cX1_give 40 = .ok (.iconst 0, 1) := by decide +kernel
theorem dX1_give_41 : decode cX1_give 41 = .ok (.istore 7, 2) := by decide +kernel
theorem dX1_give_43 : decode cX1_give 43 = .ok (.iload 7, 2) := by decide +kernel
theorem dX1_give_45 : decode cX1_give 45 = .ok (.aload_n 0, 1) := by decide +kernel
theorem dX1_give_46 : decode cX1_give 46 = .ok (.getfield 25, 3) := by decide +kernel
theorem dX1_give_49 : decode cX1_give 49 = .ok (.if_icmp .ge 78, 3) := by decide +kernel
theorem dX1_give_52 : decode cX1_give 52 = .ok (.iload 7, 2) := by decide +kernel
theorem dX1_give_54 : decode cX1_give 54 = .ok (.iload 6, 2) := by decide +kernel
theorem dX1_give_56 : decode cX1_give 56 = .ok (.invokestatic 112, 3) := by decide +kernel
theorem dX1_give_59 : decode cX1_give 59 = .ok (.ifCond .eq 62, 3) := by decide +kernel
theorem dX1_give_62 : decode cX1_give 62 = .ok (.iload 4, 2) := by decide +kernel
theorem dX1_give_64 : decode cX1_give 64 = .ok (.sipush 4095, 3) := by decide +kernel
theorem dX1_give_67 : decode cX1_give 67 = .ok (.if_icmp .ne 9, 3) := by decide +kernel
theorem dX1_give_70 : decode cX1_give 70 = .ok (.sipush 4095, 3) := by decide +kernel
theorem dX1_give_73 : decode cX1_give 73 = .ok (.goto 10, 3) := by decide +kernel
theorem dX1_give_76 : decode cX1_give 76 = .ok (.iload 7, 2) := by decide +kernel
theorem dX1_give_78 : decode cX1_give 78 = .ok (.iload 4, 2) := by decide +kernel
theorem dX1_give_80 : decode cX1_give 80 = .ok (.invokestatic 116, 3) := by decide +kernel
theorem dX1_give_83 : decode cX1_give 83 = .ok (.istore 8, 2) := by decide +kernel
theorem dX1_give_85 : decode cX1_give 85 = .ok (.aload_n 0, 1) := by decide +kernel
theorem dX1_give_86 : decode cX1_give 86 = .ok (.getfield 18, 3) := by decide +kernel
theorem dX1_give_89 : decode cX1_give 89 = .ok (.iload 7, 2) := by decide +kernel
theorem dX1_give_91 : decode cX1_give 91 = .ok (.iload_n 2, 1) := by decide +kernel
theorem dX1_give_92 : decode cX1_give 92 = .ok (.invokestatic 116, 3) := by decide +kernel
theorem dX1_give_95 : decode cX1_give 95 = .ok (.aload_n 0, 1) := by decide +kernel
theorem dX1_give_96 : decode cX1_give 96 = .ok (.getfield 32, 3) := by decide +kernel
theorem dX1_give_99 : decode cX1_give 99 = .ok (.i2l, 1) := by decide +kernel
theorem dX1_give_100 : decode cX1_give 100 = .ok (.bipush 32, 2) := by decide +kernel
theorem dX1_give_102 : decode cX1_give 102 = .ok (.lshl, 1) := by decide +kernel
theorem dX1_give_103 : decode cX1_give 103 = .ok (.iload_n 3, 1) := by decide +kernel
theorem dX1_give_104 : decode cX1_give 104 = .ok (.i2l, 1) := by decide +kernel
theorem dX1_give_105 : decode cX1_give 105 = .ok (.bipush 24, 2) := by decide +kernel
theorem dX1_give_107 : decode cX1_give 107 = .ok (.lshl, 1) := by decide +kernel
theorem dX1_give_108 : decode cX1_give 108 = .ok (.lor, 1) := by decide +kernel
theorem dX1_give_109 : decode cX1_give 109 = .ok (.iload 8, 2) := by decide +kernel
theorem dX1_give_111 : decode cX1_give 111 = .ok (.i2l, 1) := by decide +kernel
theorem dX1_give_112 : decode cX1_give 112 = .ok (.bipush 12, 2) := by decide +kernel
theorem dX1_give_114 : decode cX1_give 114 = .ok (.lshl, 1) := by decide +kernel
theorem dX1_give_115 : decode cX1_give 115 = .ok (.lor, 1) := by decide +kernel
theorem dX1_give_116 : decode cX1_give 116 = .ok (.iload 5, 2) := by decide +kernel
theorem dX1_give_118 : decode cX1_give 118 = .ok (.i2l, 1) := by decide +kernel
theorem dX1_give_119 : decode cX1_give 119 = .ok (.lor, 1) := by decide +kernel
theorem dX1_give_120 : decode cX1_give 120 = .ok (.lastore, 1) := by decide +kernel
theorem dX1_give_121 : decode cX1_give 121 = .ok (.iinc 7 1, 3) := by decide +kernel
theorem dX1_give_124 : decode cX1_give 124 = .ok (.goto (-81), 3) := by decide +kernel
theorem dX1_give_127 : decode cX1_give 127 = .ok (.return_, 1) := by decide +kernel
set_option maxRecDepth 20000 in
theorem ggX1_endRound_X1_listColumns : GoodIn wsX1_endRound wsX1_listColumns := goodIn_r _ [7, 8, 1, 9, 10, 11, 12, 13, 14, 6, 15, 16, 17, 18, 19, 20, 21, 22, 23, 24, 25, 26, 27, 28, 29] (by decide +kernel) (by decide +kernel)
set_option maxRecDepth 20000 in
theorem gX1_endRound_X1_listColumns : GoodIn wsX1_endRound (wsV RX1 119 RX1 yX1_listColumns wsX1_listColumns) := goodIn_app (goodIn_of _ (by decide +kernel)) ggX1_endRound_X1_listColumns
theorem dX1_endRound_0 : decode cX1_endRound 0 = .ok (.aload_n 0, 1) := by decide +kernel
theorem dX1_endRound_1 : decode cX1_endRound 1 = .ok (.getfield 35, 3) := by decide +kernel
theorem dX1_endRound_4 : decode cX1_endRound 4 = .ok (.ifCond .ne 4, 3) := by decide +kernel
theorem dX1_endRound_7 : decode cX1_endRound 7 = .ok (.return_, 1) := by decide +kernel
theorem dX1_endRound_8 : decode cX1_endRound 8 = .ok (.aload_n 0, 1) := by decide +kernel
theorem dX1_endRound_9 : decode cX1_endRound 9 = .ok (.iconst 0, 1) := by decide +kernel
theorem dX1_endRound_10 : decode cX1_endRound 10 = .ok (.bipush 24, 2) := by decide +kernel
theorem dX1_endRound_12 : decode cX1_endRound 12 = .ok (.invokevirtual 119, 3) := by decide +kernel
theorem dX1_endRound_15 : decode cX1_endRound 15 = .ok (.aload_n 0, 1) := by decide +kernel
theorem dX1_endRound_16 : decode cX1_endRound 16 = .ok (.bipush 24, 2) := by decide +kernel
theorem dX1_endRound_18 : decode cX1_endRound 18 = .ok (.sipush 168, 3) := by decide +kernel
theorem dX1_endRound_21 : decode cX1_endRound 21 = .ok (.invokevirtual 119, 3) := by decide +kernel
theorem dX1_endRound_24 : decode cX1_endRound 24 = .ok (.aload_n 0, 1) := by decide +kernel
theorem dX1_endRound_25 : decode cX1_endRound 25 = .ok (.dup, 1) := by decide +kernel
theorem dX1_endRound_26 : decode cX1_endRound 26 = .ok (.getfield 32, 3) := by decide +kernel
theorem dX1_endRound_29 : decode cX1_endRound 29 = .ok (.iconst 1, 1) := by decide +kernel
theorem dX1_endRound_30 : decode cX1_endRound 30 = .ok (.iadd, 1) := by decide +kernel
theorem dX1_endRound_31 : decode cX1_endRound 31 = .ok (.putfield 32, 3) := by decide +kernel
theorem dX1_endRound_34 : decode cX1_endRound 34 = .ok (.return_, 1) := by decide +kernel
set_option maxRecDepth 20000 in
theorem ggX1_listColumns_X3_isIn : GoodIn wsX1_listColumns wsX3_isIn := goodIn_r _ [5] (by decide +kernel) (by decide +kernel)
set_option maxRecDepth 20000 in
theorem gX1_listColumns_X3_isIn_n112 : GoodIn wsX1_listColumns (wsX3_isIn) := ggX1_listColumns_X3_isIn
set_option maxRecDepth 20000 in
theorem ggX1_listColumns_X1_listFactsOf : GoodIn wsX1_listColumns wsX1_listFactsOf := goodIn_r _ [10, 11, 12, 13, 14, 3, 4, 5, 15, 16, 17, 18, 19, 20, 21, 22, 23, 24] (by decide +kernel) (by decide +kernel)
set_option maxRecDepth 20000 in
theorem gX1_listColumns_X1_listFactsOf : GoodIn wsX1_listColumns (wsV RX1 123 RX1 yX1_listFactsOf wsX1_listFactsOf) := goodIn_app (goodIn_of _ (by decide +kernel)) ggX1_listColumns_X1_listFactsOf
theorem dX1_listColumns_0 : decode cX1_listColumns 0 = .ok (.iconst 0, 1) := by decide +kernel
theorem dX1_listColumns_1 : decode cX1_listColumns 1 = .ok (.istore_n 3, 1) := by decide +kernel
theorem dX1_listColumns_2 : decode cX1_listColumns 2 = .ok (.iload_n 3, 1) := by decide +kernel
theorem dX1_listColumns_3 : decode cX1_listColumns 3 = .ok (.aload_n 0, 1) := by decide +kernel
theorem dX1_listColumns_4 : decode cX1_listColumns 4 = .ok (.getfield 25, 3) := by decide +kernel
theorem dX1_listColumns_7 : decode cX1_listColumns 7 = .ok (.if_icmp .ge 27, 3) := by decide +kernel
theorem dX1_listColumns_10 : decode cX1_listColumns 10 = .ok (.iload_n 3, 1) := by decide +kernel
theorem dX1_listColumns_11 : decode cX1_listColumns 11 = .ok (.aload_n 0, 1) := by decide +kernel
theorem dX1_listColumns_12 : decode cX1_listColumns 12 = .ok (.getfield 35, 3) := by decide +kernel
theorem dX1_listColumns_15 : decode cX1_listColumns 15 = .ok (.invokestatic 112, 3) := by decide +kernel
theorem dX1_listColumns_18 : decode cX1_listColumns 18 = .ok (.ifCond .eq 10, 3) := by decide +kernel
theorem dX1_listColumns_21 : decode cX1_listColumns 21 = .ok (.aload_n 0, 1) := by decide +kernel
theorem dX1_listColumns_22 : decode cX1_listColumns 22 = .ok (.iload_n 3, 1) := by decide +kernel
theorem dX1_listColumns_23 : decode cX1_listColumns 23 = .ok (.iload_n 1, 1) := by decide +kernel
theorem dX1_listColumns_24 : decode cX1_listColumns 24 = .ok (.iload_n 2, 1) := by decide +kernel
theorem dX1_listColumns_25 : decode cX1_listColumns 25 = .ok (.invokevirtual 123, 3) := by decide +kernel
theorem dX1_listColumns_28 : decode cX1_listColumns 28 = .ok (.iinc 3 1, 3) := by decide +kernel
theorem dX1_listColumns_31 : decode cX1_listColumns 31 = .ok (.goto (-29), 3) := by decide +kernel
theorem dX1_listColumns_34 : decode cX1_listColumns 34 = .ok (.return_, 1) := by decide +kernel
set_option maxRecDepth 20000 in
theorem ggX1_listFactsOf_X3_isIn : GoodIn wsX1_listFactsOf wsX3_isIn := goodIn_r _ [7] (by decide +kernel) (by decide +kernel)
set_option maxRecDepth 20000 in
theorem gX1_listFactsOf_X3_isIn_n112 : GoodIn wsX1_listFactsOf (wsX3_isIn) := ggX1_listFactsOf_X3_isIn
set_option maxRecDepth 20000 in
theorem ggX1_listFactsOf_X3_codeOf : GoodIn wsX1_listFactsOf wsX3_codeOf := goodIn_r _ [9] (by decide +kernel) (by decide +kernel)
set_option maxRecDepth 20000 in
theorem gX1_listFactsOf_X3_codeOf_n116 : GoodIn wsX1_listFactsOf (wsX3_codeOf) := ggX1_listFactsOf_X3_codeOf
theorem dX1_listFactsOf_0 : decode cX1_listFactsOf 0 = .ok (.iload_n 2, 1) := by decide +kernel
theorem dX1_listFactsOf_1 : decode cX1_listFactsOf 1 = .ok (.istore 4, 2) := by decide +kernel
theorem dX1_listFactsOf_3 : decode cX1_listFactsOf 3 = .ok (.iload 4, 2) := by decide +kernel
theorem dX1_listFactsOf_5 : decode cX1_listFactsOf 5 = .ok (.iload_n 3, 1) := by decide +kernel
theorem dX1_listFactsOf_6 : decode cX1_listFactsOf 6 = .ok (.if_icmp .ge 68, 3) := by decide +kernel
theorem dX1_listFactsOf_9 : decode cX1_listFactsOf 9 = .ok (.iload_n 1, 1) := by decide +kernel
theorem dX1_listFactsOf_10 : decode cX1_listFactsOf 10 = .ok (.aload_n 0, 1) := by decide +kernel
theorem dX1_listFactsOf_11 : decode cX1_listFactsOf 11 = .ok (.getfield 15, 3) := by decide +kernel
theorem dX1_listFactsOf_14 : decode cX1_listFactsOf 14 = .ok (.iload 4, 2) := by decide +kernel
theorem dX1_listFactsOf_16 : decode cX1_listFactsOf 16 = .ok (.iaload, 1) := by decide +kernel
theorem dX1_listFactsOf_17 : decode cX1_listFactsOf 17 = .ok (.aload_n 0, 1) := by decide +kernel
theorem dX1_listFactsOf_18 : decode cX1_listFactsOf 18 = .ok (.getfield 9, 3) := by decide +kernel
theorem dX1_listFactsOf_21 : decode cX1_listFactsOf 21 = .ok (.iload 4, 2) := by decide +kernel
theorem dX1_listFactsOf_23 : decode cX1_listFactsOf 23 = .ok (.iaload, 1) := by decide +kernel
theorem dX1_listFactsOf_24 : decode cX1_listFactsOf 24 = .ok (.iconst (-1), 1) := by decide +kernel
theorem dX1_listFactsOf_25 : decode cX1_listFactsOf 25 = .ok (.ixor, 1) := by decide +kernel
theorem dX1_listFactsOf_26 : decode cX1_listFactsOf 26 = .ok (.iand, 1) := by decide +kernel
theorem dX1_listFactsOf_27 : decode cX1_listFactsOf 27 = .ok (.invokestatic 112, 3) := by decide +kernel
theorem dX1_listFactsOf_30 : decode cX1_listFactsOf 30 = .ok (.ifCond .eq 38, 3) := by decide +kernel
theorem dX1_listFactsOf_33 : decode cX1_listFactsOf 33 = .ok (.aload_n 0, 1) := by decide +kernel
theorem dX1_listFactsOf_34 : decode cX1_listFactsOf 34 = .ok (.getfield 29, 3) := by decide +kernel
theorem dX1_listFactsOf_37 : decode cX1_listFactsOf 37 = .ok (.sipush 4032, 3) := by decide +kernel
theorem dX1_listFactsOf_40 : decode cX1_listFactsOf 40 = .ok (.if_icmp .ge 28, 3) := by decide +kernel
theorem dX1_listFactsOf_43 : decode cX1_listFactsOf 43 = .ok (.aload_n 0, 1) := by decide +kernel
theorem dX1_listFactsOf_44 : decode cX1_listFactsOf 44 = .ok (.getfield 22, 3) := by decide +kernel
theorem dX1_listFactsOf_47 : decode cX1_listFactsOf 47 = .ok (.aload_n 0, 1) := by decide +kernel
theorem dX1_listFactsOf_48 : decode cX1_listFactsOf 48 = .ok (.getfield 29, 3) := by decide +kernel
theorem dX1_listFactsOf_51 : decode cX1_listFactsOf 51 = .ok (.iload_n 1, 1) := by decide +kernel
theorem dX1_listFactsOf_52 : decode cX1_listFactsOf 52 = .ok (.iload 4, 2) := by decide +kernel
theorem dX1_listFactsOf_54 : decode cX1_listFactsOf 54 = .ok (.invokestatic 116, 3) := by decide +kernel
theorem dX1_listFactsOf_57 : decode cX1_listFactsOf 57 = .ok (.iastore, 1) := by decide +kernel
theorem dX1_listFactsOf_58 : decode cX1_listFactsOf 58 = .ok (.aload_n 0, 1) := by decide +kernel
theorem dX1_listFactsOf_59 : decode cX1_listFactsOf 59 = .ok (.dup, 1) := by decide +kernel
theorem dX1_listFactsOf_60 : decode cX1_listFactsOf 60 = .ok (.getfield 29, 3) := by decide +kernel
theorem dX1_listFactsOf_63 : decode cX1_listFactsOf 63 = .ok (.iconst 1, 1) := by decide +kernel
theorem dX1_listFactsOf_64 : decode cX1_listFactsOf 64 = .ok (.iadd, 1) := by decide +kernel
theorem dX1_listFactsOf_65 : decode cX1_listFactsOf 65 = .ok (.putfield 29, 3) := by decide +kernel
theorem dX1_listFactsOf_68 : decode cX1_listFactsOf 68 = .ok (.iinc 4 1, 3) := by decide +kernel
theorem dX1_listFactsOf_71 : decode cX1_listFactsOf 71 = .ok (.goto (-68), 3) := by decide +kernel
theorem dX1_listFactsOf_74 : decode cX1_listFactsOf 74 = .ok (.return_, 1) := by decide +kernel
set_option maxRecDepth 20000 in
theorem ggX1_has_X3_isIn : GoodIn wsX1_has wsX3_isIn := goodIn_r _ [4] (by decide +kernel) (by decide +kernel)
set_option maxRecDepth 20000 in
theorem gX1_has_X3_isIn_n112 : GoodIn wsX1_has (wsX3_isIn) := ggX1_has_X3_isIn
theorem dX1_has_0 : decode cX1_has 0 = .ok (.iload_n 1, 1) := by decide +kernel
theorem dX1_has_1 : decode cX1_has 1 = .ok (.aload_n 0, 1) := by decide +kernel
theorem dX1_has_2 : decode cX1_has 2 = .ok (.getfield 15, 3) := by decide +kernel
theorem dX1_has_5 : decode cX1_has 5 = .ok (.iload_n 2, 1) := by decide +kernel
theorem dX1_has_6 : decode cX1_has 6 = .ok (.iaload, 1) := by decide +kernel
theorem dX1_has_7 : decode cX1_has 7 = .ok (.invokestatic 112, 3) := by decide +kernel
theorem dX1_has_10 : decode cX1_has 10 = .ok (.ireturn, 1) := by decide +kernel
theorem dX1_follows_0 : decode cX1_follows 0 = .ok (.iload_n 1, 1) := by decide +kernel
theorem dX1_follows_1 : decode cX1_follows 1 = .ok (.ifCond .lt 25, 3) := by decide +kernel
theorem dX1_follows_4 : decode cX1_follows 4 = .ok (.iload_n 1, 1) := by decide +kernel
theorem dX1_follows_5 : decode cX1_follows 5 = .ok (.sipush 4032, 3) := by decide +kernel
theorem dX1_follows_8 : decode cX1_follows 8 = .ok (.if_icmp .ge 18, 3) := by decide +kernel
theorem dX1_follows_11 : decode cX1_follows 11 = .ok (.aload_n 0, 1) := by decide +kernel
theorem dX1_follows_12 : decode cX1_follows 12 = .ok (.getfield 18, 3) := by decide +kernel
theorem dX1_follows_15 : decode cX1_follows 15 = .ok (.iload_n 1, 1) := by decide +kernel
theorem dX1_follows_16 : decode cX1_follows 16 = .ok (.laload, 1) := by decide +kernel
theorem dX1_follows_17 : decode cX1_follows 17 = .ok (.lconst 0, 1) := by decide +kernel
theorem dX1_follows_18 : decode cX1_follows 18 = .ok (.lcmp, 1) := by decide +kernel
theorem dX1_follows_19 : decode cX1_follows 19 = .ok (.ifCond .lt 7, 3) := by decide +kernel
theorem dX1_follows_22 : decode cX1_follows 22 = .ok (.iconst 1, 1) := by decide +kernel
theorem dX1_follows_23 : decode cX1_follows 23 = .ok (.goto 4, 3) := by decide +kernel
theorem dX1_follows_26 : decode cX1_follows 26 = .ok (.iconst 0, 1) := by decide +kernel
theorem dX1_follows_27 : decode cX1_follows 27 = .ok (.ireturn, 1) := by decide +kernel
theorem dX1_roundOf_0 : decode cX1_roundOf 0 = .ok (.aload_n 0, 1) := by decide +kernel
theorem dX1_roundOf_1 : decode cX1_roundOf 1 = .ok (.getfield 18, 3) := by decide +kernel
theorem dX1_roundOf_4 : decode cX1_roundOf 4 = .ok (.iload_n 1, 1) := by decide +kernel
theorem dX1_roundOf_5 : decode cX1_roundOf 5 = .ok (.laload, 1) := by decide +kernel
theorem dX1_roundOf_6 : decode cX1_roundOf 6 = .ok (.bipush 32, 2) := by decide +kernel
theorem dX1_roundOf_8 : decode cX1_roundOf 8 = .ok (.lshr, 1) := by decide +kernel
theorem dX1_roundOf_9 : decode cX1_roundOf 9 = .ok (.l2i, 1) := by decide +kernel
theorem dX1_roundOf_10 : decode cX1_roundOf 10 = .ok (.ireturn, 1) := by decide +kernel
theorem dX1_axiomOf_0 : decode cX1_axiomOf 0 = .ok (.aload_n 0, 1) := by decide +kernel
theorem dX1_axiomOf_1 : decode cX1_axiomOf 1 = .ok (.getfield 18, 3) := by decide +kernel
theorem dX1_axiomOf_4 : decode cX1_axiomOf 4 = .ok (.iload_n 1, 1) := by decide +kernel
theorem dX1_axiomOf_5 : decode cX1_axiomOf 5 = .ok (.laload, 1) := by decide +kernel
theorem dX1_axiomOf_6 : decode cX1_axiomOf 6 = .ok (.bipush 24, 2) := by decide +kernel
theorem dX1_axiomOf_8 : decode cX1_axiomOf 8 = .ok (.lshr, 1) := by decide +kernel
theorem dX1_axiomOf_9 : decode cX1_axiomOf 9 = .ok (.l2i, 1) := by decide +kernel
theorem dX1_axiomOf_10 : decode cX1_axiomOf 10 = .ok (.sipush 255, 3) := by decide +kernel
theorem dX1_axiomOf_13 : decode cX1_axiomOf 13 = .ok (.iand, 1) := by decide +kernel
theorem dX1_axiomOf_14 : decode cX1_axiomOf 14 = .ok (.istore_n 2, 1) := by decide +kernel
theorem dX1_axiomOf_15 : decode cX1_axiomOf 15 = .ok (.iload_n 2, 1) := by decide +kernel
theorem dX1_axiomOf_16 : decode cX1_axiomOf 16 = .ok (.sipush 255, 3) := by decide +kernel
theorem dX1_axiomOf_19 : decode cX1_axiomOf 19 = .ok (.if_icmp .ne 7, 3) := by decide +kernel
theorem dX1_axiomOf_22 : decode cX1_axiomOf 22 = .ok (.iconst (-1), 1) := by decide +kernel
theorem dX1_axiomOf_23 : decode cX1_axiomOf 23 = .ok (.goto 4, 3) := by decide +kernel
theorem dX1_axiomOf_26 : decode cX1_axiomOf 26 = .ok (.iload_n 2, 1) := by decide +kernel
theorem dX1_axiomOf_27 : decode cX1_axiomOf 27 = .ok (.ireturn, 1) := by decide +kernel
theorem dX1_firstPremiseOf_0 : decode cX1_firstPremiseOf 0 = .ok (.aload_n 0, 1) := by decide +kernel
theorem dX1_firstPremiseOf_1 : decode cX1_firstPremiseOf 1 = .ok (.getfield 18, 3) := by decide +kernel
theorem dX1_firstPremiseOf_4 : decode cX1_firstPremiseOf 4 = .ok (.iload_n 1, 1) := by decide +kernel
theorem dX1_firstPremiseOf_5 : decode cX1_firstPremiseOf 5 = .ok (.laload, 1) := by decide +kernel
theorem dX1_firstPremiseOf_6 : decode cX1_firstPremiseOf 6 = .ok (.bipush 12, 2) := by decide +kernel
theorem dX1_firstPremiseOf_8 : decode cX1_firstPremiseOf 8 = .ok (.lshr, 1) := by decide +kernel
theorem dX1_firstPremiseOf_9 : decode cX1_firstPremiseOf 9 = .ok (.l2i, 1) := by decide +kernel
theorem dX1_firstPremiseOf_10 : decode cX1_firstPremiseOf 10 = .ok (.sipush 4095, 3) := by decide +kernel
theorem dX1_firstPremiseOf_13 : decode cX1_firstPremiseOf 13 = .ok (.iand, 1) := by decide +kernel
theorem dX1_firstPremiseOf_14 : decode cX1_firstPremiseOf 14 = .ok (.istore_n 2, 1) := by decide +kernel
theorem dX1_firstPremiseOf_15 : decode cX1_firstPremiseOf 15 = .ok (.iload_n 2, 1) := by decide +kernel
theorem dX1_firstPremiseOf_16 : decode cX1_firstPremiseOf 16 = .ok (.sipush 4095, 3) := by decide +kernel
theorem dX1_firstPremiseOf_19 : decode cX1_firstPremiseOf 19 = .ok (.if_icmp .ne 7, 3) := by decide +kernel
theorem dX1_firstPremiseOf_22 : decode cX1_firstPremiseOf 22 = .ok (.iconst (-1), 1) := by decide +kernel
theorem dX1_firstPremiseOf_23 : decode cX1_firstPremiseOf 23 = .ok (.goto 4, 3) := by decide +kernel
theorem dX1_firstPremiseOf_26 : decode cX1_firstPremiseOf 26 = .ok (.iload_n 2, 1) := by decide +kernel
theorem dX1_firstPremiseOf_27 : decode cX1_firstPremiseOf 27 = .ok (.ireturn, 1) := by decide +kernel
theorem dX1_secondPremiseOf_0 : decode cX1_secondPremiseOf 0 = .ok (.aload_n 0, 1) := by decide +kernel
theorem dX1_secondPremiseOf_1 : decode cX1_secondPremiseOf 1 = .ok (.getfield 18, 3) := by decide +kernel
theorem dX1_secondPremiseOf_4 : decode cX1_secondPremiseOf 4 = .ok (.iload_n 1, 1) := by decide +kernel
theorem dX1_secondPremiseOf_5 : decode cX1_secondPremiseOf 5 = .ok (.laload, 1) := by decide +kernel
theorem dX1_secondPremiseOf_6 : decode cX1_secondPremiseOf 6 = .ok (.l2i, 1) := by decide +kernel
theorem dX1_secondPremiseOf_7 : decode cX1_secondPremiseOf 7 = .ok (.sipush 4095, 3) := by decide +kernel
theorem dX1_secondPremiseOf_10 : decode cX1_secondPremiseOf 10 = .ok (.iand, 1) := by decide +kernel
theorem dX1_secondPremiseOf_11 : decode cX1_secondPremiseOf 11 = .ok (.istore_n 2, 1) := by decide +kernel
theorem dX1_secondPremiseOf_12 : decode cX1_secondPremiseOf 12 = .ok (.iload_n 2, 1) := by decide +kernel
theorem dX1_secondPremiseOf_13 : decode cX1_secondPremiseOf 13 = .ok (.sipush 4095, 3) := by decide +kernel
theorem dX1_secondPremiseOf_16 : decode cX1_secondPremiseOf 16 = .ok (.if_icmp .ne 7, 3) := by decide +kernel
theorem dX1_secondPremiseOf_19 : decode cX1_secondPremiseOf 19 = .ok (.iconst (-1), 1) := by decide +kernel
theorem dX1_secondPremiseOf_20 : decode cX1_secondPremiseOf 20 = .ok (.goto 4, 3) := by decide +kernel
theorem dX1_secondPremiseOf_23 : decode cX1_secondPremiseOf 23 = .ok (.iload_n 2, 1) := by decide +kernel
theorem dX1_secondPremiseOf_24 : decode cX1_secondPremiseOf 24 = .ok (.ireturn, 1) := by decide +kernel
set_option maxRecDepth 20000 in
theorem ggX1_areSame_X1_has : GoodIn wsX1_areSame wsX1_has := goodIn_r _ [5, 6, 7, 8, 9, 10, 11, 12, 13, 14, 15, 16, 17] (by decide +kernel) (by decide +kernel)
set_option maxRecDepth 20000 in
theorem gX1_areSame_X1_has : GoodIn wsX1_areSame (wsV RX1 126 RX1 yX1_has wsX1_has) := goodIn_app (goodIn_of _ (by decide +kernel)) ggX1_areSame_X1_has
theorem dX1_areSame_0 : decode cX1_areSame 0 = .ok (.aload_n 0, 1) := by decide +kernel
theorem dX1_areSame_1 : decode cX1_areSame 1 = .ok (.iload_n 1, 1) := by decide +kernel
theorem dX1_areSame_2 : decode cX1_areSame 2 = .ok (.iload_n 2, 1) := by decide +kernel
theorem dX1_areSame_3 : decode cX1_areSame 3 = .ok (.invokevirtual 126, 3) := by decide +kernel
theorem dX1_areSame_6 : decode cX1_areSame 6 = .ok (.ifCond .eq 16, 3) := by decide +kernel
theorem dX1_areSame_9 : decode cX1_areSame 9 = .ok (.aload_n 0, 1) := by decide +kernel
theorem dX1_areSame_10 : decode cX1_areSame 10 = .ok (.iload_n 2, 1) := by decide +kernel
theorem dX1_areSame_11 : decode cX1_areSame 11 = .ok (.iload_n 1, 1) := by decide +kernel
theorem dX1_areSame_12 : decode cX1_areSame 12 = .ok (.invokevirtual 126, 3) := by decide +kernel
theorem dX1_areSame_15 : decode cX1_areSame 15 = .ok (.ifCond .eq 7, 3) := by decide +kernel
theorem dX1_areSame_18 : decode cX1_areSame 18 = .ok (.iconst 1, 1) := by decide +kernel
theorem dX1_areSame_19 : decode cX1_areSame 19 = .ok (.goto 4, 3) := by decide +kernel
theorem dX1_areSame_22 : decode cX1_areSame 22 = .ok (.iconst 0, 1) := by decide +kernel
theorem dX1_areSame_23 : decode cX1_areSame 23 = .ok (.ireturn, 1) := by decide +kernel
set_option maxRecDepth 20000 in
theorem ggX1_leastSame_X1_areSame : GoodIn wsX1_leastSame wsX1_areSame := goodIn_r _ [5, 6, 7, 8, 4, 9, 10, 11, 12, 13, 14, 15, 16, 17, 18, 19, 20, 21] (by decide +kernel) (by decide +kernel)
set_option maxRecDepth 20000 in
theorem gX1_leastSame_X1_areSame : GoodIn wsX1_leastSame (wsV RX1 129 RX1 yX1_areSame wsX1_areSame) := goodIn_app (goodIn_of _ (by decide +kernel)) ggX1_leastSame_X1_areSame
theorem dX1_leastSame_0 : decode cX1_leastSame 0 = .ok (.iconst 0, 1) := by decide +kernel
theorem dX1_leastSame_1 : decode cX1_leastSame 1 = .ok (.istore_n 2, 1) := by decide +kernel
theorem dX1_leastSame_2 : decode cX1_leastSame 2 = .ok (.iload_n 2, 1) := by decide +kernel
theorem dX1_leastSame_3 : decode cX1_leastSame 3 = .ok (.iload_n 1, 1) := by decide +kernel
theorem dX1_leastSame_4 : decode cX1_leastSame 4 = .ok (.if_icmp .ge 20, 3) := by decide +kernel
theorem dX1_leastSame_7 : decode cX1_leastSame 7 = .ok (.aload_n 0, 1) := by decide +kernel
theorem dX1_leastSame_8 : decode cX1_leastSame 8 = .ok (.iload_n 1, 1) := by decide +kernel
theorem dX1_leastSame_9 : decode cX1_leastSame 9 = .ok (.iload_n 2, 1) := by decide +kernel
theorem dX1_leastSame_10 : decode cX1_leastSame 10 = .ok (.invokevirtual 129, 3) := by decide +kernel
theorem dX1_leastSame_13 : decode cX1_leastSame 13 = .ok (.ifCond .eq 5, 3) := by decide +kernel
theorem dX1_leastSame_16 : decode cX1_leastSame 16 = .ok (.iload_n 2, 1) := by decide +kernel
theorem dX1_leastSame_17 : decode cX1_leastSame 17 = .ok (.ireturn, 1) := by decide +kernel
theorem dX1_leastSame_18 : decode cX1_leastSame 18 = .ok (.iinc 2 1, 3) := by decide +kernel
theorem dX1_leastSame_21 : decode cX1_leastSame 21 = .ok (.goto (-19), 3) := by decide +kernel
theorem dX1_leastSame_24 : decode cX1_leastSame 24 = .ok (.iload_n 1, 1) := by decide +kernel
theorem dX1_leastSame_25 : decode cX1_leastSame 25 = .ok (.ireturn, 1) := by decide +kernel
set_option maxRecDepth 20000 in
theorem ggX1_parentOf_X1_has : GoodIn wsX1_parentOf wsX1_has := goodIn_r _ [6, 7, 8, 9, 10, 23, 24, 25, 26, 27, 28, 29, 30] (by decide +kernel) (by decide +kernel)
set_option maxRecDepth 20000 in
theorem gX1_parentOf_X1_has : GoodIn wsX1_parentOf (wsV RX1 126 RX1 yX1_has wsX1_has) := goodIn_app (goodIn_of _ (by decide +kernel)) ggX1_parentOf_X1_has
set_option maxRecDepth 20000 in
theorem ggX1_parentOf_X1_isParent : GoodIn wsX1_parentOf wsX1_isParent := goodIn_r _ [14, 1, 2, 3, 4, 5, 6, 7, 8, 9, 10, 15, 16, 17, 18, 19, 20, 21, 22, 23, 24, 25, 26, 27, 28, 29, 30] (by decide +kernel) (by decide +kernel)
set_option maxRecDepth 20000 in
theorem gX1_parentOf_X1_isParent : GoodIn wsX1_parentOf (wsV RX1 132 RX1 yX1_isParent wsX1_isParent) := goodIn_app (goodIn_of _ (by decide +kernel)) ggX1_parentOf_X1_isParent
theorem dX1_parentOf_0 : decode cX1_parentOf 0 = .ok (.aload_n 0, 1) := by decide +kernel
theorem dX1_parentOf_1 : decode cX1_parentOf 1 = .ok (.iload_n 1, 1) := by decide +kernel
theorem dX1_parentOf_2 : decode cX1_parentOf 2 = .ok (.iconst 1, 1) := by decide +kernel
theorem dX1_parentOf_3 : decode cX1_parentOf 3 = .ok (.invokevirtual 126, 3) := by decide +kernel
theorem dX1_parentOf_6 : decode cX1_parentOf 6 = .ok (.ifCond .eq 5, 3) := by decide +kernel
theorem dX1_parentOf_9 : decode cX1_parentOf 9 = .ok (.iconst (-1), 1) := by decide +kernel
theorem dX1_parentOf_10 : decode cX1_parentOf 10 = .ok (.ireturn, 1) := by decide +kernel
theorem dX1_parentOf_11 : decode cX1_parentOf 11 = .ok (.iconst 0, 1) := by decide +kernel
theorem dX1_parentOf_12 : decode cX1_parentOf 12 = .ok (.istore_n 3, 1) := by decide +kernel
theorem dX1_parentOf_13 : decode cX1_parentOf 13 = .ok (.iconst 0, 1) := by decide +kernel
theorem dX1_parentOf_14 : decode cX1_parentOf 14 = .ok (.istore 4, 2) := by decide +kernel
theorem dX1_parentOf_16 : decode cX1_parentOf 16 = .ok (.iload 4, 2) := by decide +kernel
theorem dX1_parentOf_18 : decode cX1_parentOf 18 = .ok (.aload_n 0, 1) := by decide +kernel
theorem dX1_parentOf_19 : decode cX1_parentOf 19 = .ok (.getfield 25, 3) := by decide +kernel
theorem dX1_parentOf_22 : decode cX1_parentOf 22 = .ok (.if_icmp .ge 30, 3) := by decide +kernel
theorem dX1_parentOf_25 : decode cX1_parentOf 25 = .ok (.aload_n 0, 1) := by decide +kernel
theorem dX1_parentOf_26 : decode cX1_parentOf 26 = .ok (.iload_n 1, 1) := by decide +kernel
theorem dX1_parentOf_27 : decode cX1_parentOf 27 = .ok (.iload 4, 2) := by decide +kernel
theorem dX1_parentOf_29 : decode cX1_parentOf 29 = .ok (.invokevirtual 132, 3) := by decide +kernel
theorem dX1_parentOf_32 : decode cX1_parentOf 32 = .ok (.ifCond .eq 14, 3) := by decide +kernel
theorem dX1_parentOf_35 : decode cX1_parentOf 35 = .ok (.iload_n 3, 1) := by decide +kernel
theorem dX1_parentOf_36 : decode cX1_parentOf 36 = .ok (.iload_n 2, 1) := by decide +kernel
theorem dX1_parentOf_37 : decode cX1_parentOf 37 = .ok (.if_icmp .ne 6, 3) := by decide +kernel
theorem dX1_parentOf_40 : decode cX1_parentOf 40 = .ok (.iload 4, 2) := by decide +kernel
theorem dX1_parentOf_42 : decode cX1_parentOf 42 = .ok (.ireturn, 1) := by decide +kernel
theorem dX1_parentOf_43 : decode cX1_parentOf 43 = .ok (.iinc 3 1, 3) := by decide +kernel
theorem dX1_parentOf_46 : decode cX1_parentOf 46 = .ok (.iinc 4 1, 3) := by decide +kernel
theorem dX1_parentOf_49 : decode cX1_parentOf 49 = .ok (.goto (-33), 3) := by decide +kernel
theorem dX1_parentOf_52 : decode cX1_parentOf 52 = .ok (.iconst (-1), 1) := by decide +kernel
theorem dX1_parentOf_53 : decode cX1_parentOf 53 = .ok (.ireturn, 1) := by decide +kernel
set_option maxRecDepth 20000 in
theorem ggX1_isParent_X1_has : GoodIn wsX1_isParent wsX1_has := goodIn_r _ [6, 7, 8, 9, 10, 19, 20, 21, 22, 23, 24, 25, 26] (by decide +kernel) (by decide +kernel)
set_option maxRecDepth 20000 in
theorem gX1_isParent_X1_has : GoodIn wsX1_isParent (wsV RX1 126 RX1 yX1_has wsX1_has) := goodIn_app (goodIn_of _ (by decide +kernel)) ggX1_isParent_X1_has
set_option maxRecDepth 20000 in
theorem ggX1_isParent_X1_leastSame : GoodIn wsX1_isParent wsX1_leastSame := goodIn_r _ [14, 15, 16, 17, 5, 18, 2, 3, 4, 6, 7, 8, 9, 10, 19, 20, 21, 22, 23, 24, 25, 26] (by decide +kernel) (by decide +kernel)
set_option maxRecDepth 20000 in
theorem gX1_isParent_X1_leastSame : GoodIn wsX1_isParent (wsV RX1 135 RX1 yX1_leastSame wsX1_leastSame) := goodIn_app (goodIn_of _ (by decide +kernel)) ggX1_isParent_X1_leastSame
set_option maxRecDepth 20000 in
theorem ggX1_isParent_X1_areSame : GoodIn wsX1_isParent wsX1_areSame := goodIn_r _ [18, 2, 3, 4, 5, 6, 7, 8, 9, 10, 19, 20, 21, 22, 23, 24, 25, 26] (by decide +kernel) (by decide +kernel)
set_option maxRecDepth 20000 in
theorem gX1_isParent_X1_areSame : GoodIn wsX1_isParent (wsV RX1 129 RX1 yX1_areSame wsX1_areSame) := goodIn_app (goodIn_of _ (by decide +kernel)) ggX1_isParent_X1_areSame
theorem dX1_isParent_0 : decode cX1_isParent 0 = .ok (.aload_n 0, 1) := by decide +kernel
theorem dX1_isParent_1 : decode cX1_isParent 1 = .ok (.iload_n 1, 1) := by decide +kernel
theorem dX1_isParent_2 : decode cX1_isParent 2 = .ok (.iload_n 2, 1) := by decide +kernel
theorem dX1_isParent_3 : decode cX1_isParent 3 = .ok (.invokevirtual 126, 3) := by decide +kernel
theorem dX1_isParent_6 : decode cX1_isParent 6 = .ok (.ifCond .eq 21, 3) := by decide +kernel
theorem dX1_isParent_9 : decode cX1_isParent 9 = .ok (.aload_n 0, 1) := by decide +kernel
theorem dX1_isParent_10 : decode cX1_isParent 10 = .ok (.iload_n 2, 1) := by decide +kernel
theorem dX1_isParent_11 : decode cX1_isParent 11 = .ok (.iload_n 1, 1) := by decide +kernel
theorem dX1_isParent_12 : decode cX1_isParent 12 = .ok (.invokevirtual 126, 3) := by decide +kernel
theorem dX1_isParent_15 : decode cX1_isParent 15 = .ok (.ifCond .ne 12, 3) := by decide +kernel
theorem dX1_isParent_18 : decode cX1_isParent 18 = .ok (.aload_n 0, 1) := by decide +kernel
theorem dX1_isParent_19 : decode cX1_isParent 19 = .ok (.iload_n 2, 1) := by decide +kernel
theorem dX1_isParent_20 : decode cX1_isParent 20 = .ok (.invokevirtual 135, 3) := by decide +kernel
theorem dX1_isParent_23 : decode cX1_isParent 23 = .ok (.iload_n 2, 1) := by decide +kernel
theorem dX1_isParent_24 : decode cX1_isParent 24 = .ok (.if_icmp .eq 5, 3) := by decide +kernel
theorem dX1_isParent_27 : decode cX1_isParent 27 = .ok (.iconst 0, 1) := by decide +kernel
theorem dX1_isParent_28 : decode cX1_isParent 28 = .ok (.ireturn, 1) := by decide +kernel
theorem dX1_isParent_29 : decode cX1_isParent 29 = .ok (.iconst 0, 1) := by decide +kernel
theorem dX1_isParent_30 : decode cX1_isParent 30 = .ok (.istore_n 3, 1) := by decide +kernel
theorem dX1_isParent_31 : decode cX1_isParent 31 = .ok (.iload_n 3, 1) := by decide +kernel
theorem dX1_isParent_32 : decode cX1_isParent 32 = .ok (.aload_n 0, 1) := by decide +kernel
theorem dX1_isParent_33 : decode cX1_isParent 33 = .ok (.getfield 25, 3) := by decide +kernel
theorem dX1_isParent_36 : decode cX1_isParent 36 = .ok (.if_icmp .ge 47, 3) := by decide +kernel
theorem dX1_isParent_39 : decode cX1_isParent 39 = .ok (.aload_n 0, 1) := by decide +kernel
theorem dX1_isParent_40 : decode cX1_isParent 40 = .ok (.iload_n 1, 1) := by decide +kernel
theorem dX1_isParent_41 : decode cX1_isParent 41 = .ok (.iload_n 3, 1) := by decide +kernel
theorem dX1_isParent_42 : decode cX1_isParent 42 = .ok (.invokevirtual 126, 3) := by decide +kernel
theorem dX1_isParent_45 : decode cX1_isParent 45 = .ok (.ifCond .eq 32, 3) := by decide +kernel
theorem dX1_isParent_48 : decode cX1_isParent 48 = .ok (.aload_n 0, 1) := by decide +kernel
theorem dX1_isParent_49 : decode cX1_isParent 49 = .ok (.iload_n 3, 1) := by decide +kernel
theorem dX1_isParent_50 : decode cX1_isParent 50 = .ok (.iload_n 2, 1) := by decide +kernel
theorem dX1_isParent_51 : decode cX1_isParent 51 = .ok (.invokevirtual 126, 3) := by decide +kernel
theorem dX1_isParent_54 : decode cX1_isParent 54 = .ok (.ifCond .eq 23, 3) := by decide +kernel
theorem dX1_isParent_57 : decode cX1_isParent 57 = .ok (.aload_n 0, 1) := by decide +kernel
theorem dX1_isParent_58 : decode cX1_isParent 58 = .ok (.iload_n 3, 1) := by decide +kernel
theorem dX1_isParent_59 : decode cX1_isParent 59 = .ok (.iload_n 1, 1) := by decide +kernel
theorem dX1_isParent_60 : decode cX1_isParent 60 = .ok (.invokevirtual 129, 3) := by decide +kernel
theorem dX1_isParent_63 : decode cX1_isParent 63 = .ok (.ifCond .ne 14, 3) := by decide +kernel
theorem dX1_isParent_66 : decode cX1_isParent 66 = .ok (.aload_n 0, 1) := by decide +kernel
theorem dX1_isParent_67 : decode cX1_isParent 67 = .ok (.iload_n 3, 1) := by decide +kernel
theorem dX1_isParent_68 : decode cX1_isParent 68 = .ok (.iload_n 2, 1) := by decide +kernel
theorem dX1_isParent_69 : decode cX1_isParent 69 = .ok (.invokevirtual 129, 3) := by decide +kernel
theorem dX1_isParent_72 : decode cX1_isParent 72 = .ok (.ifCond .ne 5, 3) := by decide +kernel
theorem dX1_isParent_75 : decode cX1_isParent 75 = .ok (.iconst 0, 1) := by decide +kernel
theorem dX1_isParent_76 : decode cX1_isParent 76 = .ok (.ireturn, 1) := by decide +kernel
theorem dX1_isParent_77 : decode cX1_isParent 77 = .ok (.iinc 3 1, 3) := by decide +kernel
theorem dX1_isParent_80 : decode cX1_isParent 80 = .ok (.goto (-49), 3) := by decide +kernel
theorem dX1_isParent_83 : decode cX1_isParent 83 = .ok (.iconst 1, 1) := by decide +kernel
theorem dX1_isParent_84 : decode cX1_isParent 84 = .ok (.ireturn, 1) := by decide +kernel
theorem dX2_init_0 : decode cX2_init 0 = .ok (.aload_n 0, 1) := by decide +kernel
theorem dX2_init_1 : decode cX2_init 1 = .ok (.invokespecial 3, 3) := by decide +kernel
theorem dX2_init_4 : decode cX2_init 4 = .ok (.aload_n 0, 1) := by decide +kernel
theorem dX2_init_5 : decode cX2_init 5 = .ok (.sipush 4032, 3) := by decide +kernel
theorem dX2_init_8 : decode cX2_init 8 = .ok (.newarray .int, 2) := by decide +kernel
theorem dX2_init_10 : decode cX2_init 10 = .ok (.putfield 9, 3) := by decide +kernel
theorem dX2_init_13 : decode cX2_init 13 = .ok (.aload_n 0, 1) := by decide +kernel
theorem dX2_init_14 : decode cX2_init 14 = .ok (.bipush 63, 2) := by decide +kernel
theorem dX2_init_16 : decode cX2_init 16 = .ok (.newarray .long, 2) := by decide +kernel
theorem dX2_init_18 : decode cX2_init 18 = .ok (.putfield 15, 3) := by decide +kernel
theorem dX2_init_21 : decode cX2_init 21 = .ok (.aload_n 0, 1) := by decide +kernel
theorem dX2_init_22 : decode cX2_init 22 = .ok (.iconst 0, 1) := by decide +kernel
theorem dX2_init_23 : decode cX2_init 23 = .ok (.putfield 19, 3) := by decide +kernel
theorem dX2_init_26 : decode cX2_init 26 = .ok (.return_, 1) := by decide +kernel
set_option maxRecDepth 20000 in
theorem ggX2_take_X1_follows : GoodIn wsX2_take wsX1_follows := goodIn_r _ [7, 8, 31, 32, 33, 34, 35, 36, 37, 38] (by decide +kernel) (by decide +kernel)
set_option maxRecDepth 20000 in
theorem gX2_take_X1_follows_n23 : GoodIn wsX2_take (wsX1_follows) := ggX2_take_X1_follows
set_option maxRecDepth 20000 in
theorem ggX2_take_J7_fill_d0a16 : GoodIn wsX2_take wsJ7_fill_d0a16 := goodIn_r _ [12] (by decide +kernel) (by decide +kernel)
set_option maxRecDepth 20000 in
theorem gX2_take_J7_fill_d0a16 : GoodIn wsX2_take (va_wsS RX2 29 yJ7_fill_d0a16 wsJ7_fill_d0a16) := goodIn_app (goodIn_of _ (by decide +kernel)) ggX2_take_J7_fill_d0a16
set_option maxRecDepth 20000 in
theorem ggX2_take_X2_need : GoodIn wsX2_take wsX2_need := goodIn_r _ [17, 2, 28, 29, 30] (by decide +kernel) (by decide +kernel)
set_option maxRecDepth 20000 in
theorem gX2_take_X2_need : GoodIn wsX2_take (wsV RX2 35 RX2 yX2_need wsX2_need) := goodIn_app (goodIn_of _ (by decide +kernel)) ggX2_take_X2_need
set_option maxRecDepth 20000 in
theorem ggX2_take_X2_isNeeded : GoodIn wsX2_take wsX2_isNeeded := goodIn_r _ [21, 2, 28, 29, 30] (by decide +kernel) (by decide +kernel)
set_option maxRecDepth 20000 in
theorem gX2_take_X2_isNeeded : GoodIn wsX2_take (wsV RX2 45 RX2 yX2_isNeeded wsX2_isNeeded) := goodIn_app (goodIn_of _ (by decide +kernel)) ggX2_take_X2_isNeeded
set_option maxRecDepth 20000 in
theorem ggX2_take_X1_firstPremiseOf : GoodIn wsX2_take wsX1_firstPremiseOf := goodIn_r _ [24, 8, 31, 32, 33, 34, 35, 36, 37, 38] (by decide +kernel) (by decide +kernel)
set_option maxRecDepth 20000 in
theorem gX2_take_X1_firstPremiseOf_n48 : GoodIn wsX2_take (wsX1_firstPremiseOf) := ggX2_take_X1_firstPremiseOf
set_option maxRecDepth 20000 in
theorem ggX2_take_X1_secondPremiseOf : GoodIn wsX2_take wsX1_secondPremiseOf := goodIn_r _ [27, 8, 31, 32, 33, 34, 35, 36, 37, 38] (by decide +kernel) (by decide +kernel)
set_option maxRecDepth 20000 in
theorem gX2_take_X1_secondPremiseOf_n52 : GoodIn wsX2_take (wsX1_secondPremiseOf) := ggX2_take_X1_secondPremiseOf
theorem dX2_take_0 : decode cX2_take 0 = .ok (.aload_n 0, 1) := by decide +kernel
theorem dX2_take_1 : decode cX2_take 1 = .ok (.iconst 0, 1) := by decide +kernel
theorem dX2_take_2 : decode cX2_take 2 = .ok (.putfield 19, 3) := by decide +kernel
theorem dX2_take_5 : decode cX2_take 5 = .ok (.aload_n 1, 1) := by decide +kernel
theorem dX2_take_6 : decode cX2_take 6 = .ok (.iload_n 2, 1) := by decide +kernel
theorem dX2_take_7 : decode cX2_take 7 = .ok (.invokevirtual 23, 3) := by decide +kernel
theorem dX2_take_10 : decode cX2_take 10 = .ok (.ifCond .ne 4, 3) := by decide +kernel
theorem dX2_take_13 : decode cX2_take 13 = .ok (.return_, 1) := by decide +kernel
theorem dX2_take_14 : decode cX2_take 14 = .ok (.aload_n 0, 1) := by decide +kernel
theorem dX2_take_15 : decode cX2_take 15 = .ok (.getfield 15, 3) := by decide +kernel
theorem dX2_take_18 : decode cX2_take 18 = .ok (.lconst 0, 1) := by decide +kernel
theorem dX2_take_19 : decode cX2_take 19 = .ok (.invokestatic 29, 3) := by decide +kernel
theorem dX2_take_22 : decode cX2_take 22 = .ok (.aload_n 0, 1) := by decide +kernel
theorem dX2_take_23 : decode cX2_take 23 = .ok (.iload_n 2, 1) := by decide +kernel
theorem dX2_take_24 : decode cX2_take 24 = .ok (.invokevirtual 35, 3) := by decide +kernel
theorem dX2_take_27 : decode cX2_take 27 = .ok (.aload_n 1, 1) := by decide +kernel
theorem dX2_take_28 : decode cX2_take 28 = .ok (.getfield 39, 3) := by decide +kernel
theorem dX2_take_31 : decode cX2_take 31 = .ok (.iconst 1, 1) := by decide +kernel
theorem dX2_take_32 : decode cX2_take 32 = .ok (.isub, 1) := by decide +kernel
theorem dX2_take_33 : decode cX2_take 33 = .ok (.istore_n 3, 1) := by decide +kernel
theorem dX2_take_34 : decode cX2_take 34 = .ok (.iload_n 3, 1) := by decide +kernel
theorem dX2_take_35 : decode cX2_take 35 = .ok (.ifCond .lt 50, 3) := by decide +kernel
theorem dX2_take_38 : decode cX2_take 38 = .ok (.aload_n 0, 1) := by decide +kernel
theorem dX2_take_39 : decode cX2_take 39 = .ok (.aload_n 1, 1) := by decide +kernel
theorem dX2_take_40 : decode cX2_take 40 = .ok (.getfield 42, 3) := by decide +kernel
theorem dX2_take_43 : decode cX2_take 43 = .ok (.iload_n 3, 1) := by decide +kernel
theorem dX2_take_44 : decode cX2_take 44 = .ok (.iaload, 1) := by decide +kernel
theorem dX2_take_45 : decode cX2_take 45 = .ok (.invokevirtual 45, 3) := by decide +kernel
theorem dX2_take_48 : decode cX2_take 48 = .ok (.ifCond .eq 31, 3) := by decide +kernel
theorem dX2_take_51 : decode cX2_take 51 = .ok (.aload_n 0, 1) := by decide +kernel
theorem dX2_take_52 : decode cX2_take 52 = .ok (.aload_n 1, 1) := by decide +kernel
theorem dX2_take_53 : decode cX2_take 53 = .ok (.aload_n 1, 1) := by decide +kernel
theorem dX2_take_54 : decode cX2_take 54 = .ok (.getfield 42, 3) := by decide +kernel
theorem dX2_take_57 : decode cX2_take 57 = .ok (.iload_n 3, 1) := by decide +kernel
theorem dX2_take_58 : decode cX2_take 58 = .ok (.iaload, 1) := by decide +kernel
theorem dX2_take_59 : decode cX2_take 59 = .ok (.invokevirtual 48, 3) := by decide +kernel
theorem dX2_take_62 : decode cX2_take 62 = .ok (.invokevirtual 35, 3) := by decide +kernel
theorem dX2_take_65 : decode cX2_take 65 = .ok (.aload_n 0, 1) := by decide +kernel
theorem dX2_take_66 : decode cX2_take 66 = .ok (.aload_n 1, 1) := by decide +kernel
theorem dX2_take_67 : decode cX2_take 67 = .ok (.aload_n 1, 1) := by decide +kernel
theorem dX2_take_68 : decode cX2_take 68 = .ok (.getfield 42, 3) := by decide +kernel
theorem dX2_take_71 : decode cX2_take 71 = .ok (.iload_n 3, 1) := by decide +kernel
theorem dX2_take_72 : decode cX2_take 72 = .ok (.iaload, 1) := by decide +kernel
theorem dX2_take_73 : decode cX2_take 73 = .ok (.invokevirtual 52, 3) := by decide +kernel
theorem dX2_take_76 : decode cX2_take 76 = .ok (.invokevirtual 35, 3) := by decide +kernel
theorem dX2_take_79 : decode cX2_take 79 = .ok (.iinc 3 (-1), 3) := by decide +kernel
theorem dX2_take_82 : decode cX2_take 82 = .ok (.goto (-48), 3) := by decide +kernel
theorem dX2_take_85 : decode cX2_take 85 = .ok (.iconst 0, 1) := by decide +kernel
theorem dX2_take_86 : decode cX2_take 86 = .ok (.istore_n 3, 1) := by decide +kernel
theorem dX2_take_87 : decode cX2_take 87 = .ok (.iload_n 3, 1) := by decide +kernel
theorem dX2_take_88 : decode cX2_take 88 = .ok (.aload_n 1, 1) := by decide +kernel
theorem dX2_take_89 : decode cX2_take 89 = .ok (.getfield 39, 3) := by decide +kernel
theorem dX2_take_92 : decode cX2_take 92 = .ok (.if_icmp .ge 47, 3) := by decide +kernel
theorem dX2_take_95 : decode cX2_take 95 = .ok (.aload_n 0, 1) := by decide +kernel
theorem dX2_take_96 : decode cX2_take 96 = .ok (.aload_n 1, 1) := by decide +kernel
theorem dX2_take_97 : decode cX2_take 97 = .ok (.getfield 42, 3) := by decide +kernel
theorem dX2_take_100 : decode cX2_take 100 = .ok (.iload_n 3, 1) := by decide +kernel
theorem dX2_take_101 : decode cX2_take 101 = .ok (.iaload, 1) := by decide +kernel
theorem dX2_take_102 : decode cX2_take 102 = .ok (.invokevirtual 45, 3) := by decide +kernel
theorem dX2_take_105 : decode cX2_take 105 = .ok (.ifCond .eq 28, 3) := by decide +kernel
theorem dX2_take_108 : decode cX2_take 108 = .ok (.aload_n 0, 1) := by decide +kernel
theorem dX2_take_109 : decode cX2_take 109 = .ok (.getfield 9, 3) := by decide +kernel
theorem dX2_take_112 : decode cX2_take 112 = .ok (.aload_n 0, 1) := by decide +kernel
theorem dX2_take_113 : decode cX2_take 113 = .ok (.getfield 19, 3) := by decide +kernel
theorem dX2_take_116 : decode cX2_take 116 = .ok (.aload_n 1, 1) := by decide +kernel
theorem dX2_take_117 : decode cX2_take 117 = .ok (.getfield 42, 3) := by decide +kernel
theorem dX2_take_120 : decode cX2_take 120 = .ok (.iload_n 3, 1) := by decide +kernel
theorem dX2_take_121 : decode cX2_take 121 = .ok (.iaload, 1) := by decide +kernel
theorem dX2_take_122 : decode cX2_take 122 = .ok (.iastore, 1) := by decide +kernel
theorem dX2_take_123 : decode cX2_take 123 = .ok (.aload_n 0, 1) := by decide +kernel
theorem dX2_take_124 : decode cX2_take 124 = .ok (.dup, 1) := by decide +kernel
theorem dX2_take_125 : decode cX2_take 125 = .ok (.getfield 19, 3) := by decide +kernel
theorem dX2_take_128 : decode cX2_take 128 = .ok (.iconst 1, 1) := by decide +kernel
theorem dX2_take_129 : decode cX2_take 129 = .ok (.iadd, 1) := by decide +kernel
theorem dX2_take_130 : decode cX2_take 130 = .ok (.putfield 19, 3) := by decide +kernel
theorem dX2_take_133 : decode cX2_take 133 = .ok (.iinc 3 1, 3) := by decide +kernel
theorem dX2_take_136 : decode cX2_take 136 = .ok (.goto (-49), 3) := by decide +kernel
theorem dX2_take_139 : decode cX2_take 139 = .ok (.return_, 1) := by decide +kernel
theorem dX2_need_0 : decode cX2_need 0 = .ok (.iload_n 1, 1) := by decide +kernel
theorem dX2_need_1 : decode cX2_need 1 = .ok (.ifCond .lt 28, 3) := by decide +kernel
theorem dX2_need_4 : decode cX2_need 4 = .ok (.iload_n 1, 1) := by decide +kernel
theorem dX2_need_5 : decode cX2_need 5 = .ok (.sipush 4032, 3) := by decide +kernel
theorem dX2_need_8 : decode cX2_need 8 = .ok (.if_icmp .ge 21, 3) := by decide +kernel
theorem dX2_need_11 : decode cX2_need 11 = .ok (.aload_n 0, 1) := by decide +kernel
theorem dX2_need_12 : decode cX2_need 12 = .ok (.getfield 15, 3) := by decide +kernel
theorem dX2_need_15 : decode cX2_need 15 = .ok (.iload_n 1, 1) := by decide +kernel
theorem dX2_need_16 : decode cX2_need 16 = .ok (.bipush 6, 2) := by decide +kernel
theorem dX2_need_18 : decode cX2_need 18 = .ok (.ishr, 1) := by decide +kernel
theorem dX2_need_19 : decode cX2_need 19 = .ok (.dup2, 1) := by decide +kernel
theorem dX2_need_20 : decode cX2_need 20 = .ok (.laload, 1) := by decide +kernel
theorem dX2_need_21 : decode cX2_need 21 = .ok (.lconst 1, 1) := by decide +kernel
theorem dX2_need_22 : decode cX2_need 22 = .ok (.iload_n 1, 1) := by decide +kernel
theorem dX2_need_23 : decode cX2_need 23 = .ok (.bipush 63, 2) := by decide +kernel
theorem dX2_need_25 : decode cX2_need 25 = .ok (.iand, 1) := by decide +kernel
theorem dX2_need_26 : decode cX2_need 26 = .ok (.lshl, 1) := by decide +kernel
theorem dX2_need_27 : decode cX2_need 27 = .ok (.lor, 1) := by decide +kernel
theorem dX2_need_28 : decode cX2_need 28 = .ok (.lastore, 1) := by decide +kernel
theorem dX2_need_29 : decode cX2_need 29 = .ok (.return_, 1) := by decide +kernel
theorem dX2_isNeeded_0 : decode cX2_isNeeded 0 = .ok (.aload_n 0, 1) := by decide +kernel
theorem dX2_isNeeded_1 : decode cX2_isNeeded 1 = .ok (.getfield 15, 3) := by decide +kernel
theorem dX2_isNeeded_4 : decode cX2_isNeeded 4 = .ok (.iload_n 1, 1) := by decide +kernel
theorem dX2_isNeeded_5 : decode cX2_isNeeded 5 = .ok (.bipush 6, 2) := by decide +kernel
theorem dX2_isNeeded_7 : decode cX2_isNeeded 7 = .ok (.ishr, 1) := by decide +kernel
theorem dX2_isNeeded_8 : decode cX2_isNeeded 8 = .ok (.laload, 1) := by decide +kernel
theorem dX2_isNeeded_9 : decode cX2_isNeeded 9 = .ok (.iload_n 1, 1) := by decide +kernel
theorem dX2_isNeeded_10 : decode cX2_isNeeded 10 = .ok (.bipush 63, 2) := by decide +kernel
theorem dX2_isNeeded_12 : decode cX2_isNeeded 12 = .ok (.iand, 1) := by decide +kernel
theorem dX2_isNeeded_13 : decode cX2_isNeeded 13 = .ok (.lshr, 1) := by decide +kernel
theorem dX2_isNeeded_14 : decode cX2_isNeeded 14 = .ok (.lconst 1, 1) := by decide +kernel
theorem dX2_isNeeded_15 : decode cX2_isNeeded 15 = .ok (.land, 1) := by decide +kernel
theorem dX2_isNeeded_16 : decode cX2_isNeeded 16 = .ok (.lconst 0, 1) := by decide +kernel
theorem dX2_isNeeded_17 : decode cX2_isNeeded 17 = .ok (.lcmp, 1) := by decide +kernel
theorem dX2_isNeeded_18 : decode cX2_isNeeded 18 = .ok (.ifCond .eq 7, 3) := by decide +kernel
theorem dX2_isNeeded_21 : decode cX2_isNeeded 21 = .ok (.iconst 1, 1) := by decide +kernel
theorem dX2_isNeeded_22 : decode cX2_isNeeded 22 = .ok (.goto 4, 3) := by decide +kernel
theorem dX2_isNeeded_25 : decode cX2_isNeeded 25 = .ok (.iconst 0, 1) := by decide +kernel
theorem dX2_isNeeded_26 : decode cX2_isNeeded 26 = .ok (.ireturn, 1) := by decide +kernel
set_option maxRecDepth 20000 in
theorem ggX3_init_X0_init : GoodIn wsX3_init wsX0_init := goodIn_r _ [19, 20, 2, 3, 21, 22, 23, 24, 25, 26, 45, 46, 47, 48, 49] (by decide +kernel) (by decide +kernel)
set_option maxRecDepth 20000 in
theorem gX3_init_X0_init_n11 : GoodIn wsX3_init (wsX0_init) := ggX3_init_X0_init
set_option maxRecDepth 20000 in
theorem ggX3_init_X1_init : GoodIn wsX3_init wsX1_init := goodIn_r _ [28, 29, 2, 3, 21, 30, 31, 32, 33, 34, 35, 36, 37, 38, 55, 56, 57, 58, 59, 60, 61, 62] (by decide +kernel) (by decide +kernel)
set_option maxRecDepth 20000 in
theorem gX3_init_X1_init_n18 : GoodIn wsX3_init (wsX1_init) := ggX3_init_X1_init
set_option maxRecDepth 20000 in
theorem ggX3_init_X2_init : GoodIn wsX3_init wsX2_init := goodIn_r _ [40, 41, 2, 3, 21, 42, 32, 43, 44, 63, 64, 65] (by decide +kernel) (by decide +kernel)
set_option maxRecDepth 20000 in
theorem gX3_init_X2_init_n25 : GoodIn wsX3_init (wsX2_init) := ggX3_init_X2_init
theorem dX3_init_0 : decode cX3_init 0 = .ok (.aload_n 0, 1) := by decide +kernel
theorem dX3_init_1 : decode cX3_init 1 = .ok (.invokespecial 3, 3) := by decide +kernel
theorem dX3_init_4 : decode cX3_init 4 = .ok (.aload_n 0, 1) := by decide +kernel
theorem dX3_init_5 : decode cX3_init 5 = .ok (.new 9, 3) := by decide +kernel
theorem dX3_init_8 : decode cX3_init 8 = .ok (.dup, 1) := by decide +kernel
theorem dX3_init_9 : decode cX3_init 9 = .ok (.invokespecial 11, 3) := by decide +kernel
theorem dX3_init_12 : decode cX3_init 12 = .ok (.putfield 12, 3) := by decide +kernel
theorem dX3_init_15 : decode cX3_init 15 = .ok (.aload_n 0, 1) := by decide +kernel
theorem dX3_init_16 : decode cX3_init 16 = .ok (.new 16, 3) := by decide +kernel
theorem dX3_init_19 : decode cX3_init 19 = .ok (.dup, 1) := by decide +kernel
theorem dX3_init_20 : decode cX3_init 20 = .ok (.invokespecial 18, 3) := by decide +kernel
theorem dX3_init_23 : decode cX3_init 23 = .ok (.putfield 19, 3) := by decide +kernel
theorem dX3_init_26 : decode cX3_init 26 = .ok (.aload_n 0, 1) := by decide +kernel
theorem dX3_init_27 : decode cX3_init 27 = .ok (.new 23, 3) := by decide +kernel
theorem dX3_init_30 : decode cX3_init 30 = .ok (.dup, 1) := by decide +kernel
theorem dX3_init_31 : decode cX3_init 31 = .ok (.invokespecial 25, 3) := by decide +kernel
theorem dX3_init_34 : decode cX3_init 34 = .ok (.putfield 26, 3) := by decide +kernel
theorem dX3_init_37 : decode cX3_init 37 = .ok (.aload_n 0, 1) := by decide +kernel
theorem dX3_init_38 : decode cX3_init 38 = .ok (.iconst 2, 1) := by decide +kernel
theorem dX3_init_39 : decode cX3_init 39 = .ok (.putfield 30, 3) := by decide +kernel
theorem dX3_init_42 : decode cX3_init 42 = .ok (.aload_n 0, 1) := by decide +kernel
theorem dX3_init_43 : decode cX3_init 43 = .ok (.iconst 1, 1) := by decide +kernel
theorem dX3_init_44 : decode cX3_init 44 = .ok (.putfield 34, 3) := by decide +kernel
theorem dX3_init_47 : decode cX3_init 47 = .ok (.return_, 1) := by decide +kernel
theorem dX3_grow_0 : decode cX3_grow 0 = .ok (.aload_n 0, 1) := by decide +kernel
theorem dX3_grow_1 : decode cX3_grow 1 = .ok (.getfield 30, 3) := by decide +kernel
theorem dX3_grow_4 : decode cX3_grow 4 = .ok (.bipush 24, 2) := by decide +kernel
theorem dX3_grow_6 : decode cX3_grow 6 = .ok (.if_icmp .lt 6, 3) := by decide +kernel
theorem dX3_grow_9 : decode cX3_grow 9 = .ok (.bipush (-2), 2) := by decide +kernel
theorem dX3_grow_11 : decode cX3_grow 11 = .ok (.ireturn, 1) := by decide +kernel
theorem dX3_grow_12 : decode cX3_grow 12 = .ok (.aload_n 0, 1) := by decide +kernel
theorem dX3_grow_13 : decode cX3_grow 13 = .ok (.iconst 1, 1) := by decide +kernel
theorem dX3_grow_14 : decode cX3_grow 14 = .ok (.putfield 34, 3) := by decide +kernel
theorem dX3_grow_17 : decode cX3_grow 17 = .ok (.aload_n 0, 1) := by decide +kernel
theorem dX3_grow_18 : decode cX3_grow 18 = .ok (.dup, 1) := by decide +kernel
theorem dX3_grow_19 : decode cX3_grow 19 = .ok (.getfield 30, 3) := by decide +kernel
theorem dX3_grow_22 : decode cX3_grow 22 = .ok (.iconst 1, 1) := by decide +kernel
theorem dX3_grow_23 : decode cX3_grow 23 = .ok (.iadd, 1) := by decide +kernel
theorem dX3_grow_24 : decode cX3_grow 24 = .ok (.putfield 30, 3) := by decide +kernel
theorem dX3_grow_27 : decode cX3_grow 27 = .ok (.aload_n 0, 1) := by decide +kernel
theorem dX3_grow_28 : decode cX3_grow 28 = .ok (.getfield 30, 3) := by decide +kernel
theorem dX3_grow_31 : decode cX3_grow 31 = .ok (.iconst 1, 1) := by decide +kernel
theorem dX3_grow_32 : decode cX3_grow 32 = .ok (.isub, 1) := by decide +kernel
theorem dX3_grow_33 : decode cX3_grow 33 = .ok (.ireturn, 1) := by decide +kernel
set_option maxRecDepth 20000 in
theorem ggX3_axiom_X3_isAxiom : GoodIn wsX3_axiom wsX3_isAxiom := goodIn_r _ [7, 8, 9, 10, 6, 11, 12, 13, 14, 15, 25, 26, 27, 28, 29] (by decide +kernel) (by decide +kernel)
set_option maxRecDepth 20000 in
theorem gX3_axiom_X3_isAxiom : GoodIn wsX3_axiom (wsV RX3 38 RX3 yX3_isAxiom wsX3_isAxiom) := goodIn_app (goodIn_of _ (by decide +kernel)) ggX3_axiom_X3_isAxiom
set_option maxRecDepth 20000 in
theorem ggX3_axiom_X0_append : GoodIn wsX3_axiom wsX0_append := goodIn_r _ [19, 20, 21, 22, 23, 24, 30, 31, 32, 33, 34] (by decide +kernel) (by decide +kernel)
set_option maxRecDepth 20000 in
theorem gX3_axiom_X0_append_n45 : GoodIn wsX3_axiom (wsX0_append) := ggX3_axiom_X0_append
theorem dX3_axiom_0 : decode cX3_axiom 0 = .ok (.aload_n 0, 1) := by decide +kernel
theorem dX3_axiom_1 : decode cX3_axiom 1 = .ok (.iload_n 1, 1) := by decide +kernel
theorem dX3_axiom_2 : decode cX3_axiom 2 = .ok (.iload_n 2, 1) := by decide +kernel
theorem dX3_axiom_3 : decode cX3_axiom 3 = .ok (.iload_n 3, 1) := by decide +kernel
theorem dX3_axiom_4 : decode cX3_axiom 4 = .ok (.iload 4, 2) := by decide +kernel
theorem dX3_axiom_6 : decode cX3_axiom 6 = .ok (.invokevirtual 38, 3) := by decide +kernel
theorem dX3_axiom_9 : decode cX3_axiom 9 = .ok (.ifCond .ne 5, 3) := by decide +kernel
theorem dX3_axiom_12 : decode cX3_axiom 12 = .ok (.iconst (-1), 1) := by decide +kernel
theorem dX3_axiom_13 : decode cX3_axiom 13 = .ok (.ireturn, 1) := by decide +kernel
theorem dX3_axiom_14 : decode cX3_axiom 14 = .ok (.aload_n 0, 1) := by decide +kernel
theorem dX3_axiom_15 : decode cX3_axiom 15 = .ok (.getfield 12, 3) := by decide +kernel
theorem dX3_axiom_18 : decode cX3_axiom 18 = .ok (.getfield 42, 3) := by decide +kernel
theorem dX3_axiom_21 : decode cX3_axiom 21 = .ok (.bipush 80, 2) := by decide +kernel
theorem dX3_axiom_23 : decode cX3_axiom 23 = .ok (.if_icmp .lt 6, 3) := by decide +kernel
theorem dX3_axiom_26 : decode cX3_axiom 26 = .ok (.bipush (-2), 2) := by decide +kernel
theorem dX3_axiom_28 : decode cX3_axiom 28 = .ok (.ireturn, 1) := by decide +kernel
theorem dX3_axiom_29 : decode cX3_axiom 29 = .ok (.aload_n 0, 1) := by decide +kernel
theorem dX3_axiom_30 : decode cX3_axiom 30 = .ok (.iconst 1, 1) := by decide +kernel
theorem dX3_axiom_31 : decode cX3_axiom 31 = .ok (.putfield 34, 3) := by decide +kernel
theorem dX3_axiom_34 : decode cX3_axiom 34 = .ok (.aload_n 0, 1) := by decide +kernel
theorem dX3_axiom_35 : decode cX3_axiom 35 = .ok (.getfield 12, 3) := by decide +kernel
theorem dX3_axiom_38 : decode cX3_axiom 38 = .ok (.iload_n 1, 1) := by decide +kernel
theorem dX3_axiom_39 : decode cX3_axiom 39 = .ok (.iload_n 2, 1) := by decide +kernel
theorem dX3_axiom_40 : decode cX3_axiom 40 = .ok (.iload_n 3, 1) := by decide +kernel
theorem dX3_axiom_41 : decode cX3_axiom 41 = .ok (.iload 4, 2) := by decide +kernel
theorem dX3_axiom_43 : decode cX3_axiom 43 = .ok (.invokevirtual 45, 3) := by decide +kernel
theorem dX3_axiom_46 : decode cX3_axiom 46 = .ok (.ireturn, 1) := by decide +kernel
set_option maxRecDepth 20000 in
theorem ggX3_drop_X0_remove : GoodIn wsX3_drop wsX0_remove := goodIn_r _ [6, 7, 8, 9, 10, 11, 12, 13, 14, 4, 15, 16, 17, 18, 19, 25, 26, 27, 28, 29] (by decide +kernel) (by decide +kernel)
set_option maxRecDepth 20000 in
theorem gX3_drop_X0_remove_n49 : GoodIn wsX3_drop (wsX0_remove) := ggX3_drop_X0_remove
theorem dX3_drop_0 : decode cX3_drop 0 = .ok (.iload_n 1, 1) := by decide +kernel
theorem dX3_drop_1 : decode cX3_drop 1 = .ok (.ifCond .lt 14, 3) := by decide +kernel
theorem dX3_drop_4 : decode cX3_drop 4 = .ok (.iload_n 1, 1) := by decide +kernel
theorem dX3_drop_5 : decode cX3_drop 5 = .ok (.aload_n 0, 1) := by decide +kernel
theorem dX3_drop_6 : decode cX3_drop 6 = .ok (.getfield 12, 3) := by decide +kernel
theorem dX3_drop_9 : decode cX3_drop 9 = .ok (.getfield 42, 3) := by decide +kernel
theorem dX3_drop_12 : decode cX3_drop 12 = .ok (.if_icmp .lt 5, 3) := by decide +kernel
theorem dX3_drop_15 : decode cX3_drop 15 = .ok (.iconst (-1), 1) := by decide +kernel
theorem dX3_drop_16 : decode cX3_drop 16 = .ok (.ireturn, 1) := by decide +kernel
theorem dX3_drop_17 : decode cX3_drop 17 = .ok (.aload_n 0, 1) := by decide +kernel
theorem dX3_drop_18 : decode cX3_drop 18 = .ok (.iconst 1, 1) := by decide +kernel
theorem dX3_drop_19 : decode cX3_drop 19 = .ok (.putfield 34, 3) := by decide +kernel
theorem dX3_drop_22 : decode cX3_drop 22 = .ok (.aload_n 0, 1) := by decide +kernel
theorem dX3_drop_23 : decode cX3_drop 23 = .ok (.getfield 12, 3) := by decide +kernel
theorem dX3_drop_26 : decode cX3_drop 26 = .ok (.iload_n 1, 1) := by decide +kernel
theorem dX3_drop_27 : decode cX3_drop 27 = .ok (.invokevirtual 49, 3) := by decide +kernel
theorem dX3_drop_30 : decode cX3_drop 30 = .ok (.ireturn, 1) := by decide +kernel
set_option maxRecDepth 20000 in
theorem ggX3_sub_X3_isClass : GoodIn wsX3_sub wsX3_isClass := goodIn_r _ [5, 6, 95, 96, 97, 98, 99] (by decide +kernel) (by decide +kernel)
set_option maxRecDepth 20000 in
theorem gX3_sub_X3_isClass : GoodIn wsX3_sub (wsV RX3 53 RX3 yX3_isClass wsX3_isClass) := goodIn_app (goodIn_of _ (by decide +kernel)) ggX3_sub_X3_isClass
set_option maxRecDepth 20000 in
theorem ggX3_sub_X3_closed : GoodIn wsX3_sub wsX3_closed := goodIn_r _ [10, 11, 12, 13, 6, 14, 15, 16, 17, 18, 19, 20, 21, 22, 23, 24, 25, 26, 27, 28, 29, 30, 31, 32, 33, 34, 35, 36, 37, 38, 39, 40, 41, 42, 43, 44, 45, 46, 47, 48, 49, 4, 50, 51, 52, 53, 54, 55, 56, 57, 58, 59, 60, 61, 62, 63, 64, 65, 66, 67, 68, 69, 70, 71, 72, 73, 74, 75, 76, 77, 78, 79, 80, 81, 82, 83, 84, 85, 86, 87, 88, 89, 90, 91, 95, 96, 97, 98, 99, 100, 101, 102, 103, 104, 105, 106, 107, 108, 109, 110, 111, 112] (by decide +kernel) (by decide +kernel)
set_option maxRecDepth 20000 in
theorem gX3_sub_X3_closed : GoodIn wsX3_sub (wsV RX3 57 RX3 yX3_closed wsX3_closed) := goodIn_app (goodIn_of _ (by decide +kernel)) ggX3_sub_X3_closed
set_option maxRecDepth 20000 in
theorem ggX3_sub_X1_has : GoodIn wsX3_sub wsX1_has := goodIn_r _ [94, 19, 49, 4, 50, 100, 101, 102, 103, 104, 105, 106, 107] (by decide +kernel) (by decide +kernel)
set_option maxRecDepth 20000 in
theorem gX3_sub_X1_has_n61 : GoodIn wsX3_sub (wsX1_has) := ggX3_sub_X1_has
theorem dX3_sub_0 : decode cX3_sub 0 = .ok (.aload_n 0, 1) := by decide +kernel
theorem dX3_sub_1 : decode cX3_sub 1 = .ok (.iload_n 1, 1) := by decide +kernel
theorem dX3_sub_2 : decode cX3_sub 2 = .ok (.invokevirtual 53, 3) := by decide +kernel
theorem dX3_sub_5 : decode cX3_sub 5 = .ok (.ifCond .eq 11, 3) := by decide +kernel
theorem dX3_sub_8 : decode cX3_sub 8 = .ok (.aload_n 0, 1) := by decide +kernel
theorem dX3_sub_9 : decode cX3_sub 9 = .ok (.iload_n 2, 1) := by decide +kernel
theorem dX3_sub_10 : decode cX3_sub 10 = .ok (.invokevirtual 53, 3) := by decide +kernel
theorem dX3_sub_13 : decode cX3_sub 13 = .ok (.ifCond .ne 5, 3) := by decide +kernel
theorem dX3_sub_16 : decode cX3_sub 16 = .ok (.iconst (-1), 1) := by decide +kernel
theorem dX3_sub_17 : decode cX3_sub 17 = .ok (.ireturn, 1) := by decide +kernel
theorem dX3_sub_18 : decode cX3_sub 18 = .ok (.aload_n 0, 1) := by decide +kernel
theorem dX3_sub_19 : decode cX3_sub 19 = .ok (.invokevirtual 57, 3) := by decide +kernel
theorem dX3_sub_22 : decode cX3_sub 22 = .ok (.iload_n 1, 1) := by decide +kernel
theorem dX3_sub_23 : decode cX3_sub 23 = .ok (.iload_n 2, 1) := by decide +kernel
theorem dX3_sub_24 : decode cX3_sub 24 = .ok (.invokevirtual 61, 3) := by decide +kernel
theorem dX3_sub_27 : decode cX3_sub 27 = .ok (.ifCond .eq 7, 3) := by decide +kernel
theorem dX3_sub_30 : decode cX3_sub 30 = .ok (.iconst 1, 1) := by decide +kernel
theorem dX3_sub_31 : decode cX3_sub 31 = .ok (.goto 4, 3) := by decide +kernel
theorem dX3_sub_34 : decode cX3_sub 34 = .ok (.iconst 0, 1) := by decide +kernel
theorem dX3_sub_35 : decode cX3_sub 35 = .ok (.ireturn, 1) := by decide +kernel
set_option maxRecDepth 20000 in
theorem ggX3_link_X3_isClass : GoodIn wsX3_link wsX3_isClass := goodIn_r _ [5, 6, 99, 100, 101, 102, 103] (by decide +kernel) (by decide +kernel)
set_option maxRecDepth 20000 in
theorem gX3_link_X3_isClass : GoodIn wsX3_link (wsV RX3 53 RX3 yX3_isClass wsX3_isClass) := goodIn_app (goodIn_of _ (by decide +kernel)) ggX3_link_X3_isClass
set_option maxRecDepth 20000 in
theorem ggX3_link_X3_isRole : GoodIn wsX3_link wsX3_isRole := goodIn_r _ [9] (by decide +kernel) (by decide +kernel)
set_option maxRecDepth 20000 in
theorem gX3_link_X3_isRole : GoodIn wsX3_link (va_wsS RX3 65 yX3_isRole wsX3_isRole) := goodIn_app (goodIn_of _ (by decide +kernel)) ggX3_link_X3_isRole
set_option maxRecDepth 20000 in
theorem ggX3_link_X3_closed : GoodIn wsX3_link wsX3_closed := goodIn_r _ [13, 14, 15, 16, 6, 17, 18, 19, 20, 21, 22, 23, 24, 25, 26, 27, 28, 29, 30, 31, 32, 33, 34, 35, 36, 37, 38, 39, 40, 41, 42, 43, 44, 45, 46, 47, 48, 49, 50, 51, 52, 4, 53, 54, 55, 56, 57, 58, 59, 60, 61, 62, 63, 64, 65, 66, 67, 68, 69, 70, 71, 72, 73, 74, 75, 76, 77, 78, 79, 80, 81, 82, 83, 84, 85, 86, 87, 88, 89, 90, 91, 92, 93, 94, 99, 100, 101, 102, 103, 104, 105, 106, 107, 108, 109, 110, 111, 112, 113, 114, 115, 116] (by decide +kernel) (by decide +kernel)
set_option maxRecDepth 20000 in
theorem gX3_link_X3_closed : GoodIn wsX3_link (wsV RX3 57 RX3 yX3_closed wsX3_closed) := goodIn_app (goodIn_of _ (by decide +kernel)) ggX3_link_X3_closed
set_option maxRecDepth 20000 in
theorem ggX3_link_X3_linkColumn : GoodIn wsX3_link wsX3_linkColumn := goodIn_r _ [61] (by decide +kernel) (by decide +kernel)
set_option maxRecDepth 20000 in
theorem gX3_link_X3_linkColumn : GoodIn wsX3_link (va_wsS RX3 68 yX3_linkColumn wsX3_linkColumn) := goodIn_app (goodIn_of _ (by decide +kernel)) ggX3_link_X3_linkColumn
set_option maxRecDepth 20000 in
theorem ggX3_link_X1_has : GoodIn wsX3_link wsX1_has := goodIn_r _ [98, 22, 52, 4, 53, 104, 105, 106, 107, 108, 109, 110, 111] (by decide +kernel) (by decide +kernel)
set_option maxRecDepth 20000 in
theorem gX3_link_X1_has_n61 : GoodIn wsX3_link (wsX1_has) := ggX3_link_X1_has
theorem dX3_link_0 : decode cX3_link 0 = .ok (.aload_n 0, 1) := by decide +kernel
theorem dX3_link_1 : decode cX3_link 1 = .ok (.iload_n 1, 1) := by decide +kernel
theorem dX3_link_2 : decode cX3_link 2 = .ok (.invokevirtual 53, 3) := by decide +kernel
theorem dX3_link_5 : decode cX3_link 5 = .ok (.ifCond .eq 18, 3) := by decide +kernel
theorem dX3_link_8 : decode cX3_link 8 = .ok (.iload_n 2, 1) := by decide +kernel
theorem dX3_link_9 : decode cX3_link 9 = .ok (.invokestatic 65, 3) := by decide +kernel
theorem dX3_link_12 : decode cX3_link 12 = .ok (.ifCond .eq 11, 3) := by decide +kernel
theorem dX3_link_15 : decode cX3_link 15 = .ok (.aload_n 0, 1) := by decide +kernel
theorem dX3_link_16 : decode cX3_link 16 = .ok (.iload_n 3, 1) := by decide +kernel
theorem dX3_link_17 : decode cX3_link 17 = .ok (.invokevirtual 53, 3) := by decide +kernel
theorem dX3_link_20 : decode cX3_link 20 = .ok (.ifCond .ne 5, 3) := by decide +kernel
theorem dX3_link_23 : decode cX3_link 23 = .ok (.iconst (-1), 1) := by decide +kernel
theorem dX3_link_24 : decode cX3_link 24 = .ok (.ireturn, 1) := by decide +kernel
theorem dX3_link_25 : decode cX3_link 25 = .ok (.aload_n 0, 1) := by decide +kernel
theorem dX3_link_26 : decode cX3_link 26 = .ok (.invokevirtual 57, 3) := by decide +kernel
theorem dX3_link_29 : decode cX3_link 29 = .ok (.iload_n 1, 1) := by decide +kernel
theorem dX3_link_30 : decode cX3_link 30 = .ok (.iload_n 2, 1) := by decide +kernel
theorem dX3_link_31 : decode cX3_link 31 = .ok (.iload_n 3, 1) := by decide +kernel
theorem dX3_link_32 : decode cX3_link 32 = .ok (.invokestatic 68, 3) := by decide +kernel
theorem dX3_link_35 : decode cX3_link 35 = .ok (.invokevirtual 61, 3) := by decide +kernel
theorem dX3_link_38 : decode cX3_link 38 = .ok (.ifCond .eq 7, 3) := by decide +kernel
theorem dX3_link_41 : decode cX3_link 41 = .ok (.iconst 1, 1) := by decide +kernel
theorem dX3_link_42 : decode cX3_link 42 = .ok (.goto 4, 3) := by decide +kernel
theorem dX3_link_45 : decode cX3_link 45 = .ok (.iconst 0, 1) := by decide +kernel
theorem dX3_link_46 : decode cX3_link 46 = .ok (.ireturn, 1) := by decide +kernel
set_option maxRecDepth 20000 in
theorem ggX3_rounds_X3_closed : GoodIn wsX3_rounds wsX3_closed := goodIn_r _ [5, 6, 7, 8, 9, 10, 11, 12, 13, 14, 15, 16, 17, 18, 19, 20, 21, 22, 23, 24, 25, 26, 27, 28, 29, 30, 31, 32, 33, 34, 35, 36, 37, 38, 39, 40, 41, 42, 43, 44, 45, 4, 46, 47, 48, 49, 50, 51, 52, 53, 54, 55, 56, 57, 58, 59, 60, 61, 62, 63, 64, 65, 66, 67, 68, 69, 70, 71, 72, 73, 74, 75, 76, 77, 78, 79, 80, 81, 82, 83, 84, 85, 86, 87, 96, 97, 98, 99, 100, 88, 89, 90, 91, 92, 93, 94, 95, 101, 102, 103, 104, 105] (by decide +kernel) (by decide +kernel)
set_option maxRecDepth 20000 in
theorem gX3_rounds_X3_closed : GoodIn wsX3_rounds (wsV RX3 57 RX3 yX3_closed wsX3_closed) := goodIn_app (goodIn_of _ (by decide +kernel)) ggX3_rounds_X3_closed
theorem dX3_rounds_0 : decode cX3_rounds 0 = .ok (.aload_n 0, 1) := by decide +kernel
theorem dX3_rounds_1 : decode cX3_rounds 1 = .ok (.invokevirtual 57, 3) := by decide +kernel
theorem dX3_rounds_4 : decode cX3_rounds 4 = .ok (.getfield 72, 3) := by decide +kernel
theorem dX3_rounds_7 : decode cX3_rounds 7 = .ok (.ireturn, 1) := by decide +kernel
set_option maxRecDepth 20000 in
theorem ggX3_facts_X3_closed : GoodIn wsX3_facts wsX3_closed := goodIn_r _ [5, 6, 7, 8, 9, 10, 11, 12, 13, 14, 15, 16, 17, 18, 19, 20, 21, 22, 23, 24, 25, 26, 27, 28, 29, 30, 31, 32, 33, 34, 35, 36, 37, 38, 39, 40, 41, 42, 43, 44, 45, 4, 46, 47, 48, 49, 50, 51, 52, 53, 54, 55, 56, 57, 58, 59, 60, 61, 62, 63, 64, 65, 66, 67, 68, 69, 70, 71, 72, 73, 74, 75, 76, 77, 78, 79, 80, 81, 82, 83, 84, 85, 86, 87, 96, 97, 98, 99, 100, 88, 89, 90, 91, 92, 93, 94, 95, 101, 102, 103, 104, 105] (by decide +kernel) (by decide +kernel)
set_option maxRecDepth 20000 in
theorem gX3_facts_X3_closed : GoodIn wsX3_facts (wsV RX3 57 RX3 yX3_closed wsX3_closed) := goodIn_app (goodIn_of _ (by decide +kernel)) ggX3_facts_X3_closed
theorem dX3_facts_0 : decode cX3_facts 0 = .ok (.aload_n 0, 1) := by decide +kernel
theorem dX3_facts_1 : decode cX3_facts 1 = .ok (.invokevirtual 57, 3) := by decide +kernel
theorem dX3_facts_4 : decode cX3_facts 4 = .ok (.getfield 75, 3) := by decide +kernel
theorem dX3_facts_7 : decode cX3_facts 7 = .ok (.ireturn, 1) := by decide +kernel
set_option maxRecDepth 20000 in
theorem ggX3_fact_X3_closed : GoodIn wsX3_fact wsX3_closed := goodIn_r _ [8, 9, 10, 11, 12, 13, 14, 15, 16, 17, 18, 19, 20, 21, 22, 23, 24, 25, 26, 27, 28, 29, 30, 31, 32, 33, 34, 35, 36, 37, 38, 39, 40, 41, 42, 43, 44, 45, 46, 47, 48, 7, 49, 50, 51, 52, 53, 54, 55, 56, 57, 58, 59, 60, 61, 62, 63, 64, 65, 66, 67, 68, 69, 70, 71, 72, 73, 74, 75, 76, 77, 78, 79, 80, 81, 82, 83, 84, 85, 86, 87, 88, 89, 90, 105, 106, 107, 108, 109, 91, 92, 93, 94, 95, 96, 97, 98, 110, 111, 112, 113, 114] (by decide +kernel) (by decide +kernel)
set_option maxRecDepth 20000 in
theorem gX3_fact_X3_closed : GoodIn wsX3_fact (wsV RX3 57 RX3 yX3_closed wsX3_closed) := goodIn_app (goodIn_of _ (by decide +kernel)) ggX3_fact_X3_closed
theorem dX3_fact_0 : decode cX3_fact 0 = .ok (.aload_n 0, 1) := by decide +kernel
theorem dX3_fact_1 : decode cX3_fact 1 = .ok (.invokevirtual 57, 3) := by decide +kernel
theorem dX3_fact_4 : decode cX3_fact 4 = .ok (.astore_n 2, 1) := by decide +kernel
theorem dX3_fact_5 : decode cX3_fact 5 = .ok (.iload_n 1, 1) := by decide +kernel
theorem dX3_fact_6 : decode cX3_fact 6 = .ok (.ifCond .lt 11, 3) := by decide +kernel
theorem dX3_fact_9 : decode cX3_fact 9 = .ok (.iload_n 1, 1) := by decide +kernel
theorem dX3_fact_10 : decode cX3_fact 10 = .ok (.aload_n 2, 1) := by decide +kernel
theorem dX3_fact_11 : decode cX3_fact 11 = .ok (.getfield 75, 3) := by decide +kernel
theorem dX3_fact_14 : decode cX3_fact 14 = .ok (.if_icmp .lt 13, 3) := by decide +kernel
theorem dX3_fact_17 : decode cX3_fact 17 = .ok (.new 78, 3) := by decide +kernel
theorem dX3_fact_20 : decode cX3_fact 20 = .ok (.dup, 1) := by decide +kernel
theorem dX3_fact_21 : decode cX3_fact 21 = .ok (.ldc 80, 2) := by decide +kernel
theorem dX3_fact_23 : decode cX3_fact 23 = .ok (.invokespecial 82, 3) := by decide +kernel
theorem dX3_fact_26 : decode cX3_fact 26 = .ok (.athrow, 1) := by decide +kernel
theorem dX3_fact_27 : decode cX3_fact 27 = .ok (.aload_n 2, 1) := by decide +kernel
theorem dX3_fact_28 : decode cX3_fact 28 = .ok (.getfield 85, 3) := by decide +kernel
theorem dX3_fact_31 : decode cX3_fact 31 = .ok (.iload_n 1, 1) := by decide +kernel
theorem dX3_fact_32 : decode cX3_fact 32 = .ok (.iaload, 1) := by decide +kernel
theorem dX3_fact_33 : decode cX3_fact 33 = .ok (.ireturn, 1) := by decide +kernel
set_option maxRecDepth 20000 in
theorem ggX3_told_X3_closed : GoodIn wsX3_told wsX3_closed := goodIn_r _ [5, 6, 7, 8, 9, 10, 11, 12, 13, 14, 15, 16, 17, 18, 19, 20, 21, 22, 23, 24, 25, 26, 27, 28, 29, 30, 31, 32, 33, 34, 35, 36, 37, 38, 39, 40, 41, 42, 43, 44, 45, 4, 46, 47, 48, 49, 50, 51, 52, 53, 54, 55, 56, 57, 58, 59, 60, 61, 62, 63, 64, 65, 66, 67, 68, 69, 70, 71, 72, 73, 74, 75, 76, 77, 78, 79, 80, 81, 82, 83, 84, 85, 86, 87, 103, 104, 105, 106, 107, 108, 109, 110, 111, 112, 113, 114, 115, 116, 117, 118, 119, 120] (by decide +kernel) (by decide +kernel)
set_option maxRecDepth 20000 in
theorem gX3_told_X3_closed : GoodIn wsX3_told (wsV RX3 57 RX3 yX3_closed wsX3_closed) := goodIn_app (goodIn_of _ (by decide +kernel)) ggX3_told_X3_closed
set_option maxRecDepth 20000 in
theorem ggX3_told_X1_follows : GoodIn wsX3_told wsX1_follows := goodIn_r _ [90, 25, 108, 109, 110, 111, 112, 113, 114, 115] (by decide +kernel) (by decide +kernel)
set_option maxRecDepth 20000 in
theorem gX3_told_X1_follows_n89 : GoodIn wsX3_told (wsX1_follows) := ggX3_told_X1_follows
set_option maxRecDepth 20000 in
theorem ggX3_told_X1_roundOf : GoodIn wsX3_told wsX1_roundOf := goodIn_r _ [93, 25, 108, 109, 110, 111, 112, 113, 114, 115] (by decide +kernel) (by decide +kernel)
set_option maxRecDepth 20000 in
theorem gX3_told_X1_roundOf_n92 : GoodIn wsX3_told (wsX1_roundOf) := ggX3_told_X1_roundOf
set_option maxRecDepth 20000 in
theorem ggX3_told_X1_axiomOf : GoodIn wsX3_told wsX1_axiomOf := goodIn_r _ [96, 25, 108, 109, 110, 111, 112, 113, 114, 115] (by decide +kernel) (by decide +kernel)
set_option maxRecDepth 20000 in
theorem gX3_told_X1_axiomOf_n95 : GoodIn wsX3_told (wsX1_axiomOf) := ggX3_told_X1_axiomOf
set_option maxRecDepth 20000 in
theorem ggX3_told_X1_firstPremiseOf : GoodIn wsX3_told wsX1_firstPremiseOf := goodIn_r _ [99, 25, 108, 109, 110, 111, 112, 113, 114, 115] (by decide +kernel) (by decide +kernel)
set_option maxRecDepth 20000 in
theorem gX3_told_X1_firstPremiseOf_n98 : GoodIn wsX3_told (wsX1_firstPremiseOf) := ggX3_told_X1_firstPremiseOf
set_option maxRecDepth 20000 in
theorem ggX3_told_X1_secondPremiseOf : GoodIn wsX3_told wsX1_secondPremiseOf := goodIn_r _ [102, 25, 108, 109, 110, 111, 112, 113, 114, 115] (by decide +kernel) (by decide +kernel)
set_option maxRecDepth 20000 in
theorem gX3_told_X1_secondPremiseOf_n101 : GoodIn wsX3_told (wsX1_secondPremiseOf) := ggX3_told_X1_secondPremiseOf
theorem dX3_told_0 : decode cX3_told 0 = .ok (.aload_n 0, 1) := by decide +kernel
theorem dX3_told_1 : decode cX3_told 1 = .ok (.invokevirtual 57, 3) := by decide +kernel
theorem dX3_told_4 : decode cX3_told 4 = .ok (.astore_n 3, 1) := by decide +kernel
theorem dX3_told_5 : decode cX3_told 5 = .ok (.aload_n 3, 1) := by decide +kernel
theorem dX3_told_6 : decode cX3_told 6 = .ok (.iload_n 1, 1) := by decide +kernel
theorem dX3_told_7 : decode cX3_told 7 = .ok (.invokevirtual 89, 3) := by decide +kernel
theorem dX3_told_10 : decode cX3_told 10 = .ok (.ifCond .ne 5, 3) := by decide +kernel
theorem dX3_told_13 : decode cX3_told 13 = .ok (.iconst (-1), 1) := by decide +kernel
theorem dX3_told_14 : decode cX3_told 14 = .ok (.ireturn, 1) := by decide +kernel
theorem dX3_told_15 : decode cX3_told 15 = .ok (.iload_n 2, 1) := by decide +kernel
theorem dX3_told_16 : decode cX3_told 16 = .ok (.tableswitch 56 0 3 #[32, 38, 44, 50], 32) := by decide +kernel
theorem dX3_told_48 : decode cX3_told 48 = .ok (.aload_n 3, 1) := by decide +kernel
theorem dX3_told_49 : decode cX3_told 49 = .ok (.iload_n 1, 1) := by decide +kernel
theorem dX3_told_50 : decode cX3_told 50 = .ok (.invokevirtual 92, 3) := by decide +kernel
theorem dX3_told_53 : decode cX3_told 53 = .ok (.ireturn, 1) := by decide +kernel
theorem dX3_told_54 : decode cX3_told 54 = .ok (.aload_n 3, 1) := by decide +kernel
theorem dX3_told_55 : decode cX3_told 55 = .ok (.iload_n 1, 1) := by decide +kernel
theorem dX3_told_56 : decode cX3_told 56 = .ok (.invokevirtual 95, 3) := by decide +kernel
theorem dX3_told_59 : decode cX3_told 59 = .ok (.ireturn, 1) := by decide +kernel
theorem dX3_told_60 : decode cX3_told 60 = .ok (.aload_n 3, 1) := by decide +kernel
theorem dX3_told_61 : decode cX3_told 61 = .ok (.iload_n 1, 1) := by decide +kernel
theorem dX3_told_62 : decode cX3_told 62 = .ok (.invokevirtual 98, 3) := by decide +kernel
theorem dX3_told_65 : decode cX3_told 65 = .ok (.ireturn, 1) := by decide +kernel
theorem dX3_told_66 : decode cX3_told 66 = .ok (.aload_n 3, 1) := by decide +kernel
theorem dX3_told_67 : decode cX3_told 67 = .ok (.iload_n 1, 1) := by decide +kernel
theorem dX3_told_68 : decode cX3_told 68 = .ok (.invokevirtual 101, 3) := by decide +kernel
theorem dX3_told_71 : decode cX3_told 71 = .ok (.ireturn, 1) := by decide +kernel
theorem dX3_told_72 : decode cX3_told 72 = .ok (.iconst (-1), 1) := by decide +kernel
theorem dX3_told_73 : decode cX3_told 73 = .ok (.ireturn, 1) := by decide +kernel
set_option maxRecDepth 20000 in
theorem ggX3_trace_X3_closed : GoodIn wsX3_trace wsX3_closed := goodIn_r _ [6, 7, 8, 9, 10, 11, 12, 13, 14, 15, 16, 17, 18, 19, 20, 21, 22, 23, 24, 25, 26, 27, 28, 29, 30, 31, 32, 33, 34, 35, 36, 37, 38, 39, 40, 41, 42, 43, 44, 45, 46, 5, 47, 48, 49, 50, 51, 52, 53, 54, 55, 56, 57, 58, 59, 60, 61, 62, 63, 64, 65, 66, 67, 68, 69, 70, 71, 72, 73, 74, 75, 76, 77, 78, 79, 80, 81, 82, 83, 84, 85, 86, 87, 88, 114, 115, 116, 117, 118, 122, 123, 124, 125, 126, 127, 128, 129, 130, 131, 132, 133, 134] (by decide +kernel) (by decide +kernel)
set_option maxRecDepth 20000 in
theorem gX3_trace_X3_closed : GoodIn wsX3_trace (wsV RX3 57 RX3 yX3_closed wsX3_closed) := goodIn_app (goodIn_of _ (by decide +kernel)) ggX3_trace_X3_closed
set_option maxRecDepth 20000 in
theorem ggX3_trace_X2_take : GoodIn wsX3_trace wsX2_take := goodIn_r _ [92, 93, 94, 95, 96, 12, 97, 98, 26, 99, 36, 33, 37, 100, 101, 102, 90, 103, 104, 105, 106, 107, 108, 109, 110, 111, 112, 113, 119, 120, 121, 122, 123, 124, 125, 126, 127, 128, 129] (by decide +kernel) (by decide +kernel)
set_option maxRecDepth 20000 in
theorem gX3_trace_X2_take_n104 : GoodIn wsX3_trace (wsX2_take) := ggX3_trace_X2_take
theorem dX3_trace_0 : decode cX3_trace 0 = .ok (.aload_n 0, 1) := by decide +kernel
theorem dX3_trace_1 : decode cX3_trace 1 = .ok (.getfield 26, 3) := by decide +kernel
theorem dX3_trace_4 : decode cX3_trace 4 = .ok (.aload_n 0, 1) := by decide +kernel
theorem dX3_trace_5 : decode cX3_trace 5 = .ok (.invokevirtual 57, 3) := by decide +kernel
theorem dX3_trace_8 : decode cX3_trace 8 = .ok (.iload_n 1, 1) := by decide +kernel
theorem dX3_trace_9 : decode cX3_trace 9 = .ok (.invokevirtual 104, 3) := by decide +kernel
theorem dX3_trace_12 : decode cX3_trace 12 = .ok (.aload_n 0, 1) := by decide +kernel
theorem dX3_trace_13 : decode cX3_trace 13 = .ok (.getfield 26, 3) := by decide +kernel
theorem dX3_trace_16 : decode cX3_trace 16 = .ok (.getfield 108, 3) := by decide +kernel
theorem dX3_trace_19 : decode cX3_trace 19 = .ok (.ireturn, 1) := by decide +kernel
theorem dX3_row_0 : decode cX3_row 0 = .ok (.iload_n 1, 1) := by decide +kernel
theorem dX3_row_1 : decode cX3_row 1 = .ok (.ifCond .lt 14, 3) := by decide +kernel
theorem dX3_row_4 : decode cX3_row 4 = .ok (.iload_n 1, 1) := by decide +kernel
theorem dX3_row_5 : decode cX3_row 5 = .ok (.aload_n 0, 1) := by decide +kernel
theorem dX3_row_6 : decode cX3_row 6 = .ok (.getfield 26, 3) := by decide +kernel
theorem dX3_row_9 : decode cX3_row 9 = .ok (.getfield 108, 3) := by decide +kernel
theorem dX3_row_12 : decode cX3_row 12 = .ok (.if_icmp .lt 5, 3) := by decide +kernel
theorem dX3_row_15 : decode cX3_row 15 = .ok (.iconst (-1), 1) := by decide +kernel
theorem dX3_row_16 : decode cX3_row 16 = .ok (.ireturn, 1) := by decide +kernel
theorem dX3_row_17 : decode cX3_row 17 = .ok (.aload_n 0, 1) := by decide +kernel
theorem dX3_row_18 : decode cX3_row 18 = .ok (.getfield 26, 3) := by decide +kernel
theorem dX3_row_21 : decode cX3_row 21 = .ok (.getfield 109, 3) := by decide +kernel
theorem dX3_row_24 : decode cX3_row 24 = .ok (.iload_n 1, 1) := by decide +kernel
theorem dX3_row_25 : decode cX3_row 25 = .ok (.iaload, 1) := by decide +kernel
theorem dX3_row_26 : decode cX3_row 26 = .ok (.ireturn, 1) := by decide +kernel
set_option maxRecDepth 20000 in
theorem ggX3_empty_X3_isClass : GoodIn wsX3_empty wsX3_isClass := goodIn_r _ [5, 6, 95, 96, 97, 98, 99] (by decide +kernel) (by decide +kernel)
set_option maxRecDepth 20000 in
theorem gX3_empty_X3_isClass : GoodIn wsX3_empty (wsV RX3 53 RX3 yX3_isClass wsX3_isClass) := goodIn_app (goodIn_of _ (by decide +kernel)) ggX3_empty_X3_isClass
set_option maxRecDepth 20000 in
theorem ggX3_empty_X3_closed : GoodIn wsX3_empty wsX3_closed := goodIn_r _ [10, 11, 12, 13, 6, 14, 15, 16, 17, 18, 19, 20, 21, 22, 23, 24, 25, 26, 27, 28, 29, 30, 31, 32, 33, 34, 35, 36, 37, 38, 39, 40, 41, 42, 43, 44, 45, 46, 47, 48, 49, 4, 50, 51, 52, 53, 54, 55, 56, 57, 58, 59, 60, 61, 62, 63, 64, 65, 66, 67, 68, 69, 70, 71, 72, 73, 74, 75, 76, 77, 78, 79, 80, 81, 82, 83, 84, 85, 86, 87, 88, 89, 90, 91, 95, 96, 97, 98, 99, 100, 101, 102, 103, 104, 105, 106, 107, 108, 109, 110, 111, 112] (by decide +kernel) (by decide +kernel)
set_option maxRecDepth 20000 in
theorem gX3_empty_X3_closed : GoodIn wsX3_empty (wsV RX3 57 RX3 yX3_closed wsX3_closed) := goodIn_app (goodIn_of _ (by decide +kernel)) ggX3_empty_X3_closed
set_option maxRecDepth 20000 in
theorem ggX3_empty_X1_has : GoodIn wsX3_empty wsX1_has := goodIn_r _ [94, 19, 49, 4, 50, 100, 101, 102, 103, 104, 105, 106, 107] (by decide +kernel) (by decide +kernel)
set_option maxRecDepth 20000 in
theorem gX3_empty_X1_has_n61 : GoodIn wsX3_empty (wsX1_has) := ggX3_empty_X1_has
theorem dX3_empty_0 : decode cX3_empty 0 = .ok (.aload_n 0, 1) := by decide +kernel
theorem dX3_empty_1 : decode cX3_empty 1 = .ok (.iload_n 1, 1) := by decide +kernel
theorem dX3_empty_2 : decode cX3_empty 2 = .ok (.invokevirtual 53, 3) := by decide +kernel
theorem dX3_empty_5 : decode cX3_empty 5 = .ok (.ifCond .ne 5, 3) := by decide +kernel
theorem dX3_empty_8 : decode cX3_empty 8 = .ok (.iconst (-1), 1) := by decide +kernel
theorem dX3_empty_9 : decode cX3_empty 9 = .ok (.ireturn, 1) := by decide +kernel
theorem dX3_empty_10 : decode cX3_empty 10 = .ok (.aload_n 0, 1) := by decide +kernel
theorem dX3_empty_11 : decode cX3_empty 11 = .ok (.invokevirtual 57, 3) := by decide +kernel
theorem dX3_empty_14 : decode cX3_empty 14 = .ok (.iload_n 1, 1) := by decide +kernel
theorem dX3_empty_15 : decode cX3_empty 15 = .ok (.iconst 1, 1) := by decide +kernel
theorem dX3_empty_16 : decode cX3_empty 16 = .ok (.invokevirtual 61, 3) := by decide +kernel
theorem dX3_empty_19 : decode cX3_empty 19 = .ok (.ifCond .eq 7, 3) := by decide +kernel
theorem dX3_empty_22 : decode cX3_empty 22 = .ok (.iconst 1, 1) := by decide +kernel
theorem dX3_empty_23 : decode cX3_empty 23 = .ok (.goto 4, 3) := by decide +kernel
theorem dX3_empty_26 : decode cX3_empty 26 = .ok (.iconst 0, 1) := by decide +kernel
theorem dX3_empty_27 : decode cX3_empty 27 = .ok (.ireturn, 1) := by decide +kernel
set_option maxRecDepth 20000 in
theorem ggX3_same_X3_isClass : GoodIn wsX3_same wsX3_isClass := goodIn_r _ [5, 6, 103, 104, 105, 106, 107] (by decide +kernel) (by decide +kernel)
set_option maxRecDepth 20000 in
theorem gX3_same_X3_isClass : GoodIn wsX3_same (wsV RX3 53 RX3 yX3_isClass wsX3_isClass) := goodIn_app (goodIn_of _ (by decide +kernel)) ggX3_same_X3_isClass
set_option maxRecDepth 20000 in
theorem ggX3_same_X3_closed : GoodIn wsX3_same wsX3_closed := goodIn_r _ [10, 11, 12, 13, 6, 14, 15, 16, 17, 18, 19, 20, 21, 22, 23, 24, 25, 26, 27, 28, 29, 30, 31, 32, 33, 34, 35, 36, 37, 38, 39, 40, 41, 42, 43, 44, 45, 46, 47, 48, 49, 4, 50, 51, 52, 53, 54, 55, 56, 57, 58, 59, 60, 61, 62, 63, 64, 65, 66, 67, 68, 69, 70, 71, 72, 73, 74, 75, 76, 77, 78, 79, 80, 81, 82, 83, 84, 85, 86, 87, 88, 89, 90, 91, 103, 104, 105, 106, 107, 108, 109, 110, 111, 112, 113, 114, 115, 116, 117, 118, 119, 120] (by decide +kernel) (by decide +kernel)
set_option maxRecDepth 20000 in
theorem gX3_same_X3_closed : GoodIn wsX3_same (wsV RX3 57 RX3 yX3_closed wsX3_closed) := goodIn_app (goodIn_of _ (by decide +kernel)) ggX3_same_X3_closed
set_option maxRecDepth 20000 in
theorem ggX3_same_X1_leastSame : GoodIn wsX3_same wsX1_leastSame := goodIn_r _ [94, 95, 96, 97, 15, 98, 99, 100, 101, 102, 19, 49, 4, 50, 108, 109, 110, 111, 112, 113, 114, 115] (by decide +kernel) (by decide +kernel)
set_option maxRecDepth 20000 in
theorem gX3_same_X1_leastSame_n112 : GoodIn wsX3_same (wsX1_leastSame) := ggX3_same_X1_leastSame
theorem dX3_same_0 : decode cX3_same 0 = .ok (.aload_n 0, 1) := by decide +kernel
theorem dX3_same_1 : decode cX3_same 1 = .ok (.iload_n 1, 1) := by decide +kernel
theorem dX3_same_2 : decode cX3_same 2 = .ok (.invokevirtual 53, 3) := by decide +kernel
theorem dX3_same_5 : decode cX3_same 5 = .ok (.ifCond .ne 5, 3) := by decide +kernel
theorem dX3_same_8 : decode cX3_same 8 = .ok (.iconst (-1), 1) := by decide +kernel
theorem dX3_same_9 : decode cX3_same 9 = .ok (.ireturn, 1) := by decide +kernel
theorem dX3_same_10 : decode cX3_same 10 = .ok (.aload_n 0, 1) := by decide +kernel
theorem dX3_same_11 : decode cX3_same 11 = .ok (.invokevirtual 57, 3) := by decide +kernel
theorem dX3_same_14 : decode cX3_same 14 = .ok (.iload_n 1, 1) := by decide +kernel
theorem dX3_same_15 : decode cX3_same 15 = .ok (.invokevirtual 112, 3) := by decide +kernel
theorem dX3_same_18 : decode cX3_same 18 = .ok (.ireturn, 1) := by decide +kernel
set_option maxRecDepth 20000 in
theorem ggX3_parent_X3_isClass : GoodIn wsX3_parent wsX3_isClass := goodIn_r _ [5, 6, 111, 112, 113, 114, 115] (by decide +kernel) (by decide +kernel)
set_option maxRecDepth 20000 in
theorem gX3_parent_X3_isClass : GoodIn wsX3_parent (wsV RX3 53 RX3 yX3_isClass wsX3_isClass) := goodIn_app (goodIn_of _ (by decide +kernel)) ggX3_parent_X3_isClass
set_option maxRecDepth 20000 in
theorem ggX3_parent_X3_closed : GoodIn wsX3_parent wsX3_closed := goodIn_r _ [10, 11, 12, 13, 6, 14, 15, 16, 17, 18, 19, 20, 21, 22, 23, 24, 25, 26, 27, 28, 29, 30, 31, 32, 33, 34, 35, 36, 37, 38, 39, 40, 41, 42, 43, 44, 45, 46, 47, 48, 49, 4, 50, 51, 52, 53, 54, 55, 56, 57, 58, 59, 60, 61, 62, 63, 64, 65, 66, 67, 68, 69, 70, 71, 72, 73, 74, 75, 76, 77, 78, 79, 80, 81, 82, 83, 84, 85, 86, 87, 88, 89, 90, 91, 111, 112, 113, 114, 115, 116, 117, 118, 119, 120, 121, 122, 123, 124, 125, 126, 127, 128] (by decide +kernel) (by decide +kernel)
set_option maxRecDepth 20000 in
theorem gX3_parent_X3_closed : GoodIn wsX3_parent (wsV RX3 57 RX3 yX3_closed wsX3_closed) := goodIn_app (goodIn_of _ (by decide +kernel)) ggX3_parent_X3_closed
set_option maxRecDepth 20000 in
theorem ggX3_parent_X1_parentOf : GoodIn wsX3_parent wsX1_parentOf := goodIn_r _ [94, 31, 95, 96, 97, 15, 98, 19, 49, 4, 50, 99, 100, 101, 102, 103, 104, 105, 106, 107, 108, 109, 110, 116, 117, 118, 119, 120, 121, 122, 123] (by decide +kernel) (by decide +kernel)
set_option maxRecDepth 20000 in
theorem gX3_parent_X1_parentOf_n115 : GoodIn wsX3_parent (wsX1_parentOf) := ggX3_parent_X1_parentOf
theorem dX3_parent_0 : decode cX3_parent 0 = .ok (.aload_n 0, 1) := by decide +kernel
theorem dX3_parent_1 : decode cX3_parent 1 = .ok (.iload_n 1, 1) := by decide +kernel
theorem dX3_parent_2 : decode cX3_parent 2 = .ok (.invokevirtual 53, 3) := by decide +kernel
theorem dX3_parent_5 : decode cX3_parent 5 = .ok (.ifCond .eq 7, 3) := by decide +kernel
theorem dX3_parent_8 : decode cX3_parent 8 = .ok (.iload_n 2, 1) := by decide +kernel
theorem dX3_parent_9 : decode cX3_parent 9 = .ok (.ifCond .ge 5, 3) := by decide +kernel
theorem dX3_parent_12 : decode cX3_parent 12 = .ok (.iconst (-1), 1) := by decide +kernel
theorem dX3_parent_13 : decode cX3_parent 13 = .ok (.ireturn, 1) := by decide +kernel
theorem dX3_parent_14 : decode cX3_parent 14 = .ok (.aload_n 0, 1) := by decide +kernel
theorem dX3_parent_15 : decode cX3_parent 15 = .ok (.invokevirtual 57, 3) := by decide +kernel
theorem dX3_parent_18 : decode cX3_parent 18 = .ok (.iload_n 1, 1) := by decide +kernel
theorem dX3_parent_19 : decode cX3_parent 19 = .ok (.iload_n 2, 1) := by decide +kernel
theorem dX3_parent_20 : decode cX3_parent 20 = .ok (.invokevirtual 115, 3) := by decide +kernel
theorem dX3_parent_23 : decode cX3_parent 23 = .ok (.ireturn, 1) := by decide +kernel
theorem dX3_isClass_0 : decode cX3_isClass 0 = .ok (.iload_n 1, 1) := by decide +kernel
theorem dX3_isClass_1 : decode cX3_isClass 1 = .ok (.ifCond .lt 15, 3) := by decide +kernel
theorem dX3_isClass_4 : decode cX3_isClass 4 = .ok (.iload_n 1, 1) := by decide +kernel
theorem dX3_isClass_5 : decode cX3_isClass 5 = .ok (.aload_n 0, 1) := by decide +kernel
theorem dX3_isClass_6 : decode cX3_isClass 6 = .ok (.getfield 30, 3) := by decide +kernel
theorem dX3_isClass_9 : decode cX3_isClass 9 = .ok (.if_icmp .ge 7, 3) := by decide +kernel
theorem dX3_isClass_12 : decode cX3_isClass 12 = .ok (.iconst 1, 1) := by decide +kernel
theorem dX3_isClass_13 : decode cX3_isClass 13 = .ok (.goto 4, 3) := by decide +kernel
theorem dX3_isClass_16 : decode cX3_isClass 16 = .ok (.iconst 0, 1) := by decide +kernel
theorem dX3_isClass_17 : decode cX3_isClass 17 = .ok (.ireturn, 1) := by decide +kernel
theorem dX3_isRole_0 : decode cX3_isRole 0 = .ok (.iload_n 0, 1) := by decide +kernel
theorem dX3_isRole_1 : decode cX3_isRole 1 = .ok (.ifCond .lt 13, 3) := by decide +kernel
theorem dX3_isRole_4 : decode cX3_isRole 4 = .ok (.iload_n 0, 1) := by decide +kernel
theorem dX3_isRole_5 : decode cX3_isRole 5 = .ok (.bipush 6, 2) := by decide +kernel
theorem dX3_isRole_7 : decode cX3_isRole 7 = .ok (.if_icmp .ge 7, 3) := by decide +kernel
theorem dX3_isRole_10 : decode cX3_isRole 10 = .ok (.iconst 1, 1) := by decide +kernel
theorem dX3_isRole_11 : decode cX3_isRole 11 = .ok (.goto 4, 3) := by decide +kernel
theorem dX3_isRole_14 : decode cX3_isRole 14 = .ok (.iconst 0, 1) := by decide +kernel
theorem dX3_isRole_15 : decode cX3_isRole 15 = .ok (.ireturn, 1) := by decide +kernel
set_option maxRecDepth 20000 in
theorem ggX3_isAxiom_X3_isClass : GoodIn wsX3_isAxiom wsX3_isClass := goodIn_r _ [5, 6, 10, 11, 12, 13, 14] (by decide +kernel) (by decide +kernel)
set_option maxRecDepth 20000 in
theorem gX3_isAxiom_X3_isClass : GoodIn wsX3_isAxiom (wsV RX3 53 RX3 yX3_isClass wsX3_isClass) := goodIn_app (goodIn_of _ (by decide +kernel)) ggX3_isAxiom_X3_isClass
set_option maxRecDepth 20000 in
theorem ggX3_isAxiom_X3_isRole : GoodIn wsX3_isAxiom wsX3_isRole := goodIn_r _ [9] (by decide +kernel) (by decide +kernel)
set_option maxRecDepth 20000 in
theorem gX3_isAxiom_X3_isRole : GoodIn wsX3_isAxiom (va_wsS RX3 65 yX3_isRole wsX3_isRole) := goodIn_app (goodIn_of _ (by decide +kernel)) ggX3_isAxiom_X3_isRole
theorem dX3_isAxiom_0 : decode cX3_isAxiom 0 = .ok (.iload_n 1, 1) := by decide +kernel
theorem dX3_isAxiom_1 : decode cX3_isAxiom 1 = .ok (.tableswitch 209 1 7 #[43, 65, 96, 126, 156, 176, 204], 43) := by decide +kernel
theorem dX3_isAxiom_44 : decode cX3_isAxiom 44 = .ok (.aload_n 0, 1) := by decide +kernel
theorem dX3_isAxiom_45 : decode cX3_isAxiom 45 = .ok (.iload_n 2, 1) := by decide +kernel
theorem dX3_isAxiom_46 : decode cX3_isAxiom 46 = .ok (.invokevirtual 53, 3) := by decide +kernel
theorem dX3_isAxiom_49 : decode cX3_isAxiom 49 = .ok (.ifCond .eq 15, 3) := by decide +kernel
theorem dX3_isAxiom_52 : decode cX3_isAxiom 52 = .ok (.aload_n 0, 1) := by decide +kernel
theorem dX3_isAxiom_53 : decode cX3_isAxiom 53 = .ok (.iload_n 3, 1) := by decide +kernel
theorem dX3_isAxiom_54 : decode cX3_isAxiom 54 = .ok (.invokevirtual 53, 3) := by decide +kernel
theorem dX3_isAxiom_57 : decode cX3_isAxiom 57 = .ok (.ifCond .eq 7, 3) := by decide +kernel
theorem dX3_isAxiom_60 : decode cX3_isAxiom 60 = .ok (.iconst 1, 1) := by decide +kernel
theorem dX3_isAxiom_61 : decode cX3_isAxiom 61 = .ok (.goto 4, 3) := by decide +kernel
theorem dX3_isAxiom_64 : decode cX3_isAxiom 64 = .ok (.iconst 0, 1) := by decide +kernel
theorem dX3_isAxiom_65 : decode cX3_isAxiom 65 = .ok (.ireturn, 1) := by decide +kernel
theorem dX3_isAxiom_66 : decode cX3_isAxiom 66 = .ok (.aload_n 0, 1) := by decide +kernel
theorem dX3_isAxiom_67 : decode cX3_isAxiom 67 = .ok (.iload_n 2, 1) := by decide +kernel
theorem dX3_isAxiom_68 : decode cX3_isAxiom 68 = .ok (.invokevirtual 53, 3) := by decide +kernel
theorem dX3_isAxiom_71 : decode cX3_isAxiom 71 = .ok (.ifCond .eq 24, 3) := by decide +kernel
theorem dX3_isAxiom_74 : decode cX3_isAxiom 74 = .ok (.aload_n 0, 1) := by decide +kernel
theorem dX3_isAxiom_75 : decode cX3_isAxiom 75 = .ok (.iload_n 3, 1) := by decide +kernel
theorem dX3_isAxiom_76 : decode cX3_isAxiom 76 = .ok (.invokevirtual 53, 3) := by decide +kernel
theorem dX3_isAxiom_79 : decode cX3_isAxiom 79 = .ok (.ifCond .eq 16, 3) := by decide +kernel
theorem dX3_isAxiom_82 : decode cX3_isAxiom 82 = .ok (.aload_n 0, 1) := by decide +kernel
theorem dX3_isAxiom_83 : decode cX3_isAxiom 83 = .ok (.iload 4, 2) := by decide +kernel
theorem dX3_isAxiom_85 : decode cX3_isAxiom 85 = .ok (.invokevirtual 53, 3) := by decide +kernel
theorem dX3_isAxiom_88 : decode cX3_isAxiom 88 = .ok (.ifCond .eq 7, 3) := by decide +kernel
theorem dX3_isAxiom_91 : decode cX3_isAxiom 91 = .ok (.iconst 1, 1) := by decide +kernel
theorem dX3_isAxiom_92 : decode cX3_isAxiom 92 = .ok (.goto 4, 3) := by decide +kernel
theorem dX3_isAxiom_95 : decode cX3_isAxiom 95 = .ok (.iconst 0, 1) := by decide +kernel
theorem dX3_isAxiom_96 : decode cX3_isAxiom 96 = .ok (.ireturn, 1) := by decide +kernel
theorem dX3_isAxiom_97 : decode cX3_isAxiom 97 = .ok (.aload_n 0, 1) := by decide +kernel
theorem dX3_isAxiom_98 : decode cX3_isAxiom 98 = .ok (.iload_n 2, 1) := by decide +kernel
theorem dX3_isAxiom_99 : decode cX3_isAxiom 99 = .ok (.invokevirtual 53, 3) := by decide +kernel
theorem dX3_isAxiom_102 : decode cX3_isAxiom 102 = .ok (.ifCond .eq 23, 3) := by decide +kernel
theorem dX3_isAxiom_105 : decode cX3_isAxiom 105 = .ok (.iload_n 3, 1) := by decide +kernel
theorem dX3_isAxiom_106 : decode cX3_isAxiom 106 = .ok (.invokestatic 65, 3) := by decide +kernel
theorem dX3_isAxiom_109 : decode cX3_isAxiom 109 = .ok (.ifCond .eq 16, 3) := by decide +kernel
theorem dX3_isAxiom_112 : decode cX3_isAxiom 112 = .ok (.aload_n 0, 1) := by decide +kernel
theorem dX3_isAxiom_113 : decode cX3_isAxiom 113 = .ok (.iload 4, 2) := by decide +kernel
theorem dX3_isAxiom_115 : decode cX3_isAxiom 115 = .ok (.invokevirtual 53, 3) := by decide +kernel
theorem dX3_isAxiom_118 : decode cX3_isAxiom 118 = .ok (.ifCond .eq 7, 3) := by decide +kernel
theorem dX3_isAxiom_121 : decode cX3_isAxiom 121 = .ok (.iconst 1, 1) := by decide +kernel
theorem dX3_isAxiom_122 : decode cX3_isAxiom 122 = .ok (.goto 4, 3) := by decide +kernel
theorem dX3_isAxiom_125 : decode cX3_isAxiom 125 = .ok (.iconst 0, 1) := by decide +kernel
theorem dX3_isAxiom_126 : decode cX3_isAxiom 126 = .ok (.ireturn, 1) := by decide +kernel
theorem dX3_isAxiom_127 : decode cX3_isAxiom 127 = .ok (.iload_n 2, 1) := by decide +kernel
theorem dX3_isAxiom_128 : decode cX3_isAxiom 128 = .ok (.invokestatic 65, 3) := by decide +kernel
theorem dX3_isAxiom_131 : decode cX3_isAxiom 131 = .ok (.ifCond .eq 24, 3) := by decide +kernel
theorem dX3_isAxiom_134 : decode cX3_isAxiom 134 = .ok (.aload_n 0, 1) := by decide +kernel
theorem dX3_isAxiom_135 : decode cX3_isAxiom 135 = .ok (.iload_n 3, 1) := by decide +kernel
theorem dX3_isAxiom_136 : decode cX3_isAxiom 136 = .ok (.invokevirtual 53, 3) := by decide +kernel
theorem dX3_isAxiom_139 : decode cX3_isAxiom 139 = .ok (.ifCond .eq 16, 3) := by decide +kernel
theorem dX3_isAxiom_142 : decode cX3_isAxiom 142 = .ok (.aload_n 0, 1) := by decide +kernel
theorem dX3_isAxiom_143 : decode cX3_isAxiom 143 = .ok (.iload 4, 2) := by decide +kernel
theorem dX3_isAxiom_145 : decode cX3_isAxiom 145 = .ok (.invokevirtual 53, 3) := by decide +kernel
theorem dX3_isAxiom_148 : decode cX3_isAxiom 148 = .ok (.ifCond .eq 7, 3) := by decide +kernel
theorem dX3_isAxiom_151 : decode cX3_isAxiom 151 = .ok (.iconst 1, 1) := by decide +kernel
theorem dX3_isAxiom_152 : decode cX3_isAxiom 152 = .ok (.goto 4, 3) := by decide +kernel
theorem dX3_isAxiom_155 : decode cX3_isAxiom 155 = .ok (.iconst 0, 1) := by decide +kernel
theorem dX3_isAxiom_156 : decode cX3_isAxiom 156 = .ok (.ireturn, 1) := by decide +kernel
theorem dX3_isAxiom_157 : decode cX3_isAxiom 157 = .ok (.iload_n 2, 1) := by decide +kernel
theorem dX3_isAxiom_158 : decode cX3_isAxiom 158 = .ok (.invokestatic 65, 3) := by decide +kernel
theorem dX3_isAxiom_161 : decode cX3_isAxiom 161 = .ok (.ifCond .eq 14, 3) := by decide +kernel
theorem dX3_isAxiom_164 : decode cX3_isAxiom 164 = .ok (.iload_n 3, 1) := by decide +kernel
theorem dX3_isAxiom_165 : decode cX3_isAxiom 165 = .ok (.invokestatic 65, 3) := by decide +kernel
theorem dX3_isAxiom_168 : decode cX3_isAxiom 168 = .ok (.ifCond .eq 7, 3) := by decide +kernel
theorem dX3_isAxiom_171 : decode cX3_isAxiom 171 = .ok (.iconst 1, 1) := by decide +kernel
theorem dX3_isAxiom_172 : decode cX3_isAxiom 172 = .ok (.goto 4, 3) := by decide +kernel
theorem dX3_isAxiom_175 : decode cX3_isAxiom 175 = .ok (.iconst 0, 1) := by decide +kernel
theorem dX3_isAxiom_176 : decode cX3_isAxiom 176 = .ok (.ireturn, 1) := by decide +kernel
theorem dX3_isAxiom_177 : decode cX3_isAxiom 177 = .ok (.iload_n 2, 1) := by decide +kernel
theorem dX3_isAxiom_178 : decode cX3_isAxiom 178 = .ok (.invokestatic 65, 3) := by decide +kernel
theorem dX3_isAxiom_181 : decode cX3_isAxiom 181 = .ok (.ifCond .eq 22, 3) := by decide +kernel
theorem dX3_isAxiom_184 : decode cX3_isAxiom 184 = .ok (.iload_n 3, 1) := by decide +kernel
theorem dX3_isAxiom_185 : decode cX3_isAxiom 185 = .ok (.invokestatic 65, 3) := by decide +kernel
theorem dX3_isAxiom_188 : decode cX3_isAxiom 188 = .ok (.ifCond .eq 15, 3) := by decide +kernel
theorem dX3_isAxiom_191 : decode cX3_isAxiom 191 = .ok (.iload 4, 2) := by decide +kernel
theorem dX3_isAxiom_193 : decode cX3_isAxiom 193 = .ok (.invokestatic 65, 3) := by decide +kernel
theorem dX3_isAxiom_196 : decode cX3_isAxiom 196 = .ok (.ifCond .eq 7, 3) := by decide +kernel
theorem dX3_isAxiom_199 : decode cX3_isAxiom 199 = .ok (.iconst 1, 1) := by decide +kernel
theorem dX3_isAxiom_200 : decode cX3_isAxiom 200 = .ok (.goto 4, 3) := by decide +kernel
theorem dX3_isAxiom_203 : decode cX3_isAxiom 203 = .ok (.iconst 0, 1) := by decide +kernel
theorem dX3_isAxiom_204 : decode cX3_isAxiom 204 = .ok (.ireturn, 1) := by decide +kernel
theorem dX3_isAxiom_205 : decode cX3_isAxiom 205 = .ok (.iload_n 2, 1) := by decide +kernel
theorem dX3_isAxiom_206 : decode cX3_isAxiom 206 = .ok (.invokestatic 65, 3) := by decide +kernel
theorem dX3_isAxiom_209 : decode cX3_isAxiom 209 = .ok (.ireturn, 1) := by decide +kernel
theorem dX3_isAxiom_210 : decode cX3_isAxiom 210 = .ok (.iconst 0, 1) := by decide +kernel
theorem dX3_isAxiom_211 : decode cX3_isAxiom 211 = .ok (.ireturn, 1) := by decide +kernel
set_option maxRecDepth 20000 in
theorem ggX3_closed_X1_fill : GoodIn wsX3_closed wsX1_fill := goodIn_r _ [8, 9, 10, 11, 12, 13, 14, 15, 16, 17, 18, 6, 19, 20, 21, 22, 23, 24, 25, 26, 27, 28, 29, 30, 31, 32, 33, 34, 35, 36, 37, 38, 39, 40, 41, 42, 43, 44, 45, 46, 47, 48, 49, 50, 51, 52, 53, 54, 55, 56, 57, 58, 59, 60, 61, 62, 63, 64, 65, 66, 67, 68, 69, 70, 71, 72, 73, 74, 75, 76, 77, 78, 79, 80, 81, 82, 83, 89, 90, 91, 92, 93, 94, 95, 96, 97, 98, 99, 100, 101] (by decide +kernel) (by decide +kernel)
set_option maxRecDepth 20000 in
theorem gX3_closed_X1_fill_n118 : GoodIn wsX3_closed (wsX1_fill) := ggX3_closed_X1_fill
theorem dX3_closed_0 : decode cX3_closed 0 = .ok (.aload_n 0, 1) := by decide +kernel
theorem dX3_closed_1 : decode cX3_closed 1 = .ok (.getfield 34, 3) := by decide +kernel
theorem dX3_closed_4 : decode cX3_closed 4 = .ok (.ifCond .eq 23, 3) := by decide +kernel
theorem dX3_closed_7 : decode cX3_closed 7 = .ok (.aload_n 0, 1) := by decide +kernel
theorem dX3_closed_8 : decode cX3_closed 8 = .ok (.getfield 19, 3) := by decide +kernel
theorem dX3_closed_11 : decode cX3_closed 11 = .ok (.aload_n 0, 1) := by decide +kernel
theorem dX3_closed_12 : decode cX3_closed 12 = .ok (.getfield 12, 3) := by decide +kernel
theorem dX3_closed_15 : decode cX3_closed 15 = .ok (.aload_n 0, 1) := by decide +kernel
theorem dX3_closed_16 : decode cX3_closed 16 = .ok (.getfield 30, 3) := by decide +kernel
theorem dX3_closed_19 : decode cX3_closed 19 = .ok (.invokevirtual 118, 3) := by decide +kernel
theorem dX3_closed_22 : decode cX3_closed 22 = .ok (.aload_n 0, 1) := by decide +kernel
theorem dX3_closed_23 : decode cX3_closed 23 = .ok (.iconst 0, 1) := by decide +kernel
theorem dX3_closed_24 : decode cX3_closed 24 = .ok (.putfield 34, 3) := by decide +kernel
theorem dX3_closed_27 : decode cX3_closed 27 = .ok (.aload_n 0, 1) := by decide +kernel
theorem dX3_closed_28 : decode cX3_closed 28 = .ok (.getfield 19, 3) := by decide +kernel
theorem dX3_closed_31 : decode cX3_closed 31 = .ok (.areturn, 1) := by decide +kernel
theorem dX3_linkColumn_0 : decode cX3_linkColumn 0 = .ok (.bipush 24, 2) := by decide +kernel
theorem dX3_linkColumn_2 : decode cX3_linkColumn 2 = .ok (.bipush 24, 2) := by decide +kernel
theorem dX3_linkColumn_4 : decode cX3_linkColumn 4 = .ok (.iload_n 0, 1) := by decide +kernel
theorem dX3_linkColumn_5 : decode cX3_linkColumn 5 = .ok (.imul, 1) := by decide +kernel
theorem dX3_linkColumn_6 : decode cX3_linkColumn 6 = .ok (.iadd, 1) := by decide +kernel
theorem dX3_linkColumn_7 : decode cX3_linkColumn 7 = .ok (.iload_n 1, 1) := by decide +kernel
theorem dX3_linkColumn_8 : decode cX3_linkColumn 8 = .ok (.iadd, 1) := by decide +kernel
theorem dX3_linkColumn_9 : decode cX3_linkColumn 9 = .ok (.ireturn, 1) := by decide +kernel
theorem dX3_codeOf_0 : decode cX3_codeOf 0 = .ok (.iload_n 1, 1) := by decide +kernel
theorem dX3_codeOf_1 : decode cX3_codeOf 1 = .ok (.bipush 24, 2) := by decide +kernel
theorem dX3_codeOf_3 : decode cX3_codeOf 3 = .ok (.if_icmp .ge 10, 3) := by decide +kernel
theorem dX3_codeOf_6 : decode cX3_codeOf 6 = .ok (.bipush 24, 2) := by decide +kernel
theorem dX3_codeOf_8 : decode cX3_codeOf 8 = .ok (.iload_n 0, 1) := by decide +kernel
theorem dX3_codeOf_9 : decode cX3_codeOf 9 = .ok (.imul, 1) := by decide +kernel
theorem dX3_codeOf_10 : decode cX3_codeOf 10 = .ok (.iload_n 1, 1) := by decide +kernel
theorem dX3_codeOf_11 : decode cX3_codeOf 11 = .ok (.iadd, 1) := by decide +kernel
theorem dX3_codeOf_12 : decode cX3_codeOf 12 = .ok (.ireturn, 1) := by decide +kernel
theorem dX3_codeOf_13 : decode cX3_codeOf 13 = .ok (.sipush 576, 3) := by decide +kernel
theorem dX3_codeOf_16 : decode cX3_codeOf 16 = .ok (.sipush 144, 3) := by decide +kernel
theorem dX3_codeOf_19 : decode cX3_codeOf 19 = .ok (.iload_n 0, 1) := by decide +kernel
theorem dX3_codeOf_20 : decode cX3_codeOf 20 = .ok (.imul, 1) := by decide +kernel
theorem dX3_codeOf_21 : decode cX3_codeOf 21 = .ok (.iadd, 1) := by decide +kernel
theorem dX3_codeOf_22 : decode cX3_codeOf 22 = .ok (.iload_n 1, 1) := by decide +kernel
theorem dX3_codeOf_23 : decode cX3_codeOf 23 = .ok (.iadd, 1) := by decide +kernel
theorem dX3_codeOf_24 : decode cX3_codeOf 24 = .ok (.bipush 24, 2) := by decide +kernel
theorem dX3_codeOf_26 : decode cX3_codeOf 26 = .ok (.isub, 1) := by decide +kernel
theorem dX3_codeOf_27 : decode cX3_codeOf 27 = .ok (.ireturn, 1) := by decide +kernel
theorem dX3_isIn_0 : decode cX3_isIn 0 = .ok (.iload_n 1, 1) := by decide +kernel
theorem dX3_isIn_1 : decode cX3_isIn 1 = .ok (.iload_n 0, 1) := by decide +kernel
theorem dX3_isIn_2 : decode cX3_isIn 2 = .ok (.ishr, 1) := by decide +kernel
theorem dX3_isIn_3 : decode cX3_isIn 3 = .ok (.iconst 1, 1) := by decide +kernel
theorem dX3_isIn_4 : decode cX3_isIn 4 = .ok (.iand, 1) := by decide +kernel
theorem dX3_isIn_5 : decode cX3_isIn 5 = .ok (.ifCond .eq 7, 3) := by decide +kernel
theorem dX3_isIn_8 : decode cX3_isIn 8 = .ok (.iconst 1, 1) := by decide +kernel
theorem dX3_isIn_9 : decode cX3_isIn 9 = .ok (.goto 4, 3) := by decide +kernel
theorem dX3_isIn_12 : decode cX3_isIn 12 = .ok (.iconst 0, 1) := by decide +kernel
theorem dX3_isIn_13 : decode cX3_isIn 13 = .ok (.ireturn, 1) := by decide +kernel
