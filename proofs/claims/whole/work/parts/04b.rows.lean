theorem dX6_line_101 : decode cX6_line 101 = .ok (.invokevirtual 82, 3) := by decide +kernel
theorem dX6_line_104 : decode cX6_line 104 = .ok (.aload_n 0, 1) := by decide +kernel
theorem dX6_line_105 : decode cX6_line 105 = .ok (.iload_n 1, 1) := by decide +kernel
theorem dX6_line_106 : decode cX6_line 106 = .ok (.invokevirtual 86, 3) := by decide +kernel
theorem dX6_line_109 : decode cX6_line 109 = .ok (.ireturn, 1) := by decide +kernel
set_option maxRecDepth 20000 in
theorem ggX6_set_X6_faultOfNumber : GoodIn wsX6_set wsX6_faultOfNumber := goodIn_r _ [7, 1, 8, 9, 10, 11, 6, 12, 13, 14, 15, 16, 2, 17, 18, 19, 20, 21, 22, 23, 24, 25, 26, 27, 28, 87, 88, 89, 90, 91, 92, 93, 94, 95, 96, 97, 98, 99, 100, 101, 102, 103, 104, 105, 106, 107, 108, 109, 110, 111, 112, 113, 114, 115, 116] (by decide +kernel) (by decide +kernel)
set_option maxRecDepth 20000 in
theorem gX6_set_X6_faultOfNumber : GoodIn wsX6_set (wsV RX6 89 RX6 yX6_faultOfNumber wsX6_faultOfNumber) := goodIn_app (goodIn_of _ (by decide +kernel)) ggX6_set_X6_faultOfNumber
set_option maxRecDepth 20000 in
theorem ggX6_set_X6_deny : GoodIn wsX6_set wsX6_deny := goodIn_r _ [32, 33, 87, 88, 89, 90, 91, 92, 93, 94, 95, 96, 97, 98, 99] (by decide +kernel) (by decide +kernel)
set_option maxRecDepth 20000 in
theorem gX6_set_X6_deny : GoodIn wsX6_set (wsV RX6 54 RX6 yX6_deny wsX6_deny) := goodIn_app (goodIn_of _ (by decide +kernel)) ggX6_set_X6_deny
set_option maxRecDepth 20000 in
theorem ggX6_set_X2_cut : GoodIn wsX6_set wsX2_cut := goodIn_r _ [37, 28, 100, 101, 102, 103] (by decide +kernel) (by decide +kernel)
set_option maxRecDepth 20000 in
theorem gX6_set_X2_cut : GoodIn wsX6_set (wsV RX6 93 RX2 yX2_cut wsX2_cut) := goodIn_app (goodIn_of _ (by decide +kernel)) ggX6_set_X2_cut
set_option maxRecDepth 20000 in
theorem ggX6_set_X0_isTaken : GoodIn wsX6_set wsX0_isTaken := goodIn_r _ [42, 43, 44, 104, 105, 106, 107, 108, 109, 110, 111, 112, 113, 114, 115, 116] (by decide +kernel) (by decide +kernel)
set_option maxRecDepth 20000 in
theorem gX6_set_X0_isTaken : GoodIn wsX6_set (wsV RX6 78 RX0 yX0_isTaken wsX0_isTaken) := goodIn_app (goodIn_of _ (by decide +kernel)) ggX6_set_X0_isTaken
set_option maxRecDepth 20000 in
theorem ggX6_set_X2_write : GoodIn wsX6_set wsX2_write := goodIn_r _ [48, 49, 100, 101, 102, 103] (by decide +kernel) (by decide +kernel)
set_option maxRecDepth 20000 in
theorem gX6_set_X2_write : GoodIn wsX6_set (wsV RX6 96 RX2 yX2_write wsX2_write) := goodIn_app (goodIn_of _ (by decide +kernel)) ggX6_set_X2_write
set_option maxRecDepth 20000 in
theorem ggX6_set_X6_linesChanged : GoodIn wsX6_set wsX6_linesChanged := goodIn_r _ [53, 2, 1, 17, 54, 55, 56, 26, 57, 58, 59, 24, 25, 27, 28, 60, 61, 62, 63, 49, 64, 65, 66, 41, 67, 68, 69, 70, 71, 72, 73, 6, 74, 75, 76, 77, 78, 79, 80, 81, 82, 83, 84, 85, 86, 33, 87, 88, 89, 90, 91, 92, 93, 94, 95, 96, 97, 98, 99, 104, 105, 106, 107, 108, 109, 110, 111, 112, 113, 114, 115, 116, 100, 101, 102, 103, 117, 118, 119, 120] (by decide +kernel) (by decide +kernel)
set_option maxRecDepth 20000 in
theorem gX6_set_X6_linesChanged : GoodIn wsX6_set (wsV RX6 86 RX6 yX6_linesChanged wsX6_linesChanged) := goodIn_app (goodIn_of _ (by decide +kernel)) ggX6_set_X6_linesChanged
theorem dX6_set_0 : decode cX6_set 0 = .ok (.aload_n 0, 1) := by decide +kernel
theorem dX6_set_1 : decode cX6_set 1 = .ok (.iload_n 1, 1) := by decide +kernel
theorem dX6_set_2 : decode cX6_set 2 = .ok (.iload_n 2, 1) := by decide +kernel
theorem dX6_set_3 : decode cX6_set 3 = .ok (.invokevirtual 89, 3) := by decide +kernel
theorem dX6_set_6 : decode cX6_set 6 = .ok (.istore 4, 2) := by decide +kernel
theorem dX6_set_8 : decode cX6_set 8 = .ok (.iload 4, 2) := by decide +kernel
theorem dX6_set_10 : decode cX6_set 10 = .ok (.ifCond .eq 10, 3) := by decide +kernel
theorem dX6_set_13 : decode cX6_set 13 = .ok (.aload_n 0, 1) := by decide +kernel
theorem dX6_set_14 : decode cX6_set 14 = .ok (.iload 4, 2) := by decide +kernel
theorem dX6_set_16 : decode cX6_set 16 = .ok (.invokevirtual 54, 3) := by decide +kernel
theorem dX6_set_19 : decode cX6_set 19 = .ok (.ireturn, 1) := by decide +kernel
theorem dX6_set_20 : decode cX6_set 20 = .ok (.aload_n 0, 1) := by decide +kernel
theorem dX6_set_21 : decode cX6_set 21 = .ok (.getfield 10, 3) := by decide +kernel
theorem dX6_set_24 : decode cX6_set 24 = .ok (.iload_n 1, 1) := by decide +kernel
theorem dX6_set_25 : decode cX6_set 25 = .ok (.iload_n 3, 1) := by decide +kernel
theorem dX6_set_26 : decode cX6_set 26 = .ok (.invokevirtual 93, 3) := by decide +kernel
theorem dX6_set_29 : decode cX6_set 29 = .ok (.istore 5, 2) := by decide +kernel
theorem dX6_set_31 : decode cX6_set 31 = .ok (.iload 5, 2) := by decide +kernel
theorem dX6_set_33 : decode cX6_set 33 = .ok (.ifCond .eq 22, 3) := by decide +kernel
theorem dX6_set_36 : decode cX6_set 36 = .ok (.aload_n 0, 1) := by decide +kernel
theorem dX6_set_37 : decode cX6_set 37 = .ok (.getfield 19, 3) := by decide +kernel
theorem dX6_set_40 : decode cX6_set 40 = .ok (.iload_n 2, 1) := by decide +kernel
theorem dX6_set_41 : decode cX6_set 41 = .ok (.iload_n 1, 1) := by decide +kernel
theorem dX6_set_42 : decode cX6_set 42 = .ok (.invokevirtual 78, 3) := by decide +kernel
theorem dX6_set_45 : decode cX6_set 45 = .ok (.ifCond .eq 10, 3) := by decide +kernel
theorem dX6_set_48 : decode cX6_set 48 = .ok (.aload_n 0, 1) := by decide +kernel
theorem dX6_set_49 : decode cX6_set 49 = .ok (.bipush 7, 2) := by decide +kernel
theorem dX6_set_51 : decode cX6_set 51 = .ok (.invokevirtual 54, 3) := by decide +kernel
theorem dX6_set_54 : decode cX6_set 54 = .ok (.ireturn, 1) := by decide +kernel
theorem dX6_set_55 : decode cX6_set 55 = .ok (.aload_n 0, 1) := by decide +kernel
theorem dX6_set_56 : decode cX6_set 56 = .ok (.getfield 10, 3) := by decide +kernel
theorem dX6_set_59 : decode cX6_set 59 = .ok (.iload_n 1, 1) := by decide +kernel
theorem dX6_set_60 : decode cX6_set 60 = .ok (.iload_n 2, 1) := by decide +kernel
theorem dX6_set_61 : decode cX6_set 61 = .ok (.iload 5, 2) := by decide +kernel
theorem dX6_set_63 : decode cX6_set 63 = .ok (.invokevirtual 96, 3) := by decide +kernel
theorem dX6_set_66 : decode cX6_set 66 = .ok (.aload_n 0, 1) := by decide +kernel
theorem dX6_set_67 : decode cX6_set 67 = .ok (.iload_n 1, 1) := by decide +kernel
theorem dX6_set_68 : decode cX6_set 68 = .ok (.invokevirtual 86, 3) := by decide +kernel
theorem dX6_set_71 : decode cX6_set 71 = .ok (.ireturn, 1) := by decide +kernel
set_option maxRecDepth 20000 in
theorem ggX6_get_X6_faultOfNumber : GoodIn wsX6_get wsX6_faultOfNumber := goodIn_r _ [6, 1, 7, 8, 9, 10, 5, 11, 12, 13, 14, 15, 16, 17, 18, 19, 20, 21, 22, 23, 24, 25, 26, 27, 28, 43, 44, 45, 46, 47, 48, 49, 50, 51, 52, 53, 54, 55, 56, 57, 58, 59, 60, 61, 62, 63, 64, 65, 66, 67, 68, 69, 70, 71, 72] (by decide +kernel) (by decide +kernel)
set_option maxRecDepth 20000 in
theorem gX6_get_X6_faultOfNumber : GoodIn wsX6_get (wsV RX6 89 RX6 yX6_faultOfNumber wsX6_faultOfNumber) := goodIn_app (goodIn_of _ (by decide +kernel)) ggX6_get_X6_faultOfNumber
set_option maxRecDepth 20000 in
theorem ggX6_get_X6_refuse : GoodIn wsX6_get wsX6_refuse := goodIn_r _ [32, 33, 43, 44, 45, 46, 47, 48, 49, 50, 51, 52, 53, 54, 55] (by decide +kernel) (by decide +kernel)
set_option maxRecDepth 20000 in
theorem gX6_get_X6_refuse : GoodIn wsX6_get (wsV RX6 99 RX6 yX6_refuse wsX6_refuse) := goodIn_app (goodIn_of _ (by decide +kernel)) ggX6_get_X6_refuse
set_option maxRecDepth 20000 in
theorem ggX6_get_X2_number : GoodIn wsX6_get wsX2_number := goodIn_r _ [37, 38, 56, 57, 58, 59] (by decide +kernel) (by decide +kernel)
set_option maxRecDepth 20000 in
theorem gX6_get_X2_number : GoodIn wsX6_get (wsV RX6 103 RX2 yX2_number wsX2_number) := goodIn_app (goodIn_of _ (by decide +kernel)) ggX6_get_X2_number
set_option maxRecDepth 20000 in
theorem ggX6_get_X6_answer : GoodIn wsX6_get wsX6_answer := goodIn_r _ [42, 33, 43, 44, 45, 46, 47, 48, 49, 50, 51, 52, 53, 54, 55] (by decide +kernel) (by decide +kernel)
set_option maxRecDepth 20000 in
theorem gX6_get_X6_answer : GoodIn wsX6_get (wsV RX6 106 RX6 yX6_answer wsX6_answer) := goodIn_app (goodIn_of _ (by decide +kernel)) ggX6_get_X6_answer
theorem dX6_get_0 : decode cX6_get 0 = .ok (.aload_n 0, 1) := by decide +kernel
theorem dX6_get_1 : decode cX6_get 1 = .ok (.iload_n 1, 1) := by decide +kernel
theorem dX6_get_2 : decode cX6_get 2 = .ok (.iload_n 2, 1) := by decide +kernel
theorem dX6_get_3 : decode cX6_get 3 = .ok (.invokevirtual 89, 3) := by decide +kernel
theorem dX6_get_6 : decode cX6_get 6 = .ok (.istore_n 3, 1) := by decide +kernel
theorem dX6_get_7 : decode cX6_get 7 = .ok (.iload_n 3, 1) := by decide +kernel
theorem dX6_get_8 : decode cX6_get 8 = .ok (.ifCond .eq 11, 3) := by decide +kernel
theorem dX6_get_11 : decode cX6_get 11 = .ok (.aload_n 0, 1) := by decide +kernel
theorem dX6_get_12 : decode cX6_get 12 = .ok (.iload_n 3, 1) := by decide +kernel
theorem dX6_get_13 : decode cX6_get 13 = .ok (.invokevirtual 99, 3) := by decide +kernel
theorem dX6_get_16 : decode cX6_get 16 = .ok (.goto 16, 3) := by decide +kernel
theorem dX6_get_19 : decode cX6_get 19 = .ok (.aload_n 0, 1) := by decide +kernel
theorem dX6_get_20 : decode cX6_get 20 = .ok (.aload_n 0, 1) := by decide +kernel
theorem dX6_get_21 : decode cX6_get 21 = .ok (.getfield 10, 3) := by decide +kernel
theorem dX6_get_24 : decode cX6_get 24 = .ok (.iload_n 1, 1) := by decide +kernel
theorem dX6_get_25 : decode cX6_get 25 = .ok (.iload_n 2, 1) := by decide +kernel
theorem dX6_get_26 : decode cX6_get 26 = .ok (.invokevirtual 103, 3) := by decide +kernel
theorem dX6_get_29 : decode cX6_get 29 = .ok (.invokevirtual 106, 3) := by decide +kernel
theorem dX6_get_32 : decode cX6_get 32 = .ok (.ireturn, 1) := by decide +kernel
set_option maxRecDepth 20000 in
theorem ggX6_carry_X6_faultOfCarry : GoodIn wsX6_carry wsX6_faultOfCarry := goodIn_r _ [7, 1, 8, 9, 10, 11, 6, 12, 2, 13, 14, 15, 16, 17, 18, 19, 20, 21, 22, 23, 24, 25, 26, 27, 28, 29, 89, 90, 91, 92, 93, 94, 95, 96, 97, 98, 99, 100, 101, 102, 103, 104, 105, 106, 107, 108, 109, 110, 111, 112, 113, 114, 115, 116, 117, 118] (by decide +kernel) (by decide +kernel)
set_option maxRecDepth 20000 in
theorem gX6_carry_X6_faultOfCarry : GoodIn wsX6_carry (wsV RX6 109 RX6 yX6_faultOfCarry wsX6_faultOfCarry) := goodIn_app (goodIn_of _ (by decide +kernel)) ggX6_carry_X6_faultOfCarry
set_option maxRecDepth 20000 in
theorem ggX6_carry_X6_deny : GoodIn wsX6_carry wsX6_deny := goodIn_r _ [33, 34, 89, 90, 91, 92, 93, 94, 95, 96, 97, 98, 99, 100, 101] (by decide +kernel) (by decide +kernel)
set_option maxRecDepth 20000 in
theorem gX6_carry_X6_deny : GoodIn wsX6_carry (wsV RX6 54 RX6 yX6_deny wsX6_deny) := goodIn_app (goodIn_of _ (by decide +kernel)) ggX6_carry_X6_deny
set_option maxRecDepth 20000 in
theorem ggX6_carry_X2_number : GoodIn wsX6_carry wsX2_number := goodIn_r _ [38, 39, 102, 103, 104, 105] (by decide +kernel) (by decide +kernel)
set_option maxRecDepth 20000 in
theorem gX6_carry_X2_number : GoodIn wsX6_carry (wsV RX6 103 RX2 yX2_number wsX2_number) := goodIn_app (goodIn_of _ (by decide +kernel)) ggX6_carry_X2_number
set_option maxRecDepth 20000 in
theorem ggX6_carry_X0_isTaken : GoodIn wsX6_carry wsX0_isTaken := goodIn_r _ [44, 45, 46, 106, 107, 108, 109, 110, 111, 112, 113, 114, 115, 116, 117, 118] (by decide +kernel) (by decide +kernel)
set_option maxRecDepth 20000 in
theorem gX6_carry_X0_isTaken : GoodIn wsX6_carry (wsV RX6 78 RX0 yX0_isTaken wsX0_isTaken) := goodIn_app (goodIn_of _ (by decide +kernel)) ggX6_carry_X0_isTaken
set_option maxRecDepth 20000 in
theorem ggX6_carry_X2_copy : GoodIn wsX6_carry wsX2_copy := goodIn_r _ [50, 51, 52, 36, 37, 22, 38, 39, 53, 54, 55, 56, 102, 103, 104, 105] (by decide +kernel) (by decide +kernel)
set_option maxRecDepth 20000 in
theorem gX6_carry_X2_copy : GoodIn wsX6_carry (wsV RX6 113 RX2 yX2_copy wsX2_copy) := goodIn_app (goodIn_of _ (by decide +kernel)) ggX6_carry_X2_copy
set_option maxRecDepth 20000 in
theorem ggX6_carry_X6_linesChanged : GoodIn wsX6_carry wsX6_linesChanged := goodIn_r _ [60, 2, 1, 13, 61, 62, 63, 22, 64, 29, 65, 20, 21, 23, 24, 52, 36, 37, 38, 39, 66, 67, 68, 43, 69, 70, 71, 72, 73, 74, 75, 6, 76, 77, 78, 79, 80, 81, 82, 83, 84, 85, 86, 87, 88, 34, 89, 90, 91, 92, 93, 94, 95, 96, 97, 98, 99, 100, 101, 106, 107, 108, 109, 110, 111, 112, 113, 114, 115, 116, 117, 118, 102, 103, 104, 105, 119, 120, 121, 122] (by decide +kernel) (by decide +kernel)
set_option maxRecDepth 20000 in
theorem gX6_carry_X6_linesChanged : GoodIn wsX6_carry (wsV RX6 86 RX6 yX6_linesChanged wsX6_linesChanged) := goodIn_app (goodIn_of _ (by decide +kernel)) ggX6_carry_X6_linesChanged
theorem dX6_carry_0 : decode cX6_carry 0 = .ok (.aload_n 0, 1) := by decide +kernel
theorem dX6_carry_1 : decode cX6_carry 1 = .ok (.iload_n 1, 1) := by decide +kernel
theorem dX6_carry_2 : decode cX6_carry 2 = .ok (.iload_n 2, 1) := by decide +kernel
theorem dX6_carry_3 : decode cX6_carry 3 = .ok (.iload_n 3, 1) := by decide +kernel
theorem dX6_carry_4 : decode cX6_carry 4 = .ok (.iload 4, 2) := by decide +kernel
theorem dX6_carry_6 : decode cX6_carry 6 = .ok (.iload 5, 2) := by decide +kernel
theorem dX6_carry_8 : decode cX6_carry 8 = .ok (.invokevirtual 109, 3) := by decide +kernel
theorem dX6_carry_11 : decode cX6_carry 11 = .ok (.istore 6, 2) := by decide +kernel
theorem dX6_carry_13 : decode cX6_carry 13 = .ok (.iload 6, 2) := by decide +kernel
theorem dX6_carry_15 : decode cX6_carry 15 = .ok (.ifCond .eq 10, 3) := by decide +kernel
theorem dX6_carry_18 : decode cX6_carry 18 = .ok (.aload_n 0, 1) := by decide +kernel
theorem dX6_carry_19 : decode cX6_carry 19 = .ok (.iload 6, 2) := by decide +kernel
theorem dX6_carry_21 : decode cX6_carry 21 = .ok (.invokevirtual 54, 3) := by decide +kernel
theorem dX6_carry_24 : decode cX6_carry 24 = .ok (.ireturn, 1) := by decide +kernel
theorem dX6_carry_25 : decode cX6_carry 25 = .ok (.iconst 0, 1) := by decide +kernel
theorem dX6_carry_26 : decode cX6_carry 26 = .ok (.istore 7, 2) := by decide +kernel
theorem dX6_carry_28 : decode cX6_carry 28 = .ok (.iload 7, 2) := by decide +kernel
theorem dX6_carry_30 : decode cX6_carry 30 = .ok (.iload 5, 2) := by decide +kernel
theorem dX6_carry_32 : decode cX6_carry 32 = .ok (.if_icmp .ge 47, 3) := by decide +kernel
theorem dX6_carry_35 : decode cX6_carry 35 = .ok (.aload_n 0, 1) := by decide +kernel
theorem dX6_carry_36 : decode cX6_carry 36 = .ok (.getfield 10, 3) := by decide +kernel
theorem dX6_carry_39 : decode cX6_carry 39 = .ok (.iload_n 1, 1) := by decide +kernel
theorem dX6_carry_40 : decode cX6_carry 40 = .ok (.iload_n 2, 1) := by decide +kernel
theorem dX6_carry_41 : decode cX6_carry 41 = .ok (.iload 7, 2) := by decide +kernel
theorem dX6_carry_43 : decode cX6_carry 43 = .ok (.iadd, 1) := by decide +kernel
theorem dX6_carry_44 : decode cX6_carry 44 = .ok (.invokevirtual 103, 3) := by decide +kernel
theorem dX6_carry_47 : decode cX6_carry 47 = .ok (.ifCond .eq 26, 3) := by decide +kernel
theorem dX6_carry_50 : decode cX6_carry 50 = .ok (.aload_n 0, 1) := by decide +kernel
theorem dX6_carry_51 : decode cX6_carry 51 = .ok (.getfield 19, 3) := by decide +kernel
theorem dX6_carry_54 : decode cX6_carry 54 = .ok (.iload 4, 2) := by decide +kernel
theorem dX6_carry_56 : decode cX6_carry 56 = .ok (.iload 7, 2) := by decide +kernel
theorem dX6_carry_58 : decode cX6_carry 58 = .ok (.iadd, 1) := by decide +kernel
theorem dX6_carry_59 : decode cX6_carry 59 = .ok (.iload_n 3, 1) := by decide +kernel
theorem dX6_carry_60 : decode cX6_carry 60 = .ok (.invokevirtual 78, 3) := by decide +kernel
theorem dX6_carry_63 : decode cX6_carry 63 = .ok (.ifCond .eq 10, 3) := by decide +kernel
theorem dX6_carry_66 : decode cX6_carry 66 = .ok (.aload_n 0, 1) := by decide +kernel
theorem dX6_carry_67 : decode cX6_carry 67 = .ok (.bipush 7, 2) := by decide +kernel
theorem dX6_carry_69 : decode cX6_carry 69 = .ok (.invokevirtual 54, 3) := by decide +kernel
theorem dX6_carry_72 : decode cX6_carry 72 = .ok (.ireturn, 1) := by decide +kernel
theorem dX6_carry_73 : decode cX6_carry 73 = .ok (.iinc 7 1, 3) := by decide +kernel
theorem dX6_carry_76 : decode cX6_carry 76 = .ok (.goto (-48), 3) := by decide +kernel
theorem dX6_carry_79 : decode cX6_carry 79 = .ok (.aload_n 0, 1) := by decide +kernel
theorem dX6_carry_80 : decode cX6_carry 80 = .ok (.getfield 10, 3) := by decide +kernel
theorem dX6_carry_83 : decode cX6_carry 83 = .ok (.iload_n 1, 1) := by decide +kernel
theorem dX6_carry_84 : decode cX6_carry 84 = .ok (.iload_n 2, 1) := by decide +kernel
theorem dX6_carry_85 : decode cX6_carry 85 = .ok (.iload_n 3, 1) := by decide +kernel
theorem dX6_carry_86 : decode cX6_carry 86 = .ok (.iload 4, 2) := by decide +kernel
theorem dX6_carry_88 : decode cX6_carry 88 = .ok (.iload 5, 2) := by decide +kernel
theorem dX6_carry_90 : decode cX6_carry 90 = .ok (.invokevirtual 113, 3) := by decide +kernel
theorem dX6_carry_93 : decode cX6_carry 93 = .ok (.aload_n 0, 1) := by decide +kernel
theorem dX6_carry_94 : decode cX6_carry 94 = .ok (.iload_n 3, 1) := by decide +kernel
theorem dX6_carry_95 : decode cX6_carry 95 = .ok (.invokevirtual 86, 3) := by decide +kernel
theorem dX6_carry_98 : decode cX6_carry 98 = .ok (.ireturn, 1) := by decide +kernel
set_option maxRecDepth 20000 in
theorem ggX6_tear_X6_faultOfLine : GoodIn wsX6_tear wsX6_faultOfLine := goodIn_r _ [6, 1, 7, 8, 9, 5, 10, 11, 12, 13, 14, 15, 16, 17, 18, 19, 20, 21, 22, 23, 72, 73, 74, 75, 76, 77, 78, 79, 80, 81, 82, 83, 84, 85, 86, 87, 88, 89, 90, 91, 92, 93, 94, 95, 96, 97, 98, 99, 100, 101] (by decide +kernel) (by decide +kernel)
set_option maxRecDepth 20000 in
theorem gX6_tear_X6_faultOfLine : GoodIn wsX6_tear (wsV RX6 117 RX6 yX6_faultOfLine wsX6_faultOfLine) := goodIn_app (goodIn_of _ (by decide +kernel)) ggX6_tear_X6_faultOfLine
set_option maxRecDepth 20000 in
theorem ggX6_tear_X6_deny : GoodIn wsX6_tear wsX6_deny := goodIn_r _ [27, 28, 72, 73, 74, 75, 76, 77, 78, 79, 80, 81, 82, 83, 84] (by decide +kernel) (by decide +kernel)
set_option maxRecDepth 20000 in
theorem gX6_tear_X6_deny : GoodIn wsX6_tear (wsV RX6 54 RX6 yX6_deny wsX6_deny) := goodIn_app (goodIn_of _ (by decide +kernel)) ggX6_tear_X6_deny
set_option maxRecDepth 20000 in
theorem ggX6_tear_X2_tearOff : GoodIn wsX6_tear wsX2_tearOff := goodIn_r _ [32, 23, 98, 99, 100, 101] (by decide +kernel) (by decide +kernel)
set_option maxRecDepth 20000 in
theorem gX6_tear_X2_tearOff : GoodIn wsX6_tear (wsV RX6 120 RX2 yX2_tearOff wsX2_tearOff) := goodIn_app (goodIn_of _ (by decide +kernel)) ggX6_tear_X2_tearOff
set_option maxRecDepth 20000 in
theorem ggX6_tear_X6_linesChanged : GoodIn wsX6_tear wsX6_linesChanged := goodIn_r _ [36, 11, 1, 12, 37, 38, 39, 21, 40, 41, 42, 19, 20, 22, 23, 43, 44, 45, 46, 47, 48, 49, 50, 51, 52, 53, 54, 55, 56, 57, 58, 5, 59, 60, 61, 62, 63, 64, 65, 66, 67, 68, 69, 70, 71, 28, 72, 73, 74, 75, 76, 77, 78, 79, 80, 81, 82, 83, 84, 85, 86, 87, 88, 89, 90, 91, 92, 93, 94, 95, 96, 97, 98, 99, 100, 101, 102, 103, 104, 105] (by decide +kernel) (by decide +kernel)
set_option maxRecDepth 20000 in
theorem gX6_tear_X6_linesChanged : GoodIn wsX6_tear (wsV RX6 86 RX6 yX6_linesChanged wsX6_linesChanged) := goodIn_app (goodIn_of _ (by decide +kernel)) ggX6_tear_X6_linesChanged
theorem dX6_tear_0 : decode cX6_tear 0 = .ok (.aload_n 0, 1) := by decide +kernel
theorem dX6_tear_1 : decode cX6_tear 1 = .ok (.iload_n 1, 1) := by decide +kernel
theorem dX6_tear_2 : decode cX6_tear 2 = .ok (.invokevirtual 117, 3) := by decide +kernel
theorem dX6_tear_5 : decode cX6_tear 5 = .ok (.istore_n 2, 1) := by decide +kernel
theorem dX6_tear_6 : decode cX6_tear 6 = .ok (.iload_n 2, 1) := by decide +kernel
theorem dX6_tear_7 : decode cX6_tear 7 = .ok (.ifCond .eq 9, 3) := by decide +kernel
theorem dX6_tear_10 : decode cX6_tear 10 = .ok (.aload_n 0, 1) := by decide +kernel
theorem dX6_tear_11 : decode cX6_tear 11 = .ok (.iload_n 2, 1) := by decide +kernel
theorem dX6_tear_12 : decode cX6_tear 12 = .ok (.invokevirtual 54, 3) := by decide +kernel
theorem dX6_tear_15 : decode cX6_tear 15 = .ok (.ireturn, 1) := by decide +kernel
theorem dX6_tear_16 : decode cX6_tear 16 = .ok (.aload_n 0, 1) := by decide +kernel
theorem dX6_tear_17 : decode cX6_tear 17 = .ok (.getfield 10, 3) := by decide +kernel
theorem dX6_tear_20 : decode cX6_tear 20 = .ok (.iload_n 1, 1) := by decide +kernel
theorem dX6_tear_21 : decode cX6_tear 21 = .ok (.invokevirtual 120, 3) := by decide +kernel
theorem dX6_tear_24 : decode cX6_tear 24 = .ok (.aload_n 0, 1) := by decide +kernel
theorem dX6_tear_25 : decode cX6_tear 25 = .ok (.iload_n 1, 1) := by decide +kernel
theorem dX6_tear_26 : decode cX6_tear 26 = .ok (.invokevirtual 86, 3) := by decide +kernel
theorem dX6_tear_29 : decode cX6_tear 29 = .ok (.ireturn, 1) := by decide +kernel
set_option maxRecDepth 20000 in
theorem ggX6_barge_X6_hasNoBasin : GoodIn wsX6_barge wsX6_hasNoBasin := goodIn_r _ [8, 1, 9, 84, 85, 86, 87, 88, 89, 90, 91, 92, 93, 94, 95, 96, 97, 98, 99, 100, 101, 102, 103, 104, 105, 106, 107, 108, 109] (by decide +kernel) (by decide +kernel)
set_option maxRecDepth 20000 in
theorem gX6_barge_X6_hasNoBasin : GoodIn wsX6_barge (wsV RX6 69 RX6 yX6_hasNoBasin wsX6_hasNoBasin) := goodIn_app (goodIn_of _ (by decide +kernel)) ggX6_barge_X6_hasNoBasin
set_option maxRecDepth 20000 in
theorem ggX6_barge_X6_refuse : GoodIn wsX6_barge wsX6_refuse := goodIn_r _ [13, 14, 84, 85, 86, 87, 88, 89, 90, 91, 92, 93, 94, 95, 96] (by decide +kernel) (by decide +kernel)
set_option maxRecDepth 20000 in
theorem gX6_barge_X6_refuse : GoodIn wsX6_barge (wsV RX6 99 RX6 yX6_refuse wsX6_refuse) := goodIn_app (goodIn_of _ (by decide +kernel)) ggX6_barge_X6_refuse
set_option maxRecDepth 20000 in
theorem ggX6_barge_X6_isLengthOf : GoodIn wsX6_barge wsX6_isLengthOf := goodIn_r _ [17] (by decide +kernel) (by decide +kernel)
set_option maxRecDepth 20000 in
theorem gX6_barge_X6_isLengthOf : GoodIn wsX6_barge (va_wsS RX6 124 yX6_isLengthOf wsX6_isLengthOf) := goodIn_app (goodIn_of _ (by decide +kernel)) ggX6_barge_X6_isLengthOf
set_option maxRecDepth 20000 in
theorem ggX6_barge_X6_isNoField : GoodIn wsX6_barge wsX6_isNoField := goodIn_r _ [21, 1, 9, 22, 23, 24, 7, 25, 26, 84, 85, 86, 87, 88, 89, 90, 91, 92, 93, 94, 95, 96, 97, 98, 99, 100, 101, 102, 103, 104, 105, 106, 107, 108, 109] (by decide +kernel) (by decide +kernel)
set_option maxRecDepth 20000 in
theorem gX6_barge_X6_isNoField : GoodIn wsX6_barge (wsV RX6 127 RX6 yX6_isNoField wsX6_isNoField) := goodIn_app (goodIn_of _ (by decide +kernel)) ggX6_barge_X6_isNoField
set_option maxRecDepth 20000 in
theorem ggX6_barge_X6_isBound : GoodIn wsX6_barge wsX6_isBound := goodIn_r _ [29] (by decide +kernel) (by decide +kernel)
set_option maxRecDepth 20000 in
theorem gX6_barge_X6_isBound : GoodIn wsX6_barge (va_wsS RX6 130 yX6_isBound wsX6_isBound) := goodIn_app (goodIn_of _ (by decide +kernel)) ggX6_barge_X6_isBound
set_option maxRecDepth 20000 in
theorem ggX6_barge_X0_fits : GoodIn wsX6_barge wsX0_fits := goodIn_r _ [34, 35, 36, 37, 38, 33, 39, 40, 41, 42, 43, 44, 45, 46, 47, 48, 49, 50, 51, 97, 98, 99, 100, 101, 102, 103, 104, 105, 106, 107, 108, 109] (by decide +kernel) (by decide +kernel)
set_option maxRecDepth 20000 in
theorem gX6_barge_X0_fits : GoodIn wsX6_barge (wsV RX6 133 RX0 yX0_fits wsX0_fits) := goodIn_app (goodIn_of _ (by decide +kernel)) ggX6_barge_X0_fits
set_option maxRecDepth 20000 in
theorem ggX6_barge_X0_add : GoodIn wsX6_barge wsX0_add := goodIn_r _ [55, 56, 57, 58, 59, 60, 61, 36, 62, 63, 64, 33, 65, 66, 67, 68, 37, 38, 39, 40, 41, 42, 49, 50, 51, 69, 70, 71, 72, 97, 98, 99, 100, 101, 102, 103, 104, 105, 106, 107, 108, 109] (by decide +kernel) (by decide +kernel)
set_option maxRecDepth 20000 in
theorem gX6_barge_X0_add : GoodIn wsX6_barge (wsV RX6 140 RX0 yX0_add wsX0_add) := goodIn_app (goodIn_of _ (by decide +kernel)) ggX6_barge_X0_add
set_option maxRecDepth 20000 in
theorem ggX6_barge_X3_forget : GoodIn wsX6_barge wsX3_forget := goodIn_r _ [77, 78, 79, 110, 111, 112, 113] (by decide +kernel) (by decide +kernel)
set_option maxRecDepth 20000 in
theorem gX6_barge_X3_forget : GoodIn wsX6_barge (wsV RX6 144 RX3 yX3_forget wsX3_forget) := goodIn_app (goodIn_of _ (by decide +kernel)) ggX6_barge_X3_forget
set_option maxRecDepth 20000 in
theorem ggX6_barge_X6_answer : GoodIn wsX6_barge wsX6_answer := goodIn_r _ [83, 14, 84, 85, 86, 87, 88, 89, 90, 91, 92, 93, 94, 95, 96] (by decide +kernel) (by decide +kernel)
set_option maxRecDepth 20000 in
theorem gX6_barge_X6_answer : GoodIn wsX6_barge (wsV RX6 106 RX6 yX6_answer wsX6_answer) := goodIn_app (goodIn_of _ (by decide +kernel)) ggX6_barge_X6_answer
theorem dX6_barge_0 : decode cX6_barge 0 = .ok (.aload_n 0, 1) := by decide +kernel
theorem dX6_barge_1 : decode cX6_barge 1 = .ok (.invokevirtual 69, 3) := by decide +kernel
theorem dX6_barge_4 : decode cX6_barge 4 = .ok (.ifCond .eq 9, 3) := by decide +kernel
theorem dX6_barge_7 : decode cX6_barge 7 = .ok (.aload_n 0, 1) := by decide +kernel
theorem dX6_barge_8 : decode cX6_barge 8 = .ok (.iconst 1, 1) := by decide +kernel
theorem dX6_barge_9 : decode cX6_barge 9 = .ok (.invokevirtual 99, 3) := by decide +kernel
theorem dX6_barge_12 : decode cX6_barge 12 = .ok (.ireturn, 1) := by decide +kernel
theorem dX6_barge_13 : decode cX6_barge 13 = .ok (.iload_n 1, 1) := by decide +kernel
theorem dX6_barge_14 : decode cX6_barge 14 = .ok (.iload 4, 2) := by decide +kernel
theorem dX6_barge_16 : decode cX6_barge 16 = .ok (.invokestatic 124, 3) := by decide +kernel
theorem dX6_barge_19 : decode cX6_barge 19 = .ok (.ifCond .eq 12, 3) := by decide +kernel
theorem dX6_barge_22 : decode cX6_barge 22 = .ok (.aload_n 0, 1) := by decide +kernel
theorem dX6_barge_23 : decode cX6_barge 23 = .ok (.iload_n 2, 1) := by decide +kernel
theorem dX6_barge_24 : decode cX6_barge 24 = .ok (.iload_n 3, 1) := by decide +kernel
theorem dX6_barge_25 : decode cX6_barge 25 = .ok (.invokevirtual 127, 3) := by decide +kernel
theorem dX6_barge_28 : decode cX6_barge 28 = .ok (.ifCond .eq 9, 3) := by decide +kernel
theorem dX6_barge_31 : decode cX6_barge 31 = .ok (.aload_n 0, 1) := by decide +kernel
theorem dX6_barge_32 : decode cX6_barge 32 = .ok (.iconst 2, 1) := by decide +kernel
theorem dX6_barge_33 : decode cX6_barge 33 = .ok (.invokevirtual 99, 3) := by decide +kernel
theorem dX6_barge_36 : decode cX6_barge 36 = .ok (.ireturn, 1) := by decide +kernel
theorem dX6_barge_37 : decode cX6_barge 37 = .ok (.iload 5, 2) := by decide +kernel
theorem dX6_barge_39 : decode cX6_barge 39 = .ok (.ifCond .eq 14, 3) := by decide +kernel
theorem dX6_barge_42 : decode cX6_barge 42 = .ok (.iload_n 1, 1) := by decide +kernel
theorem dX6_barge_43 : decode cX6_barge 43 = .ok (.invokestatic 130, 3) := by decide +kernel
theorem dX6_barge_46 : decode cX6_barge 46 = .ok (.ifCond .eq 7, 3) := by decide +kernel
theorem dX6_barge_49 : decode cX6_barge 49 = .ok (.iconst 1, 1) := by decide +kernel
theorem dX6_barge_50 : decode cX6_barge 50 = .ok (.goto 4, 3) := by decide +kernel
theorem dX6_barge_53 : decode cX6_barge 53 = .ok (.iconst 0, 1) := by decide +kernel
theorem dX6_barge_54 : decode cX6_barge 54 = .ok (.istore 6, 2) := by decide +kernel
theorem dX6_barge_56 : decode cX6_barge 56 = .ok (.aload_n 0, 1) := by decide +kernel
theorem dX6_barge_57 : decode cX6_barge 57 = .ok (.getfield 19, 3) := by decide +kernel
theorem dX6_barge_60 : decode cX6_barge 60 = .ok (.iload_n 1, 1) := by decide +kernel
theorem dX6_barge_61 : decode cX6_barge 61 = .ok (.iload_n 2, 1) := by decide +kernel
theorem dX6_barge_62 : decode cX6_barge 62 = .ok (.iload_n 3, 1) := by decide +kernel
theorem dX6_barge_63 : decode cX6_barge 63 = .ok (.iload 4, 2) := by decide +kernel
theorem dX6_barge_65 : decode cX6_barge 65 = .ok (.iload 6, 2) := by decide +kernel
theorem dX6_barge_67 : decode cX6_barge 67 = .ok (.invokevirtual 133, 3) := by decide +kernel
theorem dX6_barge_70 : decode cX6_barge 70 = .ok (.ifCond .ne 10, 3) := by decide +kernel
theorem dX6_barge_73 : decode cX6_barge 73 = .ok (.aload_n 0, 1) := by decide +kernel
theorem dX6_barge_74 : decode cX6_barge 74 = .ok (.bipush 7, 2) := by decide +kernel
theorem dX6_barge_76 : decode cX6_barge 76 = .ok (.invokevirtual 99, 3) := by decide +kernel
theorem dX6_barge_79 : decode cX6_barge 79 = .ok (.ireturn, 1) := by decide +kernel
theorem dX6_barge_80 : decode cX6_barge 80 = .ok (.aload_n 0, 1) := by decide +kernel
theorem dX6_barge_81 : decode cX6_barge 81 = .ok (.getfield 19, 3) := by decide +kernel
theorem dX6_barge_84 : decode cX6_barge 84 = .ok (.getfield 137, 3) := by decide +kernel
theorem dX6_barge_87 : decode cX6_barge 87 = .ok (.bipush 12, 2) := by decide +kernel
theorem dX6_barge_89 : decode cX6_barge 89 = .ok (.if_icmp .lt 10, 3) := by decide +kernel
theorem dX6_barge_92 : decode cX6_barge 92 = .ok (.aload_n 0, 1) := by decide +kernel
theorem dX6_barge_93 : decode cX6_barge 93 = .ok (.bipush 8, 2) := by decide +kernel
theorem dX6_barge_95 : decode cX6_barge 95 = .ok (.invokevirtual 99, 3) := by decide +kernel
theorem dX6_barge_98 : decode cX6_barge 98 = .ok (.ireturn, 1) := by decide +kernel
theorem dX6_barge_99 : decode cX6_barge 99 = .ok (.aload_n 0, 1) := by decide +kernel
theorem dX6_barge_100 : decode cX6_barge 100 = .ok (.getfield 19, 3) := by decide +kernel
theorem dX6_barge_103 : decode cX6_barge 103 = .ok (.iload_n 1, 1) := by decide +kernel
theorem dX6_barge_104 : decode cX6_barge 104 = .ok (.bipush 8, 2) := by decide +kernel
theorem dX6_barge_106 : decode cX6_barge 106 = .ok (.iload_n 3, 1) := by decide +kernel
theorem dX6_barge_107 : decode cX6_barge 107 = .ok (.imul, 1) := by decide +kernel
theorem dX6_barge_108 : decode cX6_barge 108 = .ok (.iload_n 2, 1) := by decide +kernel
theorem dX6_barge_109 : decode cX6_barge 109 = .ok (.iadd, 1) := by decide +kernel
theorem dX6_barge_110 : decode cX6_barge 110 = .ok (.iload 4, 2) := by decide +kernel
theorem dX6_barge_112 : decode cX6_barge 112 = .ok (.iload 6, 2) := by decide +kernel
theorem dX6_barge_114 : decode cX6_barge 114 = .ok (.invokevirtual 140, 3) := by decide +kernel
theorem dX6_barge_117 : decode cX6_barge 117 = .ok (.aload_n 0, 1) := by decide +kernel
theorem dX6_barge_118 : decode cX6_barge 118 = .ok (.getfield 29, 3) := by decide +kernel
theorem dX6_barge_121 : decode cX6_barge 121 = .ok (.invokevirtual 144, 3) := by decide +kernel
theorem dX6_barge_124 : decode cX6_barge 124 = .ok (.aload_n 0, 1) := by decide +kernel
theorem dX6_barge_125 : decode cX6_barge 125 = .ok (.aload_n 0, 1) := by decide +kernel
theorem dX6_barge_126 : decode cX6_barge 126 = .ok (.getfield 19, 3) := by decide +kernel
theorem dX6_barge_129 : decode cX6_barge 129 = .ok (.getfield 137, 3) := by decide +kernel
theorem dX6_barge_132 : decode cX6_barge 132 = .ok (.iconst 1, 1) := by decide +kernel
theorem dX6_barge_133 : decode cX6_barge 133 = .ok (.isub, 1) := by decide +kernel
theorem dX6_barge_134 : decode cX6_barge 134 = .ok (.invokevirtual 106, 3) := by decide +kernel
theorem dX6_barge_137 : decode cX6_barge 137 = .ok (.ireturn, 1) := by decide +kernel
set_option maxRecDepth 20000 in
theorem ggX6_gate_X6_faultOfBarge : GoodIn wsX6_gate wsX6_faultOfBarge := goodIn_r _ [8, 1, 9, 10, 11, 12, 7, 13, 14, 60, 61, 62, 63, 64, 65, 66, 67, 68, 69, 70, 71, 72, 73, 74, 75, 76, 77, 78, 79, 80, 81, 82, 83, 84, 85] (by decide +kernel) (by decide +kernel)
set_option maxRecDepth 20000 in
theorem gX6_gate_X6_faultOfBarge : GoodIn wsX6_gate (wsV RX6 147 RX6 yX6_faultOfBarge wsX6_faultOfBarge) := goodIn_app (goodIn_of _ (by decide +kernel)) ggX6_gate_X6_faultOfBarge
set_option maxRecDepth 20000 in
theorem ggX6_gate_X6_deny : GoodIn wsX6_gate wsX6_deny := goodIn_r _ [18, 19, 60, 61, 62, 63, 64, 65, 66, 67, 68, 69, 70, 71, 72] (by decide +kernel) (by decide +kernel)
set_option maxRecDepth 20000 in
theorem gX6_gate_X6_deny : GoodIn wsX6_gate (wsV RX6 54 RX6 yX6_deny wsX6_deny) := goodIn_app (goodIn_of _ (by decide +kernel)) ggX6_gate_X6_deny
set_option maxRecDepth 20000 in
theorem ggX6_gate_X6_isNoField : GoodIn wsX6_gate wsX6_isNoField := goodIn_r _ [23, 1, 14, 24, 25, 26, 7, 27, 28, 60, 61, 62, 63, 64, 65, 66, 67, 68, 69, 70, 71, 72, 73, 74, 75, 76, 77, 78, 79, 80, 81, 82, 83, 84, 85] (by decide +kernel) (by decide +kernel)
set_option maxRecDepth 20000 in
theorem gX6_gate_X6_isNoField : GoodIn wsX6_gate (wsV RX6 127 RX6 yX6_isNoField wsX6_isNoField) := goodIn_app (goodIn_of _ (by decide +kernel)) ggX6_gate_X6_isNoField
set_option maxRecDepth 20000 in
theorem ggX6_gate_X0_isOnLine : GoodIn wsX6_gate wsX0_isOnLine := goodIn_r _ [33, 34, 35, 36, 37, 38, 39, 40, 32, 41, 42, 43, 73, 74, 75, 76, 77, 78, 79, 80, 81, 82, 83, 84, 85] (by decide +kernel) (by decide +kernel)
set_option maxRecDepth 20000 in
theorem gX6_gate_X0_isOnLine : GoodIn wsX6_gate (wsV RX6 154 RX0 yX0_isOnLine wsX0_isOnLine) := goodIn_app (goodIn_of _ (by decide +kernel)) ggX6_gate_X0_isOnLine
set_option maxRecDepth 20000 in
theorem ggX6_gate_X6_changed : GoodIn wsX6_gate wsX6_changed := goodIn_r _ [47, 48, 49, 50, 51, 52, 53, 54, 55, 56, 57, 58, 7, 59, 19, 60, 61, 62, 63, 64, 65, 66, 67, 68, 69, 70, 71, 72, 86, 87, 88, 89] (by decide +kernel) (by decide +kernel)
set_option maxRecDepth 20000 in
theorem gX6_gate_X6_changed : GoodIn wsX6_gate (wsV RX6 65 RX6 yX6_changed wsX6_changed) := goodIn_app (goodIn_of _ (by decide +kernel)) ggX6_gate_X6_changed
theorem dX6_gate_0 : decode cX6_gate 0 = .ok (.aload_n 0, 1) := by decide +kernel
theorem dX6_gate_1 : decode cX6_gate 1 = .ok (.iload_n 1, 1) := by decide +kernel
theorem dX6_gate_2 : decode cX6_gate 2 = .ok (.invokevirtual 147, 3) := by decide +kernel
theorem dX6_gate_5 : decode cX6_gate 5 = .ok (.istore 4, 2) := by decide +kernel
theorem dX6_gate_7 : decode cX6_gate 7 = .ok (.iload 4, 2) := by decide +kernel
theorem dX6_gate_9 : decode cX6_gate 9 = .ok (.ifCond .eq 10, 3) := by decide +kernel
theorem dX6_gate_12 : decode cX6_gate 12 = .ok (.aload_n 0, 1) := by decide +kernel
theorem dX6_gate_13 : decode cX6_gate 13 = .ok (.iload 4, 2) := by decide +kernel
theorem dX6_gate_15 : decode cX6_gate 15 = .ok (.invokevirtual 54, 3) := by decide +kernel
theorem dX6_gate_18 : decode cX6_gate 18 = .ok (.ireturn, 1) := by decide +kernel
theorem dX6_gate_19 : decode cX6_gate 19 = .ok (.aload_n 0, 1) := by decide +kernel
theorem dX6_gate_20 : decode cX6_gate 20 = .ok (.iload_n 2, 1) := by decide +kernel
theorem dX6_gate_21 : decode cX6_gate 21 = .ok (.iload_n 3, 1) := by decide +kernel
theorem dX6_gate_22 : decode cX6_gate 22 = .ok (.invokevirtual 127, 3) := by decide +kernel
theorem dX6_gate_25 : decode cX6_gate 25 = .ok (.ifCond .eq 9, 3) := by decide +kernel
theorem dX6_gate_28 : decode cX6_gate 28 = .ok (.aload_n 0, 1) := by decide +kernel
theorem dX6_gate_29 : decode cX6_gate 29 = .ok (.iconst 2, 1) := by decide +kernel
theorem dX6_gate_30 : decode cX6_gate 30 = .ok (.invokevirtual 54, 3) := by decide +kernel
theorem dX6_gate_33 : decode cX6_gate 33 = .ok (.ireturn, 1) := by decide +kernel
theorem dX6_gate_34 : decode cX6_gate 34 = .ok (.aload_n 0, 1) := by decide +kernel
theorem dX6_gate_35 : decode cX6_gate 35 = .ok (.getfield 19, 3) := by decide +kernel
theorem dX6_gate_38 : decode cX6_gate 38 = .ok (.getfield 150, 3) := by decide +kernel
theorem dX6_gate_41 : decode cX6_gate 41 = .ok (.iload_n 1, 1) := by decide +kernel
theorem dX6_gate_42 : decode cX6_gate 42 = .ok (.iaload, 1) := by decide +kernel
theorem dX6_gate_43 : decode cX6_gate 43 = .ok (.iconst 5, 1) := by decide +kernel
theorem dX6_gate_44 : decode cX6_gate 44 = .ok (.if_icmp .eq 9, 3) := by decide +kernel
theorem dX6_gate_47 : decode cX6_gate 47 = .ok (.aload_n 0, 1) := by decide +kernel
theorem dX6_gate_48 : decode cX6_gate 48 = .ok (.iconst 5, 1) := by decide +kernel
theorem dX6_gate_49 : decode cX6_gate 49 = .ok (.invokevirtual 54, 3) := by decide +kernel
theorem dX6_gate_52 : decode cX6_gate 52 = .ok (.ireturn, 1) := by decide +kernel
theorem dX6_gate_53 : decode cX6_gate 53 = .ok (.aload_n 0, 1) := by decide +kernel
theorem dX6_gate_54 : decode cX6_gate 54 = .ok (.getfield 19, 3) := by decide +kernel
theorem dX6_gate_57 : decode cX6_gate 57 = .ok (.iload_n 1, 1) := by decide +kernel
theorem dX6_gate_58 : decode cX6_gate 58 = .ok (.iload_n 2, 1) := by decide +kernel
theorem dX6_gate_59 : decode cX6_gate 59 = .ok (.iload_n 3, 1) := by decide +kernel
theorem dX6_gate_60 : decode cX6_gate 60 = .ok (.invokevirtual 154, 3) := by decide +kernel
theorem dX6_gate_63 : decode cX6_gate 63 = .ok (.ifCond .ne 10, 3) := by decide +kernel
theorem dX6_gate_66 : decode cX6_gate 66 = .ok (.aload_n 0, 1) := by decide +kernel
theorem dX6_gate_67 : decode cX6_gate 67 = .ok (.bipush 7, 2) := by decide +kernel
theorem dX6_gate_69 : decode cX6_gate 69 = .ok (.invokevirtual 54, 3) := by decide +kernel
theorem dX6_gate_72 : decode cX6_gate 72 = .ok (.ireturn, 1) := by decide +kernel
theorem dX6_gate_73 : decode cX6_gate 73 = .ok (.aload_n 0, 1) := by decide +kernel
theorem dX6_gate_74 : decode cX6_gate 74 = .ok (.getfield 19, 3) := by decide +kernel
theorem dX6_gate_77 : decode cX6_gate 77 = .ok (.getfield 158, 3) := by decide +kernel
theorem dX6_gate_80 : decode cX6_gate 80 = .ok (.iload_n 1, 1) := by decide +kernel
theorem dX6_gate_81 : decode cX6_gate 81 = .ok (.bipush 8, 2) := by decide +kernel
theorem dX6_gate_83 : decode cX6_gate 83 = .ok (.iload_n 3, 1) := by decide +kernel
theorem dX6_gate_84 : decode cX6_gate 84 = .ok (.imul, 1) := by decide +kernel
theorem dX6_gate_85 : decode cX6_gate 85 = .ok (.iload_n 2, 1) := by decide +kernel
theorem dX6_gate_86 : decode cX6_gate 86 = .ok (.iadd, 1) := by decide +kernel
theorem dX6_gate_87 : decode cX6_gate 87 = .ok (.iastore, 1) := by decide +kernel
theorem dX6_gate_88 : decode cX6_gate 88 = .ok (.aload_n 0, 1) := by decide +kernel
theorem dX6_gate_89 : decode cX6_gate 89 = .ok (.invokevirtual 65, 3) := by decide +kernel
theorem dX6_gate_92 : decode cX6_gate 92 = .ok (.ireturn, 1) := by decide +kernel
set_option maxRecDepth 20000 in
theorem ggX6_lift_X6_faultOfBarge : GoodIn wsX6_lift wsX6_faultOfBarge := goodIn_r _ [6, 1, 7, 8, 9, 10, 5, 11, 12, 58, 59, 60, 61, 62, 63, 64, 65, 66, 67, 68, 69, 70, 71, 72, 73, 74, 75, 76, 77, 78, 79, 80, 81, 82, 83] (by decide +kernel) (by decide +kernel)
set_option maxRecDepth 20000 in
theorem gX6_lift_X6_faultOfBarge : GoodIn wsX6_lift (wsV RX6 147 RX6 yX6_faultOfBarge wsX6_faultOfBarge) := goodIn_app (goodIn_of _ (by decide +kernel)) ggX6_lift_X6_faultOfBarge
set_option maxRecDepth 20000 in
theorem ggX6_lift_X6_deny : GoodIn wsX6_lift wsX6_deny := goodIn_r _ [16, 17, 58, 59, 60, 61, 62, 63, 64, 65, 66, 67, 68, 69, 70] (by decide +kernel) (by decide +kernel)
set_option maxRecDepth 20000 in
theorem gX6_lift_X6_deny : GoodIn wsX6_lift (wsV RX6 54 RX6 yX6_deny wsX6_deny) := goodIn_app (goodIn_of _ (by decide +kernel)) ggX6_lift_X6_deny
set_option maxRecDepth 20000 in
theorem ggX6_lift_X0_drop : GoodIn wsX6_lift wsX0_drop := goodIn_r _ [22, 23, 24, 25, 26, 27, 28, 21, 29, 30, 31, 32, 33, 34, 35, 36, 37, 38, 39, 40, 41, 71, 72, 73, 74, 75, 76, 77, 78, 79, 80, 81, 82, 83] (by decide +kernel) (by decide +kernel)
set_option maxRecDepth 20000 in
theorem gX6_lift_X0_drop : GoodIn wsX6_lift (wsV RX6 161 RX0 yX0_drop wsX0_drop) := goodIn_app (goodIn_of _ (by decide +kernel)) ggX6_lift_X0_drop
set_option maxRecDepth 20000 in
theorem ggX6_lift_X6_changed : GoodIn wsX6_lift wsX6_changed := goodIn_r _ [45, 46, 47, 48, 49, 50, 51, 52, 53, 54, 55, 56, 5, 57, 17, 58, 59, 60, 61, 62, 63, 64, 65, 66, 67, 68, 69, 70, 84, 85, 86, 87] (by decide +kernel) (by decide +kernel)
set_option maxRecDepth 20000 in
theorem gX6_lift_X6_changed : GoodIn wsX6_lift (wsV RX6 65 RX6 yX6_changed wsX6_changed) := goodIn_app (goodIn_of _ (by decide +kernel)) ggX6_lift_X6_changed
theorem dX6_lift_0 : decode cX6_lift 0 = .ok (.aload_n 0, 1) := by decide +kernel
theorem dX6_lift_1 : decode cX6_lift 1 = .ok (.iload_n 1, 1) := by decide +kernel
theorem dX6_lift_2 : decode cX6_lift 2 = .ok (.invokevirtual 147, 3) := by decide +kernel
theorem dX6_lift_5 : decode cX6_lift 5 = .ok (.istore_n 2, 1) := by decide +kernel
theorem dX6_lift_6 : decode cX6_lift 6 = .ok (.iload_n 2, 1) := by decide +kernel
theorem dX6_lift_7 : decode cX6_lift 7 = .ok (.ifCond .eq 9, 3) := by decide +kernel
theorem dX6_lift_10 : decode cX6_lift 10 = .ok (.aload_n 0, 1) := by decide +kernel
theorem dX6_lift_11 : decode cX6_lift 11 = .ok (.iload_n 2, 1) := by decide +kernel
theorem dX6_lift_12 : decode cX6_lift 12 = .ok (.invokevirtual 54, 3) := by decide +kernel
theorem dX6_lift_15 : decode cX6_lift 15 = .ok (.ireturn, 1) := by decide +kernel
theorem dX6_lift_16 : decode cX6_lift 16 = .ok (.aload_n 0, 1) := by decide +kernel
theorem dX6_lift_17 : decode cX6_lift 17 = .ok (.getfield 19, 3) := by decide +kernel
theorem dX6_lift_20 : decode cX6_lift 20 = .ok (.iload_n 1, 1) := by decide +kernel
theorem dX6_lift_21 : decode cX6_lift 21 = .ok (.invokevirtual 161, 3) := by decide +kernel
theorem dX6_lift_24 : decode cX6_lift 24 = .ok (.aload_n 0, 1) := by decide +kernel
theorem dX6_lift_25 : decode cX6_lift 25 = .ok (.invokevirtual 65, 3) := by decide +kernel
theorem dX6_lift_28 : decode cX6_lift 28 = .ok (.ireturn, 1) := by decide +kernel
set_option maxRecDepth 20000 in
theorem ggX6_lies_X6_faultOfBarge : GoodIn wsX6_lies wsX6_faultOfBarge := goodIn_r _ [7, 1, 8, 9, 10, 11, 6, 12, 13, 33, 34, 35, 36, 37, 38, 39, 40, 41, 42, 43, 44, 45, 46, 47, 48, 49, 50, 51, 52, 53, 54, 55, 56, 57, 58] (by decide +kernel) (by decide +kernel)
set_option maxRecDepth 20000 in
theorem gX6_lies_X6_faultOfBarge : GoodIn wsX6_lies (wsV RX6 147 RX6 yX6_faultOfBarge wsX6_faultOfBarge) := goodIn_app (goodIn_of _ (by decide +kernel)) ggX6_lies_X6_faultOfBarge
set_option maxRecDepth 20000 in
theorem ggX6_lies_X6_refuse : GoodIn wsX6_lies wsX6_refuse := goodIn_r _ [17, 18, 33, 34, 35, 36, 37, 38, 39, 40, 41, 42, 43, 44, 45] (by decide +kernel) (by decide +kernel)
set_option maxRecDepth 20000 in
theorem gX6_lies_X6_refuse : GoodIn wsX6_lies (wsV RX6 99 RX6 yX6_refuse wsX6_refuse) := goodIn_app (goodIn_of _ (by decide +kernel)) ggX6_lies_X6_refuse
set_option maxRecDepth 20000 in
theorem ggX6_lies_X0_detail : GoodIn wsX6_lies wsX0_detail := goodIn_r _ [23, 24, 25, 26, 27, 28, 46, 47, 48, 49, 50, 51, 52, 53, 54, 55, 56, 57, 58] (by decide +kernel) (by decide +kernel)
set_option maxRecDepth 20000 in
theorem gX6_lies_X0_detail : GoodIn wsX6_lies (wsV RX6 164 RX0 yX0_detail wsX0_detail) := goodIn_app (goodIn_of _ (by decide +kernel)) ggX6_lies_X0_detail
set_option maxRecDepth 20000 in
theorem ggX6_lies_X6_answer : GoodIn wsX6_lies wsX6_answer := goodIn_r _ [32, 18, 33, 34, 35, 36, 37, 38, 39, 40, 41, 42, 43, 44, 45] (by decide +kernel) (by decide +kernel)
set_option maxRecDepth 20000 in
theorem gX6_lies_X6_answer : GoodIn wsX6_lies (wsV RX6 106 RX6 yX6_answer wsX6_answer) := goodIn_app (goodIn_of _ (by decide +kernel)) ggX6_lies_X6_answer
theorem dX6_lies_0 : decode cX6_lies 0 = .ok (.aload_n 0, 1) := by decide +kernel
theorem dX6_lies_1 : decode cX6_lies 1 = .ok (.iload_n 1, 1) := by decide +kernel
theorem dX6_lies_2 : decode cX6_lies 2 = .ok (.invokevirtual 147, 3) := by decide +kernel
theorem dX6_lies_5 : decode cX6_lies 5 = .ok (.istore_n 3, 1) := by decide +kernel
theorem dX6_lies_6 : decode cX6_lies 6 = .ok (.iload_n 3, 1) := by decide +kernel
theorem dX6_lies_7 : decode cX6_lies 7 = .ok (.ifCond .eq 9, 3) := by decide +kernel
theorem dX6_lies_10 : decode cX6_lies 10 = .ok (.aload_n 0, 1) := by decide +kernel
theorem dX6_lies_11 : decode cX6_lies 11 = .ok (.iload_n 3, 1) := by decide +kernel
theorem dX6_lies_12 : decode cX6_lies 12 = .ok (.invokevirtual 99, 3) := by decide +kernel
theorem dX6_lies_15 : decode cX6_lies 15 = .ok (.ireturn, 1) := by decide +kernel
theorem dX6_lies_16 : decode cX6_lies 16 = .ok (.iload_n 2, 1) := by decide +kernel
theorem dX6_lies_17 : decode cX6_lies 17 = .ok (.ifCond .lt 9, 3) := by decide +kernel
theorem dX6_lies_20 : decode cX6_lies 20 = .ok (.iload_n 2, 1) := by decide +kernel
theorem dX6_lies_21 : decode cX6_lies 21 = .ok (.bipush 6, 2) := by decide +kernel
theorem dX6_lies_23 : decode cX6_lies 23 = .ok (.if_icmp .le 9, 3) := by decide +kernel
theorem dX6_lies_26 : decode cX6_lies 26 = .ok (.aload_n 0, 1) := by decide +kernel
theorem dX6_lies_27 : decode cX6_lies 27 = .ok (.iconst 2, 1) := by decide +kernel
theorem dX6_lies_28 : decode cX6_lies 28 = .ok (.invokevirtual 99, 3) := by decide +kernel
theorem dX6_lies_31 : decode cX6_lies 31 = .ok (.ireturn, 1) := by decide +kernel
theorem dX6_lies_32 : decode cX6_lies 32 = .ok (.iload_n 2, 1) := by decide +kernel
theorem dX6_lies_33 : decode cX6_lies 33 = .ok (.iconst 5, 1) := by decide +kernel
theorem dX6_lies_34 : decode cX6_lies 34 = .ok (.if_icmp .lt 22, 3) := by decide +kernel
theorem dX6_lies_37 : decode cX6_lies 37 = .ok (.aload_n 0, 1) := by decide +kernel
theorem dX6_lies_38 : decode cX6_lies 38 = .ok (.getfield 19, 3) := by decide +kernel
theorem dX6_lies_41 : decode cX6_lies 41 = .ok (.getfield 150, 3) := by decide +kernel
theorem dX6_lies_44 : decode cX6_lies 44 = .ok (.iload_n 1, 1) := by decide +kernel
theorem dX6_lies_45 : decode cX6_lies 45 = .ok (.iaload, 1) := by decide +kernel
theorem dX6_lies_46 : decode cX6_lies 46 = .ok (.iconst 5, 1) := by decide +kernel
theorem dX6_lies_47 : decode cX6_lies 47 = .ok (.if_icmp .eq 9, 3) := by decide +kernel
theorem dX6_lies_50 : decode cX6_lies 50 = .ok (.aload_n 0, 1) := by decide +kernel
theorem dX6_lies_51 : decode cX6_lies 51 = .ok (.iconst 5, 1) := by decide +kernel
theorem dX6_lies_52 : decode cX6_lies 52 = .ok (.invokevirtual 99, 3) := by decide +kernel
theorem dX6_lies_55 : decode cX6_lies 55 = .ok (.ireturn, 1) := by decide +kernel
theorem dX6_lies_56 : decode cX6_lies 56 = .ok (.aload_n 0, 1) := by decide +kernel
theorem dX6_lies_57 : decode cX6_lies 57 = .ok (.aload_n 0, 1) := by decide +kernel
theorem dX6_lies_58 : decode cX6_lies 58 = .ok (.getfield 19, 3) := by decide +kernel
theorem dX6_lies_61 : decode cX6_lies 61 = .ok (.iload_n 1, 1) := by decide +kernel
theorem dX6_lies_62 : decode cX6_lies 62 = .ok (.iload_n 2, 1) := by decide +kernel
theorem dX6_lies_63 : decode cX6_lies 63 = .ok (.invokevirtual 164, 3) := by decide +kernel
theorem dX6_lies_66 : decode cX6_lies 66 = .ok (.invokevirtual 106, 3) := by decide +kernel
theorem dX6_lies_69 : decode cX6_lies 69 = .ok (.ireturn, 1) := by decide +kernel
set_option maxRecDepth 20000 in
theorem ggX6_field_X6_hasNoBasin : GoodIn wsX6_field wsX6_hasNoBasin := goodIn_r _ [6, 1, 7, 47, 48, 49, 50, 51, 52, 53, 54, 55, 56, 57, 58, 59, 60, 61, 62, 63, 64, 65, 66, 67, 68, 69, 70, 71, 72] (by decide +kernel) (by decide +kernel)
set_option maxRecDepth 20000 in
theorem gX6_field_X6_hasNoBasin : GoodIn wsX6_field (wsV RX6 69 RX6 yX6_hasNoBasin wsX6_hasNoBasin) := goodIn_app (goodIn_of _ (by decide +kernel)) ggX6_field_X6_hasNoBasin
set_option maxRecDepth 20000 in
theorem ggX6_field_X6_refuse : GoodIn wsX6_field wsX6_refuse := goodIn_r _ [11, 12, 47, 48, 49, 50, 51, 52, 53, 54, 55, 56, 57, 58, 59] (by decide +kernel) (by decide +kernel)
set_option maxRecDepth 20000 in
theorem gX6_field_X6_refuse : GoodIn wsX6_field (wsV RX6 99 RX6 yX6_refuse wsX6_refuse) := goodIn_app (goodIn_of _ (by decide +kernel)) ggX6_field_X6_refuse
set_option maxRecDepth 20000 in
theorem ggX6_field_X6_isNoField : GoodIn wsX6_field wsX6_isNoField := goodIn_r _ [16, 1, 7, 17, 18, 19, 5, 20, 21, 47, 48, 49, 50, 51, 52, 53, 54, 55, 56, 57, 58, 59, 60, 61, 62, 63, 64, 65, 66, 67, 68, 69, 70, 71, 72] (by decide +kernel) (by decide +kernel)
set_option maxRecDepth 20000 in
theorem gX6_field_X6_isNoField : GoodIn wsX6_field (wsV RX6 127 RX6 yX6_isNoField wsX6_isNoField) := goodIn_app (goodIn_of _ (by decide +kernel)) ggX6_field_X6_isNoField
set_option maxRecDepth 20000 in
theorem ggX6_field_X0_signAt : GoodIn wsX6_field wsX0_signAt := goodIn_r _ [26, 27, 28, 29, 25, 30, 31, 32, 33, 34, 35, 36, 37, 38, 39, 40, 41, 42, 60, 61, 62, 63, 64, 65, 66, 67, 68, 69, 70, 71, 72] (by decide +kernel) (by decide +kernel)
set_option maxRecDepth 20000 in
theorem gX6_field_X0_signAt : GoodIn wsX6_field (wsV RX6 167 RX0 yX0_signAt wsX0_signAt) := goodIn_app (goodIn_of _ (by decide +kernel)) ggX6_field_X0_signAt
set_option maxRecDepth 20000 in
theorem ggX6_field_X6_answer : GoodIn wsX6_field wsX6_answer := goodIn_r _ [46, 12, 47, 48, 49, 50, 51, 52, 53, 54, 55, 56, 57, 58, 59] (by decide +kernel) (by decide +kernel)
set_option maxRecDepth 20000 in
theorem gX6_field_X6_answer : GoodIn wsX6_field (wsV RX6 106 RX6 yX6_answer wsX6_answer) := goodIn_app (goodIn_of _ (by decide +kernel)) ggX6_field_X6_answer
theorem dX6_field_0 : decode cX6_field 0 = .ok (.aload_n 0, 1) := by decide +kernel
theorem dX6_field_1 : decode cX6_field 1 = .ok (.invokevirtual 69, 3) := by decide +kernel
theorem dX6_field_4 : decode cX6_field 4 = .ok (.ifCond .eq 9, 3) := by decide +kernel
theorem dX6_field_7 : decode cX6_field 7 = .ok (.aload_n 0, 1) := by decide +kernel
theorem dX6_field_8 : decode cX6_field 8 = .ok (.iconst 1, 1) := by decide +kernel
theorem dX6_field_9 : decode cX6_field 9 = .ok (.invokevirtual 99, 3) := by decide +kernel
theorem dX6_field_12 : decode cX6_field 12 = .ok (.ireturn, 1) := by decide +kernel
theorem dX6_field_13 : decode cX6_field 13 = .ok (.aload_n 0, 1) := by decide +kernel
theorem dX6_field_14 : decode cX6_field 14 = .ok (.iload_n 1, 1) := by decide +kernel
theorem dX6_field_15 : decode cX6_field 15 = .ok (.iload_n 2, 1) := by decide +kernel
theorem dX6_field_16 : decode cX6_field 16 = .ok (.invokevirtual 127, 3) := by decide +kernel
theorem dX6_field_19 : decode cX6_field 19 = .ok (.ifCond .eq 9, 3) := by decide +kernel
theorem dX6_field_22 : decode cX6_field 22 = .ok (.aload_n 0, 1) := by decide +kernel
theorem dX6_field_23 : decode cX6_field 23 = .ok (.iconst 2, 1) := by decide +kernel
theorem dX6_field_24 : decode cX6_field 24 = .ok (.invokevirtual 99, 3) := by decide +kernel
theorem dX6_field_27 : decode cX6_field 27 = .ok (.ireturn, 1) := by decide +kernel
theorem dX6_field_28 : decode cX6_field 28 = .ok (.aload_n 0, 1) := by decide +kernel
theorem dX6_field_29 : decode cX6_field 29 = .ok (.aload_n 0, 1) := by decide +kernel
theorem dX6_field_30 : decode cX6_field 30 = .ok (.getfield 19, 3) := by decide +kernel
theorem dX6_field_33 : decode cX6_field 33 = .ok (.iload_n 1, 1) := by decide +kernel
theorem dX6_field_34 : decode cX6_field 34 = .ok (.iload_n 2, 1) := by decide +kernel
theorem dX6_field_35 : decode cX6_field 35 = .ok (.invokevirtual 167, 3) := by decide +kernel
theorem dX6_field_38 : decode cX6_field 38 = .ok (.invokevirtual 106, 3) := by decide +kernel
theorem dX6_field_41 : decode cX6_field 41 = .ok (.ireturn, 1) := by decide +kernel
set_option maxRecDepth 20000 in
theorem ggX6_count_X6_hasNoBasin : GoodIn wsX6_count wsX6_hasNoBasin := goodIn_r _ [14, 1, 3, 44, 45, 46, 47, 48, 49, 50, 51, 52, 53, 54, 55, 56, 57, 58, 59, 60, 61, 62, 63, 64, 65, 66, 67, 68, 69] (by decide +kernel) (by decide +kernel)
set_option maxRecDepth 20000 in
theorem gX6_count_X6_hasNoBasin : GoodIn wsX6_count (wsV RX6 69 RX6 yX6_hasNoBasin wsX6_hasNoBasin) := goodIn_app (goodIn_of _ (by decide +kernel)) ggX6_count_X6_hasNoBasin
set_option maxRecDepth 20000 in
theorem ggX6_count_X6_refuse : GoodIn wsX6_count wsX6_refuse := goodIn_r _ [18, 19, 44, 45, 46, 47, 48, 49, 50, 51, 52, 53, 54, 55, 56] (by decide +kernel) (by decide +kernel)
set_option maxRecDepth 20000 in
theorem gX6_count_X6_refuse : GoodIn wsX6_count (wsV RX6 99 RX6 yX6_refuse wsX6_refuse) := goodIn_app (goodIn_of _ (by decide +kernel)) ggX6_count_X6_refuse
set_option maxRecDepth 20000 in
theorem ggX6_count_J13_bitCount_95d88 : GoodIn wsX6_count wsJ13_bitCount_95d88 := goodIn_r _ [23, 24, 25, 26] (by decide +kernel) (by decide +kernel)
set_option maxRecDepth 20000 in
theorem gX6_count_J13_bitCount_95d88 : GoodIn wsX6_count (va_wsS RX6 174 yJ13_bitCount_95d88 wsJ13_bitCount_95d88) := goodIn_app (goodIn_of _ (by decide +kernel)) ggX6_count_J13_bitCount_95d88
set_option maxRecDepth 20000 in
theorem ggX6_count_X6_answer : GoodIn wsX6_count wsX6_answer := goodIn_r _ [30, 19, 44, 45, 46, 47, 48, 49, 50, 51, 52, 53, 54, 55, 56] (by decide +kernel) (by decide +kernel)
set_option maxRecDepth 20000 in
theorem gX6_count_X6_answer : GoodIn wsX6_count (wsV RX6 106 RX6 yX6_answer wsX6_answer) := goodIn_app (goodIn_of _ (by decide +kernel)) ggX6_count_X6_answer
set_option maxRecDepth 20000 in
theorem ggX6_count_X0_isFreed : GoodIn wsX6_count wsX0_isFreed := goodIn_r _ [35, 36, 37, 38, 39, 34, 40, 41, 42, 43, 57, 58, 59, 60, 61, 62, 63, 64, 65, 66, 67, 68, 69] (by decide +kernel) (by decide +kernel)
set_option maxRecDepth 20000 in
theorem gX6_count_X0_isFreed : GoodIn wsX6_count (wsV RX6 186 RX0 yX0_isFreed wsX0_isFreed) := goodIn_app (goodIn_of _ (by decide +kernel)) ggX6_count_X0_isFreed
theorem dX6_count_0 : decode cX6_count 0 = .ok (.aload_n 0, 1) := by decide +kernel
theorem dX6_count_1 : decode cX6_count 1 = .ok (.invokevirtual 69, 3) := by decide +kernel
theorem dX6_count_4 : decode cX6_count 4 = .ok (.ifCond .eq 9, 3) := by decide +kernel
theorem dX6_count_7 : decode cX6_count 7 = .ok (.aload_n 0, 1) := by decide +kernel
theorem dX6_count_8 : decode cX6_count 8 = .ok (.iconst 1, 1) := by decide +kernel
theorem dX6_count_9 : decode cX6_count 9 = .ok (.invokevirtual 99, 3) := by decide +kernel
theorem dX6_count_12 : decode cX6_count 12 = .ok (.ireturn, 1) := by decide +kernel
theorem dX6_count_13 : decode cX6_count 13 = .ok (.aload_n 0, 1) := by decide +kernel
theorem dX6_count_14 : decode cX6_count 14 = .ok (.getfield 19, 3) := by decide +kernel
theorem dX6_count_17 : decode cX6_count 17 = .ok (.getfield 170, 3) := by decide +kernel
theorem dX6_count_20 : decode cX6_count 20 = .ok (.invokestatic 174, 3) := by decide +kernel
theorem dX6_count_23 : decode cX6_count 23 = .ok (.istore_n 2, 1) := by decide +kernel
theorem dX6_count_24 : decode cX6_count 24 = .ok (.iload_n 1, 1) := by decide +kernel
theorem dX6_count_25 : decode cX6_count 25 = .ok (.tableswitch 166 0 7 #[47, 59, 71, 83, 89, 122, 142, 154], 47) := by decide +kernel
theorem dX6_count_72 : decode cX6_count 72 = .ok (.aload_n 0, 1) := by decide +kernel
theorem dX6_count_73 : decode cX6_count 73 = .ok (.aload_n 0, 1) := by decide +kernel
theorem dX6_count_74 : decode cX6_count 74 = .ok (.getfield 19, 3) := by decide +kernel
theorem dX6_count_77 : decode cX6_count 77 = .ok (.getfield 75, 3) := by decide +kernel
theorem dX6_count_80 : decode cX6_count 80 = .ok (.invokevirtual 106, 3) := by decide +kernel
theorem dX6_count_83 : decode cX6_count 83 = .ok (.ireturn, 1) := by decide +kernel
theorem dX6_count_84 : decode cX6_count 84 = .ok (.aload_n 0, 1) := by decide +kernel
theorem dX6_count_85 : decode cX6_count 85 = .ok (.aload_n 0, 1) := by decide +kernel
theorem dX6_count_86 : decode cX6_count 86 = .ok (.getfield 19, 3) := by decide +kernel
theorem dX6_count_89 : decode cX6_count 89 = .ok (.getfield 180, 3) := by decide +kernel
theorem dX6_count_92 : decode cX6_count 92 = .ok (.invokevirtual 106, 3) := by decide +kernel
theorem dX6_count_95 : decode cX6_count 95 = .ok (.ireturn, 1) := by decide +kernel
theorem dX6_count_96 : decode cX6_count 96 = .ok (.aload_n 0, 1) := by decide +kernel
theorem dX6_count_97 : decode cX6_count 97 = .ok (.aload_n 0, 1) := by decide +kernel
theorem dX6_count_98 : decode cX6_count 98 = .ok (.getfield 19, 3) := by decide +kernel
theorem dX6_count_101 : decode cX6_count 101 = .ok (.getfield 137, 3) := by decide +kernel
theorem dX6_count_104 : decode cX6_count 104 = .ok (.invokevirtual 106, 3) := by decide +kernel
theorem dX6_count_107 : decode cX6_count 107 = .ok (.ireturn, 1) := by decide +kernel
theorem dX6_count_108 : decode cX6_count 108 = .ok (.aload_n 0, 1) := by decide +kernel
theorem dX6_count_109 : decode cX6_count 109 = .ok (.iload_n 2, 1) := by decide +kernel
theorem dX6_count_110 : decode cX6_count 110 = .ok (.invokevirtual 106, 3) := by decide +kernel
theorem dX6_count_113 : decode cX6_count 113 = .ok (.ireturn, 1) := by decide +kernel
theorem dX6_count_114 : decode cX6_count 114 = .ok (.aload_n 0, 1) := by decide +kernel
theorem dX6_count_115 : decode cX6_count 115 = .ok (.aload_n 0, 1) := by decide +kernel
theorem dX6_count_116 : decode cX6_count 116 = .ok (.getfield 19, 3) := by decide +kernel
theorem dX6_count_119 : decode cX6_count 119 = .ok (.getfield 75, 3) := by decide +kernel
theorem dX6_count_122 : decode cX6_count 122 = .ok (.aload_n 0, 1) := by decide +kernel
theorem dX6_count_123 : decode cX6_count 123 = .ok (.getfield 19, 3) := by decide +kernel
theorem dX6_count_126 : decode cX6_count 126 = .ok (.getfield 180, 3) := by decide +kernel
theorem dX6_count_129 : decode cX6_count 129 = .ok (.imul, 1) := by decide +kernel
theorem dX6_count_130 : decode cX6_count 130 = .ok (.iload_n 2, 1) := by decide +kernel
theorem dX6_count_131 : decode cX6_count 131 = .ok (.isub, 1) := by decide +kernel
theorem dX6_count_132 : decode cX6_count 132 = .ok (.aload_n 0, 1) := by decide +kernel
theorem dX6_count_133 : decode cX6_count 133 = .ok (.getfield 19, 3) := by decide +kernel
theorem dX6_count_136 : decode cX6_count 136 = .ok (.getfield 183, 3) := by decide +kernel
theorem dX6_count_139 : decode cX6_count 139 = .ok (.invokestatic 174, 3) := by decide +kernel
theorem dX6_count_142 : decode cX6_count 142 = .ok (.isub, 1) := by decide +kernel
theorem dX6_count_143 : decode cX6_count 143 = .ok (.invokevirtual 106, 3) := by decide +kernel
theorem dX6_count_146 : decode cX6_count 146 = .ok (.ireturn, 1) := by decide +kernel
theorem dX6_count_147 : decode cX6_count 147 = .ok (.aload_n 0, 1) := by decide +kernel
theorem dX6_count_148 : decode cX6_count 148 = .ok (.aload_n 0, 1) := by decide +kernel
theorem dX6_count_149 : decode cX6_count 149 = .ok (.getfield 19, 3) := by decide +kernel
theorem dX6_count_152 : decode cX6_count 152 = .ok (.invokevirtual 186, 3) := by decide +kernel
theorem dX6_count_155 : decode cX6_count 155 = .ok (.ifCond .eq 7, 3) := by decide +kernel
theorem dX6_count_158 : decode cX6_count 158 = .ok (.iconst 1, 1) := by decide +kernel
theorem dX6_count_159 : decode cX6_count 159 = .ok (.goto 4, 3) := by decide +kernel
theorem dX6_count_162 : decode cX6_count 162 = .ok (.iconst 0, 1) := by decide +kernel
theorem dX6_count_163 : decode cX6_count 163 = .ok (.invokevirtual 106, 3) := by decide +kernel
theorem dX6_count_166 : decode cX6_count 166 = .ok (.ireturn, 1) := by decide +kernel
theorem dX6_count_167 : decode cX6_count 167 = .ok (.aload_n 0, 1) := by decide +kernel
theorem dX6_count_168 : decode cX6_count 168 = .ok (.aload_n 0, 1) := by decide +kernel
theorem dX6_count_169 : decode cX6_count 169 = .ok (.getfield 29, 3) := by decide +kernel
theorem dX6_count_172 : decode cX6_count 172 = .ok (.getfield 189, 3) := by decide +kernel
theorem dX6_count_175 : decode cX6_count 175 = .ok (.invokevirtual 106, 3) := by decide +kernel
theorem dX6_count_178 : decode cX6_count 178 = .ok (.ireturn, 1) := by decide +kernel
theorem dX6_count_179 : decode cX6_count 179 = .ok (.aload_n 0, 1) := by decide +kernel
theorem dX6_count_180 : decode cX6_count 180 = .ok (.aload_n 0, 1) := by decide +kernel
theorem dX6_count_181 : decode cX6_count 181 = .ok (.getfield 29, 3) := by decide +kernel
theorem dX6_count_184 : decode cX6_count 184 = .ok (.getfield 192, 3) := by decide +kernel
theorem dX6_count_187 : decode cX6_count 187 = .ok (.invokevirtual 106, 3) := by decide +kernel
theorem dX6_count_190 : decode cX6_count 190 = .ok (.ireturn, 1) := by decide +kernel
theorem dX6_count_191 : decode cX6_count 191 = .ok (.aload_n 0, 1) := by decide +kernel
theorem dX6_count_192 : decode cX6_count 192 = .ok (.iconst 2, 1) := by decide +kernel
theorem dX6_count_193 : decode cX6_count 193 = .ok (.invokevirtual 99, 3) := by decide +kernel
theorem dX6_count_196 : decode cX6_count 196 = .ok (.ireturn, 1) := by decide +kernel
set_option maxRecDepth 20000 in
theorem ggX6_room_X6_faultOfBarge : GoodIn wsX6_room wsX6_faultOfBarge := goodIn_r _ [6, 1, 7, 8, 9, 10, 5, 11, 12, 55, 56, 57, 58, 59, 60, 61, 62, 63, 64, 65, 66, 67, 68, 69, 70, 71, 72, 73, 74, 75, 76, 77, 78, 79, 80] (by decide +kernel) (by decide +kernel)
set_option maxRecDepth 20000 in
theorem gX6_room_X6_faultOfBarge : GoodIn wsX6_room (wsV RX6 147 RX6 yX6_faultOfBarge wsX6_faultOfBarge) := goodIn_app (goodIn_of _ (by decide +kernel)) ggX6_room_X6_faultOfBarge
set_option maxRecDepth 20000 in
theorem ggX6_room_X6_refuse : GoodIn wsX6_room wsX6_refuse := goodIn_r _ [16, 17, 55, 56, 57, 58, 59, 60, 61, 62, 63, 64, 65, 66, 67] (by decide +kernel) (by decide +kernel)
set_option maxRecDepth 20000 in
theorem gX6_room_X6_refuse : GoodIn wsX6_room (wsV RX6 99 RX6 yX6_refuse wsX6_refuse) := goodIn_app (goodIn_of _ (by decide +kernel)) ggX6_room_X6_refuse
set_option maxRecDepth 20000 in
theorem ggX6_room_X0_stepsFrom : GoodIn wsX6_room wsX0_stepsFrom := goodIn_r _ [22, 23, 24, 25, 26, 21, 27, 28, 29, 30, 31, 32, 33, 34, 35, 36, 5, 37, 38, 39, 40, 41, 42, 43, 44, 45, 46, 47, 48, 49, 50, 68, 69, 70, 71, 72, 73, 74, 75, 76, 77, 78, 79, 80] (by decide +kernel) (by decide +kernel)
set_option maxRecDepth 20000 in
theorem gX6_room_X0_stepsFrom : GoodIn wsX6_room (wsV RX6 195 RX0 yX0_stepsFrom wsX0_stepsFrom) := goodIn_app (goodIn_of _ (by decide +kernel)) ggX6_room_X0_stepsFrom
set_option maxRecDepth 20000 in
theorem ggX6_room_X6_answer : GoodIn wsX6_room wsX6_answer := goodIn_r _ [54, 17, 55, 56, 57, 58, 59, 60, 61, 62, 63, 64, 65, 66, 67] (by decide +kernel) (by decide +kernel)
set_option maxRecDepth 20000 in
theorem gX6_room_X6_answer : GoodIn wsX6_room (wsV RX6 106 RX6 yX6_answer wsX6_answer) := goodIn_app (goodIn_of _ (by decide +kernel)) ggX6_room_X6_answer
theorem dX6_room_0 : decode cX6_room 0 = .ok (.aload_n 0, 1) := by decide +kernel
theorem dX6_room_1 : decode cX6_room 1 = .ok (.iload_n 1, 1) := by decide +kernel
theorem dX6_room_2 : decode cX6_room 2 = .ok (.invokevirtual 147, 3) := by decide +kernel
theorem dX6_room_5 : decode cX6_room 5 = .ok (.istore_n 3, 1) := by decide +kernel
theorem dX6_room_6 : decode cX6_room 6 = .ok (.iload_n 3, 1) := by decide +kernel
theorem dX6_room_7 : decode cX6_room 7 = .ok (.ifCond .eq 9, 3) := by decide +kernel
theorem dX6_room_10 : decode cX6_room 10 = .ok (.aload_n 0, 1) := by decide +kernel
theorem dX6_room_11 : decode cX6_room 11 = .ok (.iload_n 3, 1) := by decide +kernel
theorem dX6_room_12 : decode cX6_room 12 = .ok (.invokevirtual 99, 3) := by decide +kernel
theorem dX6_room_15 : decode cX6_room 15 = .ok (.ireturn, 1) := by decide +kernel
theorem dX6_room_16 : decode cX6_room 16 = .ok (.iload_n 2, 1) := by decide +kernel
theorem dX6_room_17 : decode cX6_room 17 = .ok (.ifCond .lt 8, 3) := by decide +kernel
theorem dX6_room_20 : decode cX6_room 20 = .ok (.iload_n 2, 1) := by decide +kernel
theorem dX6_room_21 : decode cX6_room 21 = .ok (.iconst 4, 1) := by decide +kernel
theorem dX6_room_22 : decode cX6_room 22 = .ok (.if_icmp .lt 9, 3) := by decide +kernel
theorem dX6_room_25 : decode cX6_room 25 = .ok (.aload_n 0, 1) := by decide +kernel
theorem dX6_room_26 : decode cX6_room 26 = .ok (.iconst 2, 1) := by decide +kernel
theorem dX6_room_27 : decode cX6_room 27 = .ok (.invokevirtual 99, 3) := by decide +kernel
theorem dX6_room_30 : decode cX6_room 30 = .ok (.ireturn, 1) := by decide +kernel
theorem dX6_room_31 : decode cX6_room 31 = .ok (.aload_n 0, 1) := by decide +kernel
theorem dX6_room_32 : decode cX6_room 32 = .ok (.aload_n 0, 1) := by decide +kernel
theorem dX6_room_33 : decode cX6_room 33 = .ok (.getfield 19, 3) := by decide +kernel
theorem dX6_room_36 : decode cX6_room 36 = .ok (.iload_n 1, 1) := by decide +kernel
theorem dX6_room_37 : decode cX6_room 37 = .ok (.iload_n 2, 1) := by decide +kernel
theorem dX6_room_38 : decode cX6_room 38 = .ok (.iconst 0, 1) := by decide +kernel
theorem dX6_room_39 : decode cX6_room 39 = .ok (.invokevirtual 195, 3) := by decide +kernel
theorem dX6_room_42 : decode cX6_room 42 = .ok (.invokevirtual 106, 3) := by decide +kernel
theorem dX6_room_45 : decode cX6_room 45 = .ok (.ireturn, 1) := by decide +kernel
set_option maxRecDepth 20000 in
theorem ggX6_slide_X6_faultOfBarge : GoodIn wsX6_slide wsX6_faultOfBarge := goodIn_r _ [5, 6, 7, 8, 9, 10, 4, 11, 12, 95, 96, 97, 98, 99, 100, 101, 102, 103, 104, 105, 106, 107, 108, 109, 110, 111, 112, 113, 114, 115, 116, 117, 118, 119, 120] (by decide +kernel) (by decide +kernel)
set_option maxRecDepth 20000 in
theorem gX6_slide_X6_faultOfBarge : GoodIn wsX6_slide (wsV RX6 147 RX6 yX6_faultOfBarge wsX6_faultOfBarge) := goodIn_app (goodIn_of _ (by decide +kernel)) ggX6_slide_X6_faultOfBarge
set_option maxRecDepth 20000 in
theorem ggX6_slide_X6_deny : GoodIn wsX6_slide wsX6_deny := goodIn_r _ [16, 17, 95, 96, 97, 98, 99, 100, 101, 102, 103, 104, 105, 106, 107] (by decide +kernel) (by decide +kernel)
set_option maxRecDepth 20000 in
theorem gX6_slide_X6_deny : GoodIn wsX6_slide (wsV RX6 54 RX6 yX6_deny wsX6_deny) := goodIn_app (goodIn_of _ (by decide +kernel)) ggX6_slide_X6_deny
set_option maxRecDepth 20000 in
theorem ggX6_slide_X6_slides : GoodIn wsX6_slide wsX6_slides := goodIn_r _ [21, 6, 22, 23, 24, 25, 26, 27, 28, 29, 30, 31, 32, 33, 34, 35, 36, 37, 38, 39, 40, 41, 4, 42, 43, 44, 45, 46, 47, 48, 49, 50, 51, 52, 53, 54, 55, 56, 57, 58, 59, 60, 61, 62, 63, 64, 65, 66, 67, 68, 69, 70, 71, 95, 96, 97, 98, 99, 100, 101, 102, 103, 104, 105, 106, 107, 108, 109, 110, 111, 112, 113, 114, 115, 116, 117, 118, 119, 120, 121, 122, 123, 124] (by decide +kernel) (by decide +kernel)
set_option maxRecDepth 20000 in
theorem gX6_slide_X6_slides : GoodIn wsX6_slide (wsV RX6 199 RX6 yX6_slides wsX6_slides) := goodIn_app (goodIn_of _ (by decide +kernel)) ggX6_slide_X6_slides
set_option maxRecDepth 20000 in
theorem ggX6_slide_X6_tellWhy : GoodIn wsX6_slide wsX6_tellWhy := goodIn_r _ [75, 6, 76, 77, 78, 79, 80, 23, 24, 25, 26, 27, 28, 29, 30, 31, 32, 33, 34, 35, 36, 37, 38, 39, 40, 41, 4, 42, 43, 44, 45, 46, 47, 48, 49, 50, 51, 52, 53, 54, 55, 81, 82, 83, 84, 85, 86, 87, 88, 89, 90, 95, 96, 97, 98, 99, 100, 101, 102, 103, 104, 105, 106, 107, 108, 109, 110, 111, 112, 113, 114, 115, 116, 117, 118, 119, 120] (by decide +kernel) (by decide +kernel)
set_option maxRecDepth 20000 in
theorem gX6_slide_X6_tellWhy : GoodIn wsX6_slide (wsV RX6 202 RX6 yX6_tellWhy wsX6_tellWhy) := goodIn_app (goodIn_of _ (by decide +kernel)) ggX6_slide_X6_tellWhy
set_option maxRecDepth 20000 in
theorem ggX6_slide_X6_grant : GoodIn wsX6_slide wsX6_grant := goodIn_r _ [94, 17, 95, 96, 97, 98, 99, 100, 101, 102, 103, 104, 105, 106, 107] (by decide +kernel) (by decide +kernel)
set_option maxRecDepth 20000 in
theorem gX6_slide_X6_grant : GoodIn wsX6_slide (wsV RX6 205 RX6 yX6_grant wsX6_grant) := goodIn_app (goodIn_of _ (by decide +kernel)) ggX6_slide_X6_grant
theorem dX6_slide_0 : decode cX6_slide 0 = .ok (.aload_n 0, 1) := by decide +kernel
theorem dX6_slide_1 : decode cX6_slide 1 = .ok (.iload_n 1, 1) := by decide +kernel
theorem dX6_slide_2 : decode cX6_slide 2 = .ok (.invokevirtual 147, 3) := by decide +kernel
theorem dX6_slide_5 : decode cX6_slide 5 = .ok (.istore 4, 2) := by decide +kernel
theorem dX6_slide_7 : decode cX6_slide 7 = .ok (.iload 4, 2) := by decide +kernel
theorem dX6_slide_9 : decode cX6_slide 9 = .ok (.ifCond .eq 10, 3) := by decide +kernel
theorem dX6_slide_12 : decode cX6_slide 12 = .ok (.aload_n 0, 1) := by decide +kernel
theorem dX6_slide_13 : decode cX6_slide 13 = .ok (.iload 4, 2) := by decide +kernel
theorem dX6_slide_15 : decode cX6_slide 15 = .ok (.invokevirtual 54, 3) := by decide +kernel
theorem dX6_slide_18 : decode cX6_slide 18 = .ok (.ireturn, 1) := by decide +kernel
theorem dX6_slide_19 : decode cX6_slide 19 = .ok (.iload_n 2, 1) := by decide +kernel
theorem dX6_slide_20 : decode cX6_slide 20 = .ok (.ifCond .lt 19, 3) := by decide +kernel
theorem dX6_slide_23 : decode cX6_slide 23 = .ok (.iload_n 2, 1) := by decide +kernel
theorem dX6_slide_24 : decode cX6_slide 24 = .ok (.iconst 4, 1) := by decide +kernel
theorem dX6_slide_25 : decode cX6_slide 25 = .ok (.if_icmp .ge 14, 3) := by decide +kernel
theorem dX6_slide_28 : decode cX6_slide 28 = .ok (.iload_n 3, 1) := by decide +kernel
theorem dX6_slide_29 : decode cX6_slide 29 = .ok (.iconst 1, 1) := by decide +kernel
theorem dX6_slide_30 : decode cX6_slide 30 = .ok (.if_icmp .lt 9, 3) := by decide +kernel
theorem dX6_slide_33 : decode cX6_slide 33 = .ok (.iload_n 3, 1) := by decide +kernel
theorem dX6_slide_34 : decode cX6_slide 34 = .ok (.bipush 7, 2) := by decide +kernel
theorem dX6_slide_36 : decode cX6_slide 36 = .ok (.if_icmp .le 9, 3) := by decide +kernel
theorem dX6_slide_39 : decode cX6_slide 39 = .ok (.aload_n 0, 1) := by decide +kernel
theorem dX6_slide_40 : decode cX6_slide 40 = .ok (.iconst 2, 1) := by decide +kernel
theorem dX6_slide_41 : decode cX6_slide 41 = .ok (.invokevirtual 54, 3) := by decide +kernel
theorem dX6_slide_44 : decode cX6_slide 44 = .ok (.ireturn, 1) := by decide +kernel
theorem dX6_slide_45 : decode cX6_slide 45 = .ok (.aload_n 0, 1) := by decide +kernel
theorem dX6_slide_46 : decode cX6_slide 46 = .ok (.iload_n 1, 1) := by decide +kernel
theorem dX6_slide_47 : decode cX6_slide 47 = .ok (.iload_n 2, 1) := by decide +kernel
theorem dX6_slide_48 : decode cX6_slide 48 = .ok (.iload_n 3, 1) := by decide +kernel
theorem dX6_slide_49 : decode cX6_slide 49 = .ok (.invokevirtual 199, 3) := by decide +kernel
theorem dX6_slide_52 : decode cX6_slide 52 = .ok (.ifCond .ne 16, 3) := by decide +kernel
theorem dX6_slide_55 : decode cX6_slide 55 = .ok (.aload_n 0, 1) := by decide +kernel
theorem dX6_slide_56 : decode cX6_slide 56 = .ok (.iload_n 1, 1) := by decide +kernel
theorem dX6_slide_57 : decode cX6_slide 57 = .ok (.iload_n 2, 1) := by decide +kernel
theorem dX6_slide_58 : decode cX6_slide 58 = .ok (.invokevirtual 202, 3) := by decide +kernel
theorem dX6_slide_61 : decode cX6_slide 61 = .ok (.aload_n 0, 1) := by decide +kernel
theorem dX6_slide_62 : decode cX6_slide 62 = .ok (.bipush 9, 2) := by decide +kernel
theorem dX6_slide_64 : decode cX6_slide 64 = .ok (.invokevirtual 54, 3) := by decide +kernel
theorem dX6_slide_67 : decode cX6_slide 67 = .ok (.ireturn, 1) := by decide +kernel
theorem dX6_slide_68 : decode cX6_slide 68 = .ok (.aload_n 0, 1) := by decide +kernel
theorem dX6_slide_69 : decode cX6_slide 69 = .ok (.invokevirtual 205, 3) := by decide +kernel
theorem dX6_slide_72 : decode cX6_slide 72 = .ok (.ireturn, 1) := by decide +kernel
theorem dX6_why_0 : decode cX6_why 0 = .ok (.iload_n 1, 1) := by decide +kernel
theorem dX6_why_1 : decode cX6_why 1 = .ok (.tableswitch 42 0 2 #[27, 32, 37], 27) := by decide +kernel
theorem dX6_why_28 : decode cX6_why 28 = .ok (.aload_n 0, 1) := by decide +kernel
theorem dX6_why_29 : decode cX6_why 29 = .ok (.getfield 41, 3) := by decide +kernel
theorem dX6_why_32 : decode cX6_why 32 = .ok (.ireturn, 1) := by decide +kernel
theorem dX6_why_33 : decode cX6_why 33 = .ok (.aload_n 0, 1) := by decide +kernel
theorem dX6_why_34 : decode cX6_why 34 = .ok (.getfield 45, 3) := by decide +kernel
theorem dX6_why_37 : decode cX6_why 37 = .ok (.ireturn, 1) := by decide +kernel
theorem dX6_why_38 : decode cX6_why 38 = .ok (.aload_n 0, 1) := by decide +kernel
theorem dX6_why_39 : decode cX6_why 39 = .ok (.getfield 48, 3) := by decide +kernel
theorem dX6_why_42 : decode cX6_why 42 = .ok (.ireturn, 1) := by decide +kernel
theorem dX6_why_43 : decode cX6_why 43 = .ok (.iconst (-1), 1) := by decide +kernel
theorem dX6_why_44 : decode cX6_why 44 = .ok (.ireturn, 1) := by decide +kernel
set_option maxRecDepth 20000 in
theorem ggX6_undo_X6_hasNoBasin : GoodIn wsX6_undo wsX6_hasNoBasin := goodIn_r _ [8, 3, 9, 50, 51, 52, 53, 54, 55, 56, 57, 58, 59, 60, 61, 62, 67, 68, 69, 70, 71, 72, 73, 74, 75, 76, 77, 78, 79] (by decide +kernel) (by decide +kernel)
set_option maxRecDepth 20000 in
theorem gX6_undo_X6_hasNoBasin : GoodIn wsX6_undo (wsV RX6 69 RX6 yX6_hasNoBasin wsX6_hasNoBasin) := goodIn_app (goodIn_of _ (by decide +kernel)) ggX6_undo_X6_hasNoBasin
set_option maxRecDepth 20000 in
theorem ggX6_undo_X6_deny : GoodIn wsX6_undo wsX6_deny := goodIn_r _ [13, 14, 50, 51, 52, 53, 54, 55, 56, 57, 58, 59, 60, 61, 62] (by decide +kernel) (by decide +kernel)
set_option maxRecDepth 20000 in
theorem gX6_undo_X6_deny : GoodIn wsX6_undo (wsV RX6 54 RX6 yX6_deny wsX6_deny) := goodIn_app (goodIn_of _ (by decide +kernel)) ggX6_undo_X6_deny
set_option maxRecDepth 20000 in
theorem ggX6_undo_X3_back : GoodIn wsX6_undo wsX3_back := goodIn_r _ [19, 20, 21, 22, 23, 63, 64, 65, 66] (by decide +kernel) (by decide +kernel)
set_option maxRecDepth 20000 in
theorem gX6_undo_X3_back : GoodIn wsX6_undo (wsV RX6 208 RX3 yX3_back wsX3_back) := goodIn_app (goodIn_of _ (by decide +kernel)) ggX6_undo_X3_back
set_option maxRecDepth 20000 in
theorem ggX6_undo_X6_bargeOf : GoodIn wsX6_undo wsX6_bargeOf := goodIn_r _ [26] (by decide +kernel) (by decide +kernel)
set_option maxRecDepth 20000 in
theorem gX6_undo_X6_bargeOf : GoodIn wsX6_undo (va_wsS RX6 212 yX6_bargeOf wsX6_bargeOf) := goodIn_app (goodIn_of _ (by decide +kernel)) ggX6_undo_X6_bargeOf
set_option maxRecDepth 20000 in
theorem ggX6_undo_X6_directionOf : GoodIn wsX6_undo wsX6_directionOf := goodIn_r _ [29] (by decide +kernel) (by decide +kernel)
set_option maxRecDepth 20000 in
theorem gX6_undo_X6_directionOf : GoodIn wsX6_undo (va_wsS RX6 215 yX6_directionOf wsX6_directionOf) := goodIn_app (goodIn_of _ (by decide +kernel)) ggX6_undo_X6_directionOf
set_option maxRecDepth 20000 in
theorem ggX6_undo_X6_stepsOf : GoodIn wsX6_undo wsX6_stepsOf := goodIn_r _ [32] (by decide +kernel) (by decide +kernel)
set_option maxRecDepth 20000 in
theorem gX6_undo_X6_stepsOf : GoodIn wsX6_undo (va_wsS RX6 218 yX6_stepsOf wsX6_stepsOf) := goodIn_app (goodIn_of _ (by decide +kernel)) ggX6_undo_X6_stepsOf
set_option maxRecDepth 20000 in
theorem ggX6_undo_X0_shift : GoodIn wsX6_undo wsX0_shift := goodIn_r _ [37, 38, 39, 40, 41, 42, 43, 36, 44, 45, 67, 68, 69, 70, 71, 72, 73, 74, 75, 76, 77, 78, 79] (by decide +kernel) (by decide +kernel)
set_option maxRecDepth 20000 in
theorem gX6_undo_X0_shift : GoodIn wsX6_undo (wsV RX6 221 RX0 yX0_shift wsX0_shift) := goodIn_app (goodIn_of _ (by decide +kernel)) ggX6_undo_X0_shift
set_option maxRecDepth 20000 in
theorem ggX6_undo_X6_grant : GoodIn wsX6_undo wsX6_grant := goodIn_r _ [49, 14, 50, 51, 52, 53, 54, 55, 56, 57, 58, 59, 60, 61, 62] (by decide +kernel) (by decide +kernel)
set_option maxRecDepth 20000 in
theorem gX6_undo_X6_grant : GoodIn wsX6_undo (wsV RX6 205 RX6 yX6_grant wsX6_grant) := goodIn_app (goodIn_of _ (by decide +kernel)) ggX6_undo_X6_grant
theorem dX6_undo_0 : decode cX6_undo 0 = .ok (.aload_n 0, 1) := by decide +kernel
theorem dX6_undo_1 : decode cX6_undo 1 = .ok (.invokevirtual 69, 3) := by decide +kernel
theorem dX6_undo_4 : decode cX6_undo 4 = .ok (.ifCond .eq 9, 3) := by decide +kernel
theorem dX6_undo_7 : decode cX6_undo 7 = .ok (.aload_n 0, 1) := by decide +kernel
theorem dX6_undo_8 : decode cX6_undo 8 = .ok (.iconst 1, 1) := by decide +kernel
theorem dX6_undo_9 : decode cX6_undo 9 = .ok (.invokevirtual 54, 3) := by decide +kernel
theorem dX6_undo_12 : decode cX6_undo 12 = .ok (.ireturn, 1) := by decide +kernel
theorem dX6_undo_13 : decode cX6_undo 13 = .ok (.aload_n 0, 1) := by decide +kernel
theorem dX6_undo_14 : decode cX6_undo 14 = .ok (.getfield 29, 3) := by decide +kernel
theorem dX6_undo_17 : decode cX6_undo 17 = .ok (.getfield 189, 3) := by decide +kernel
theorem dX6_undo_20 : decode cX6_undo 20 = .ok (.ifCond .ne 10, 3) := by decide +kernel
theorem dX6_undo_23 : decode cX6_undo 23 = .ok (.aload_n 0, 1) := by decide +kernel
theorem dX6_undo_24 : decode cX6_undo 24 = .ok (.bipush 11, 2) := by decide +kernel
theorem dX6_undo_26 : decode cX6_undo 26 = .ok (.invokevirtual 54, 3) := by decide +kernel
theorem dX6_undo_29 : decode cX6_undo 29 = .ok (.ireturn, 1) := by decide +kernel
theorem dX6_undo_30 : decode cX6_undo 30 = .ok (.aload_n 0, 1) := by decide +kernel
theorem dX6_undo_31 : decode cX6_undo 31 = .ok (.getfield 29, 3) := by decide +kernel
theorem dX6_undo_34 : decode cX6_undo 34 = .ok (.invokevirtual 208, 3) := by decide +kernel
theorem dX6_undo_37 : decode cX6_undo 37 = .ok (.istore_n 1, 1) := by decide +kernel
theorem dX6_undo_38 : decode cX6_undo 38 = .ok (.aload_n 0, 1) := by decide +kernel
theorem dX6_undo_39 : decode cX6_undo 39 = .ok (.getfield 19, 3) := by decide +kernel
theorem dX6_undo_42 : decode cX6_undo 42 = .ok (.iload_n 1, 1) := by decide +kernel
theorem dX6_undo_43 : decode cX6_undo 43 = .ok (.invokestatic 212, 3) := by decide +kernel
theorem dX6_undo_46 : decode cX6_undo 46 = .ok (.iload_n 1, 1) := by decide +kernel
theorem dX6_undo_47 : decode cX6_undo 47 = .ok (.invokestatic 215, 3) := by decide +kernel
theorem dX6_undo_50 : decode cX6_undo 50 = .ok (.iload_n 1, 1) := by decide +kernel
theorem dX6_undo_51 : decode cX6_undo 51 = .ok (.invokestatic 218, 3) := by decide +kernel
theorem dX6_undo_54 : decode cX6_undo 54 = .ok (.ineg, 1) := by decide +kernel
theorem dX6_undo_55 : decode cX6_undo 55 = .ok (.invokevirtual 221, 3) := by decide +kernel
theorem dX6_undo_58 : decode cX6_undo 58 = .ok (.aload_n 0, 1) := by decide +kernel
theorem dX6_undo_59 : decode cX6_undo 59 = .ok (.invokevirtual 205, 3) := by decide +kernel
theorem dX6_undo_62 : decode cX6_undo 62 = .ok (.ireturn, 1) := by decide +kernel
set_option maxRecDepth 20000 in
theorem ggX6_redo_X6_hasNoBasin : GoodIn wsX6_redo wsX6_hasNoBasin := goodIn_r _ [8, 3, 9, 50, 51, 52, 53, 54, 55, 56, 57, 58, 59, 60, 61, 62, 67, 68, 69, 70, 71, 72, 73, 74, 75, 76, 77, 78, 79] (by decide +kernel) (by decide +kernel)
set_option maxRecDepth 20000 in
theorem gX6_redo_X6_hasNoBasin : GoodIn wsX6_redo (wsV RX6 69 RX6 yX6_hasNoBasin wsX6_hasNoBasin) := goodIn_app (goodIn_of _ (by decide +kernel)) ggX6_redo_X6_hasNoBasin
set_option maxRecDepth 20000 in
theorem ggX6_redo_X6_deny : GoodIn wsX6_redo wsX6_deny := goodIn_r _ [13, 14, 50, 51, 52, 53, 54, 55, 56, 57, 58, 59, 60, 61, 62] (by decide +kernel) (by decide +kernel)
set_option maxRecDepth 20000 in
theorem gX6_redo_X6_deny : GoodIn wsX6_redo (wsV RX6 54 RX6 yX6_deny wsX6_deny) := goodIn_app (goodIn_of _ (by decide +kernel)) ggX6_redo_X6_deny
set_option maxRecDepth 20000 in
theorem ggX6_redo_X3_forth : GoodIn wsX6_redo wsX3_forth := goodIn_r _ [19, 20, 21, 22, 23, 63, 64, 65, 66] (by decide +kernel) (by decide +kernel)
set_option maxRecDepth 20000 in
theorem gX6_redo_X3_forth : GoodIn wsX6_redo (wsV RX6 224 RX3 yX3_forth wsX3_forth) := goodIn_app (goodIn_of _ (by decide +kernel)) ggX6_redo_X3_forth
set_option maxRecDepth 20000 in
theorem ggX6_redo_X6_bargeOf : GoodIn wsX6_redo wsX6_bargeOf := goodIn_r _ [26] (by decide +kernel) (by decide +kernel)
set_option maxRecDepth 20000 in
theorem gX6_redo_X6_bargeOf : GoodIn wsX6_redo (va_wsS RX6 212 yX6_bargeOf wsX6_bargeOf) := goodIn_app (goodIn_of _ (by decide +kernel)) ggX6_redo_X6_bargeOf
set_option maxRecDepth 20000 in
theorem ggX6_redo_X6_directionOf : GoodIn wsX6_redo wsX6_directionOf := goodIn_r _ [29] (by decide +kernel) (by decide +kernel)
set_option maxRecDepth 20000 in
theorem gX6_redo_X6_directionOf : GoodIn wsX6_redo (va_wsS RX6 215 yX6_directionOf wsX6_directionOf) := goodIn_app (goodIn_of _ (by decide +kernel)) ggX6_redo_X6_directionOf
set_option maxRecDepth 20000 in
theorem ggX6_redo_X6_stepsOf : GoodIn wsX6_redo wsX6_stepsOf := goodIn_r _ [32] (by decide +kernel) (by decide +kernel)
set_option maxRecDepth 20000 in
theorem gX6_redo_X6_stepsOf : GoodIn wsX6_redo (va_wsS RX6 218 yX6_stepsOf wsX6_stepsOf) := goodIn_app (goodIn_of _ (by decide +kernel)) ggX6_redo_X6_stepsOf
set_option maxRecDepth 20000 in
theorem ggX6_redo_X0_shift : GoodIn wsX6_redo wsX0_shift := goodIn_r _ [37, 38, 39, 40, 41, 42, 43, 36, 44, 45, 67, 68, 69, 70, 71, 72, 73, 74, 75, 76, 77, 78, 79] (by decide +kernel) (by decide +kernel)
set_option maxRecDepth 20000 in
theorem gX6_redo_X0_shift : GoodIn wsX6_redo (wsV RX6 221 RX0 yX0_shift wsX0_shift) := goodIn_app (goodIn_of _ (by decide +kernel)) ggX6_redo_X0_shift
set_option maxRecDepth 20000 in
theorem ggX6_redo_X6_grant : GoodIn wsX6_redo wsX6_grant := goodIn_r _ [49, 14, 50, 51, 52, 53, 54, 55, 56, 57, 58, 59, 60, 61, 62] (by decide +kernel) (by decide +kernel)
set_option maxRecDepth 20000 in
theorem gX6_redo_X6_grant : GoodIn wsX6_redo (wsV RX6 205 RX6 yX6_grant wsX6_grant) := goodIn_app (goodIn_of _ (by decide +kernel)) ggX6_redo_X6_grant
theorem dX6_redo_0 : decode cX6_redo 0 = .ok (.aload_n 0, 1) := by decide +kernel
theorem dX6_redo_1 : decode cX6_redo 1 = .ok (.invokevirtual 69, 3) := by decide +kernel
theorem dX6_redo_4 : decode cX6_redo 4 = .ok (.ifCond .eq 9, 3) := by decide +kernel
theorem dX6_redo_7 : decode cX6_redo 7 = .ok (.aload_n 0, 1) := by decide +kernel
theorem dX6_redo_8 : decode cX6_redo 8 = .ok (.iconst 1, 1) := by decide +kernel
theorem dX6_redo_9 : decode cX6_redo 9 = .ok (.invokevirtual 54, 3) := by decide +kernel
theorem dX6_redo_12 : decode cX6_redo 12 = .ok (.ireturn, 1) := by decide +kernel
theorem dX6_redo_13 : decode cX6_redo 13 = .ok (.aload_n 0, 1) := by decide +kernel
theorem dX6_redo_14 : decode cX6_redo 14 = .ok (.getfield 29, 3) := by decide +kernel
theorem dX6_redo_17 : decode cX6_redo 17 = .ok (.getfield 192, 3) := by decide +kernel
theorem dX6_redo_20 : decode cX6_redo 20 = .ok (.ifCond .ne 10, 3) := by decide +kernel
theorem dX6_redo_23 : decode cX6_redo 23 = .ok (.aload_n 0, 1) := by decide +kernel
theorem dX6_redo_24 : decode cX6_redo 24 = .ok (.bipush 11, 2) := by decide +kernel
theorem dX6_redo_26 : decode cX6_redo 26 = .ok (.invokevirtual 54, 3) := by decide +kernel
theorem dX6_redo_29 : decode cX6_redo 29 = .ok (.ireturn, 1) := by decide +kernel
theorem dX6_redo_30 : decode cX6_redo 30 = .ok (.aload_n 0, 1) := by decide +kernel
theorem dX6_redo_31 : decode cX6_redo 31 = .ok (.getfield 29, 3) := by decide +kernel
theorem dX6_redo_34 : decode cX6_redo 34 = .ok (.invokevirtual 224, 3) := by decide +kernel
theorem dX6_redo_37 : decode cX6_redo 37 = .ok (.istore_n 1, 1) := by decide +kernel
theorem dX6_redo_38 : decode cX6_redo 38 = .ok (.aload_n 0, 1) := by decide +kernel
theorem dX6_redo_39 : decode cX6_redo 39 = .ok (.getfield 19, 3) := by decide +kernel
theorem dX6_redo_42 : decode cX6_redo 42 = .ok (.iload_n 1, 1) := by decide +kernel
theorem dX6_redo_43 : decode cX6_redo 43 = .ok (.invokestatic 212, 3) := by decide +kernel
theorem dX6_redo_46 : decode cX6_redo 46 = .ok (.iload_n 1, 1) := by decide +kernel
theorem dX6_redo_47 : decode cX6_redo 47 = .ok (.invokestatic 215, 3) := by decide +kernel
theorem dX6_redo_50 : decode cX6_redo 50 = .ok (.iload_n 1, 1) := by decide +kernel
theorem dX6_redo_51 : decode cX6_redo 51 = .ok (.invokestatic 218, 3) := by decide +kernel
theorem dX6_redo_54 : decode cX6_redo 54 = .ok (.invokevirtual 221, 3) := by decide +kernel
theorem dX6_redo_57 : decode cX6_redo 57 = .ok (.aload_n 0, 1) := by decide +kernel
theorem dX6_redo_58 : decode cX6_redo 58 = .ok (.invokevirtual 205, 3) := by decide +kernel
theorem dX6_redo_61 : decode cX6_redo 61 = .ok (.ireturn, 1) := by decide +kernel
set_option maxRecDepth 20000 in
theorem ggX6_fewest_X6_faultOfSearch : GoodIn wsX6_fewest wsX6_faultOfSearch := goodIn_r _ [5, 6, 7, 8, 9, 4, 10, 11, 12, 13, 14, 15, 16, 17, 18, 19, 20, 21, 22, 23, 24, 25, 26, 27, 28, 29, 30, 31, 32, 33, 34, 35, 36, 37, 38, 39, 40, 41, 42, 43, 44, 45, 46, 47, 48, 49, 50, 51, 52, 53, 54, 55, 56, 57, 58, 59, 60, 61, 62, 63, 64, 65, 66, 67, 68, 69, 70, 71, 72, 73, 74, 75, 76, 77, 78, 79, 80, 81, 82, 83, 84, 85, 86, 87, 88, 89, 90, 91, 92, 93, 94, 95, 96, 97, 98, 99, 100, 101, 102, 103, 104, 105, 106, 107, 108, 109, 110, 111, 112, 113, 114, 115, 116, 117, 118, 119, 120, 121, 122, 123, 124, 125, 126, 127, 128, 129, 130, 131, 132, 133, 134, 135, 136, 137, 138, 139, 140, 141, 142, 143, 144, 145, 146, 147, 148, 149, 150, 151, 152, 153, 154, 155, 156, 157, 158, 159, 160, 161, 162, 163, 164, 165, 166, 167, 168, 169, 170, 171, 172, 173, 174, 175, 176, 177, 178, 179, 180, 181, 182, 218, 219, 220, 221, 222, 223, 224, 225, 226, 227, 228, 229, 230, 231, 232, 233, 234, 235, 236, 237, 238, 239, 240, 241, 242, 243, 244, 245, 246, 247, 248, 249, 250, 251, 252, 253, 254, 255] (by decide +kernel) (by decide +kernel)
set_option maxRecDepth 20000 in
theorem gX6_fewest_X6_faultOfSearch : GoodIn wsX6_fewest (wsV RX6 227 RX6 yX6_faultOfSearch wsX6_faultOfSearch) := goodIn_app (goodIn_of _ (by decide +kernel)) ggX6_fewest_X6_faultOfSearch
set_option maxRecDepth 20000 in
theorem ggX6_fewest_X6_refuse : GoodIn wsX6_fewest wsX6_refuse := goodIn_r _ [186, 187, 218, 219, 220, 221, 222, 223, 224, 225, 226, 227, 228, 229, 230] (by decide +kernel) (by decide +kernel)
set_option maxRecDepth 20000 in
theorem gX6_fewest_X6_refuse : GoodIn wsX6_fewest (wsV RX6 99 RX6 yX6_refuse wsX6_refuse) := goodIn_app (goodIn_of _ (by decide +kernel)) ggX6_fewest_X6_refuse
set_option maxRecDepth 20000 in
theorem ggX6_fewest_X6_searcher : GoodIn wsX6_fewest wsX6_searcher := goodIn_r _ [15, 16, 17, 18, 19, 20, 21, 22, 23, 24, 25, 26, 27, 28, 29, 30, 31, 32, 33, 34, 35, 36, 37, 38, 39, 40, 41, 42, 43, 44, 45, 46, 47, 48, 49, 50, 218, 219, 220, 221, 222, 223, 224, 225, 226, 227, 228, 229, 230, 244, 245, 246, 247, 248, 249, 250, 251, 252, 253, 254, 255, 231, 232, 233, 234, 235, 236, 237, 238, 239, 240, 241, 242, 243] (by decide +kernel) (by decide +kernel)
set_option maxRecDepth 20000 in
theorem gX6_fewest_X6_searcher : GoodIn wsX6_fewest (wsV RX6 231 RX6 yX6_searcher wsX6_searcher) := goodIn_app (goodIn_of _ (by decide +kernel)) ggX6_fewest_X6_searcher
set_option maxRecDepth 20000 in
theorem ggX6_fewest_X6_planToKeep : GoodIn wsX6_fewest wsX6_planToKeep := goodIn_r _ [191, 192, 193, 194, 195, 196, 197, 198, 23, 24, 32, 199, 218, 219, 220, 221, 222, 223, 224, 225, 226, 227, 228, 229, 230, 256, 257] (by decide +kernel) (by decide +kernel)
set_option maxRecDepth 20000 in
theorem gX6_fewest_X6_planToKeep : GoodIn wsX6_fewest (wsV RX6 235 RX6 yX6_planToKeep wsX6_planToKeep) := goodIn_app (goodIn_of _ (by decide +kernel)) ggX6_fewest_X6_planToKeep
set_option maxRecDepth 20000 in
theorem ggX6_fewest_X5_writePlan : GoodIn wsX6_fewest wsX5_writePlan := goodIn_r _ [203, 204, 178, 179, 180, 19, 181, 55, 36, 205, 206, 207, 208, 35, 96, 97, 98, 99, 28, 78, 100, 101, 102, 103, 104, 105, 106, 107, 108, 30, 31, 79, 109, 110, 111, 112, 27, 113, 50, 43, 114, 115, 116, 117, 118, 119, 120, 121, 42, 47, 48, 49, 68, 69, 122, 123, 4, 124, 125, 126, 127, 128, 65, 66, 129, 130, 131, 132, 133, 134, 166, 167, 168, 169, 33, 135, 136, 137, 138, 139, 140, 141, 142, 143, 144, 80, 81, 82, 145, 146, 147, 148, 83, 84, 85, 90, 91, 92, 93, 94, 95, 209, 210, 211, 195, 212, 213, 199, 256, 257, 244, 245, 246, 247, 248, 249, 250, 251, 252, 253, 254, 255, 231, 232, 233, 234, 235, 236, 237, 238, 239, 240, 241, 242, 243] (by decide +kernel) (by decide +kernel)
set_option maxRecDepth 20000 in
theorem gX6_fewest_X5_writePlan : GoodIn wsX6_fewest (wsV RX6 239 RX5 yX5_writePlan wsX5_writePlan) := goodIn_app (goodIn_of _ (by decide +kernel)) ggX6_fewest_X5_writePlan
set_option maxRecDepth 20000 in
theorem ggX6_fewest_X6_answer : GoodIn wsX6_fewest wsX6_answer := goodIn_r _ [217, 187, 218, 219, 220, 221, 222, 223, 224, 225, 226, 227, 228, 229, 230] (by decide +kernel) (by decide +kernel)
set_option maxRecDepth 20000 in
theorem gX6_fewest_X6_answer : GoodIn wsX6_fewest (wsV RX6 106 RX6 yX6_answer wsX6_answer) := goodIn_app (goodIn_of _ (by decide +kernel)) ggX6_fewest_X6_answer
theorem dX6_fewest_0 : decode cX6_fewest 0 = .ok (.aload_n 0, 1) := by decide +kernel
theorem dX6_fewest_1 : decode cX6_fewest 1 = .ok (.iconst 0, 1) := by decide +kernel
theorem dX6_fewest_2 : decode cX6_fewest 2 = .ok (.iconst 0, 1) := by decide +kernel
theorem dX6_fewest_3 : decode cX6_fewest 3 = .ok (.invokevirtual 227, 3) := by decide +kernel
theorem dX6_fewest_6 : decode cX6_fewest 6 = .ok (.istore_n 1, 1) := by decide +kernel
theorem dX6_fewest_7 : decode cX6_fewest 7 = .ok (.iload_n 1, 1) := by decide +kernel
theorem dX6_fewest_8 : decode cX6_fewest 8 = .ok (.ifCond .eq 11, 3) := by decide +kernel
theorem dX6_fewest_11 : decode cX6_fewest 11 = .ok (.aload_n 0, 1) := by decide +kernel
theorem dX6_fewest_12 : decode cX6_fewest 12 = .ok (.iload_n 1, 1) := by decide +kernel
theorem dX6_fewest_13 : decode cX6_fewest 13 = .ok (.invokevirtual 99, 3) := by decide +kernel
theorem dX6_fewest_16 : decode cX6_fewest 16 = .ok (.goto 19, 3) := by decide +kernel
theorem dX6_fewest_19 : decode cX6_fewest 19 = .ok (.aload_n 0, 1) := by decide +kernel
theorem dX6_fewest_20 : decode cX6_fewest 20 = .ok (.aload_n 0, 1) := by decide +kernel
theorem dX6_fewest_21 : decode cX6_fewest 21 = .ok (.invokevirtual 231, 3) := by decide +kernel
theorem dX6_fewest_24 : decode cX6_fewest 24 = .ok (.aload_n 0, 1) := by decide +kernel
theorem dX6_fewest_25 : decode cX6_fewest 25 = .ok (.invokevirtual 235, 3) := by decide +kernel
theorem dX6_fewest_28 : decode cX6_fewest 28 = .ok (.iconst 0, 1) := by decide +kernel
theorem dX6_fewest_29 : decode cX6_fewest 29 = .ok (.invokevirtual 239, 3) := by decide +kernel
theorem dX6_fewest_32 : decode cX6_fewest 32 = .ok (.invokevirtual 106, 3) := by decide +kernel
theorem dX6_fewest_35 : decode cX6_fewest 35 = .ok (.ireturn, 1) := by decide +kernel
set_option maxRecDepth 20000 in
theorem ggX6_fewestSteps_X6_faultOfSearch : GoodIn wsX6_fewestSteps wsX6_faultOfSearch := goodIn_r _ [5, 6, 7, 8, 9, 4, 10, 11, 12, 13, 14, 15, 16, 17, 18, 19, 20, 21, 22, 23, 24, 25, 26, 27, 28, 29, 30, 31, 32, 33, 34, 35, 36, 37, 38, 39, 40, 41, 42, 43, 44, 45, 46, 47, 48, 49, 50, 51, 52, 53, 54, 55, 56, 57, 58, 59, 60, 61, 62, 63, 64, 65, 66, 67, 68, 69, 70, 71, 72, 73, 74, 75, 76, 77, 78, 79, 80, 81, 82, 83, 84, 85, 86, 87, 88, 89, 90, 91, 92, 93, 94, 95, 96, 97, 98, 99, 100, 101, 102, 103, 104, 105, 106, 107, 108, 109, 110, 111, 112, 113, 114, 115, 116, 117, 118, 119, 120, 121, 122, 123, 124, 125, 126, 127, 128, 129, 130, 131, 132, 133, 134, 135, 136, 137, 138, 139, 140, 141, 142, 143, 144, 145, 146, 147, 148, 149, 150, 151, 152, 153, 154, 155, 156, 157, 158, 159, 160, 161, 162, 163, 164, 165, 166, 167, 168, 169, 170, 171, 172, 173, 174, 175, 176, 177, 178, 179, 180, 181, 182, 218, 219, 220, 221, 222, 223, 224, 225, 226, 227, 228, 229, 230, 231, 232, 233, 234, 235, 236, 237, 238, 239, 240, 241, 242, 243, 244, 245, 246, 247, 248, 249, 250, 251, 252, 253, 254, 255] (by decide +kernel) (by decide +kernel)
set_option maxRecDepth 20000 in
theorem gX6_fewestSteps_X6_faultOfSearch : GoodIn wsX6_fewestSteps (wsV RX6 227 RX6 yX6_faultOfSearch wsX6_faultOfSearch) := goodIn_app (goodIn_of _ (by decide +kernel)) ggX6_fewestSteps_X6_faultOfSearch
set_option maxRecDepth 20000 in
theorem ggX6_fewestSteps_X6_refuse : GoodIn wsX6_fewestSteps wsX6_refuse := goodIn_r _ [186, 187, 218, 219, 220, 221, 222, 223, 224, 225, 226, 227, 228, 229, 230] (by decide +kernel) (by decide +kernel)
set_option maxRecDepth 20000 in
theorem gX6_fewestSteps_X6_refuse : GoodIn wsX6_fewestSteps (wsV RX6 99 RX6 yX6_refuse wsX6_refuse) := goodIn_app (goodIn_of _ (by decide +kernel)) ggX6_fewestSteps_X6_refuse
set_option maxRecDepth 20000 in
theorem ggX6_fewestSteps_X6_searcher : GoodIn wsX6_fewestSteps wsX6_searcher := goodIn_r _ [15, 16, 17, 18, 19, 20, 21, 22, 23, 24, 25, 26, 27, 28, 29, 30, 31, 32, 33, 34, 35, 36, 37, 38, 39, 40, 41, 42, 43, 44, 45, 46, 47, 48, 49, 50, 218, 219, 220, 221, 222, 223, 224, 225, 226, 227, 228, 229, 230, 244, 245, 246, 247, 248, 249, 250, 251, 252, 253, 254, 255, 231, 232, 233, 234, 235, 236, 237, 238, 239, 240, 241, 242, 243] (by decide +kernel) (by decide +kernel)
set_option maxRecDepth 20000 in
theorem gX6_fewestSteps_X6_searcher : GoodIn wsX6_fewestSteps (wsV RX6 231 RX6 yX6_searcher wsX6_searcher) := goodIn_app (goodIn_of _ (by decide +kernel)) ggX6_fewestSteps_X6_searcher
set_option maxRecDepth 20000 in
theorem ggX6_fewestSteps_X6_planToKeep : GoodIn wsX6_fewestSteps wsX6_planToKeep := goodIn_r _ [191, 192, 193, 194, 195, 196, 197, 198, 23, 24, 32, 199, 218, 219, 220, 221, 222, 223, 224, 225, 226, 227, 228, 229, 230, 256, 257] (by decide +kernel) (by decide +kernel)
set_option maxRecDepth 20000 in
theorem gX6_fewestSteps_X6_planToKeep : GoodIn wsX6_fewestSteps (wsV RX6 235 RX6 yX6_planToKeep wsX6_planToKeep) := goodIn_app (goodIn_of _ (by decide +kernel)) ggX6_fewestSteps_X6_planToKeep
set_option maxRecDepth 20000 in
theorem ggX6_fewestSteps_X5_writePlan : GoodIn wsX6_fewestSteps wsX5_writePlan := goodIn_r _ [203, 204, 178, 179, 180, 19, 181, 55, 36, 205, 206, 207, 208, 35, 96, 97, 98, 99, 28, 78, 100, 101, 102, 103, 104, 105, 106, 107, 108, 30, 31, 79, 109, 110, 111, 112, 27, 113, 50, 43, 114, 115, 116, 117, 118, 119, 120, 121, 42, 47, 48, 49, 68, 69, 122, 123, 4, 124, 125, 126, 127, 128, 65, 66, 129, 130, 131, 132, 133, 134, 166, 167, 168, 169, 33, 135, 136, 137, 138, 139, 140, 141, 142, 143, 144, 80, 81, 82, 145, 146, 147, 148, 83, 84, 85, 90, 91, 92, 93, 94, 95, 209, 210, 211, 195, 212, 213, 199, 256, 257, 244, 245, 246, 247, 248, 249, 250, 251, 252, 253, 254, 255, 231, 232, 233, 234, 235, 236, 237, 238, 239, 240, 241, 242, 243] (by decide +kernel) (by decide +kernel)
set_option maxRecDepth 20000 in
theorem gX6_fewestSteps_X5_writePlan : GoodIn wsX6_fewestSteps (wsV RX6 239 RX5 yX5_writePlan wsX5_writePlan) := goodIn_app (goodIn_of _ (by decide +kernel)) ggX6_fewestSteps_X5_writePlan
set_option maxRecDepth 20000 in
theorem ggX6_fewestSteps_X6_answer : GoodIn wsX6_fewestSteps wsX6_answer := goodIn_r _ [217, 187, 218, 219, 220, 221, 222, 223, 224, 225, 226, 227, 228, 229, 230] (by decide +kernel) (by decide +kernel)
set_option maxRecDepth 20000 in
theorem gX6_fewestSteps_X6_answer : GoodIn wsX6_fewestSteps (wsV RX6 106 RX6 yX6_answer wsX6_answer) := goodIn_app (goodIn_of _ (by decide +kernel)) ggX6_fewestSteps_X6_answer
theorem dX6_fewestSteps_0 : decode cX6_fewestSteps 0 = .ok (.aload_n 0, 1) := by decide +kernel
theorem dX6_fewestSteps_1 : decode cX6_fewestSteps 1 = .ok (.iconst 1, 1) := by decide +kernel
theorem dX6_fewestSteps_2 : decode cX6_fewestSteps 2 = .ok (.iconst 0, 1) := by decide +kernel
theorem dX6_fewestSteps_3 : decode cX6_fewestSteps 3 = .ok (.invokevirtual 227, 3) := by decide +kernel
theorem dX6_fewestSteps_6 : decode cX6_fewestSteps 6 = .ok (.istore_n 1, 1) := by decide +kernel
theorem dX6_fewestSteps_7 : decode cX6_fewestSteps 7 = .ok (.iload_n 1, 1) := by decide +kernel
theorem dX6_fewestSteps_8 : decode cX6_fewestSteps 8 = .ok (.ifCond .eq 11, 3) := by decide +kernel
theorem dX6_fewestSteps_11 : decode cX6_fewestSteps 11 = .ok (.aload_n 0, 1) := by decide +kernel
theorem dX6_fewestSteps_12 : decode cX6_fewestSteps 12 = .ok (.iload_n 1, 1) := by decide +kernel
theorem dX6_fewestSteps_13 : decode cX6_fewestSteps 13 = .ok (.invokevirtual 99, 3) := by decide +kernel
theorem dX6_fewestSteps_16 : decode cX6_fewestSteps 16 = .ok (.goto 19, 3) := by decide +kernel
theorem dX6_fewestSteps_19 : decode cX6_fewestSteps 19 = .ok (.aload_n 0, 1) := by decide +kernel
theorem dX6_fewestSteps_20 : decode cX6_fewestSteps 20 = .ok (.aload_n 0, 1) := by decide +kernel
theorem dX6_fewestSteps_21 : decode cX6_fewestSteps 21 = .ok (.invokevirtual 231, 3) := by decide +kernel
theorem dX6_fewestSteps_24 : decode cX6_fewestSteps 24 = .ok (.aload_n 0, 1) := by decide +kernel
theorem dX6_fewestSteps_25 : decode cX6_fewestSteps 25 = .ok (.invokevirtual 235, 3) := by decide +kernel
theorem dX6_fewestSteps_28 : decode cX6_fewestSteps 28 = .ok (.iconst 1, 1) := by decide +kernel
theorem dX6_fewestSteps_29 : decode cX6_fewestSteps 29 = .ok (.invokevirtual 239, 3) := by decide +kernel
theorem dX6_fewestSteps_32 : decode cX6_fewestSteps 32 = .ok (.invokevirtual 106, 3) := by decide +kernel
theorem dX6_fewestSteps_35 : decode cX6_fewestSteps 35 = .ok (.ireturn, 1) := by decide +kernel
set_option maxRecDepth 20000 in
theorem ggX6_planned_X6_bargeOf : GoodIn wsX6_planned wsX6_bargeOf := goodIn_r _ [7] (by decide +kernel) (by decide +kernel)
set_option maxRecDepth 20000 in
theorem gX6_planned_X6_bargeOf : GoodIn wsX6_planned (va_wsS RX6 212 yX6_bargeOf wsX6_bargeOf) := goodIn_app (goodIn_of _ (by decide +kernel)) ggX6_planned_X6_bargeOf
set_option maxRecDepth 20000 in
theorem ggX6_planned_X6_directionOf : GoodIn wsX6_planned wsX6_directionOf := goodIn_r _ [10] (by decide +kernel) (by decide +kernel)
set_option maxRecDepth 20000 in
theorem gX6_planned_X6_directionOf : GoodIn wsX6_planned (va_wsS RX6 215 yX6_directionOf wsX6_directionOf) := goodIn_app (goodIn_of _ (by decide +kernel)) ggX6_planned_X6_directionOf
set_option maxRecDepth 20000 in
theorem ggX6_planned_X6_stepsOf : GoodIn wsX6_planned wsX6_stepsOf := goodIn_r _ [13] (by decide +kernel) (by decide +kernel)
set_option maxRecDepth 20000 in
theorem gX6_planned_X6_stepsOf : GoodIn wsX6_planned (va_wsS RX6 218 yX6_stepsOf wsX6_stepsOf) := goodIn_app (goodIn_of _ (by decide +kernel)) ggX6_planned_X6_stepsOf
theorem dX6_planned_0 : decode cX6_planned 0 = .ok (.aload_n 0, 1) := by decide +kernel
theorem dX6_planned_1 : decode cX6_planned 1 = .ok (.getfield 245, 3) := by decide +kernel
theorem dX6_planned_4 : decode cX6_planned 4 = .ok (.ifnull 18, 3) := by decide +kernel
theorem dX6_planned_7 : decode cX6_planned 7 = .ok (.iload_n 1, 1) := by decide +kernel
theorem dX6_planned_8 : decode cX6_planned 8 = .ok (.ifCond .lt 14, 3) := by decide +kernel
theorem dX6_planned_11 : decode cX6_planned 11 = .ok (.iload_n 1, 1) := by decide +kernel
theorem dX6_planned_12 : decode cX6_planned 12 = .ok (.aload_n 0, 1) := by decide +kernel
theorem dX6_planned_13 : decode cX6_planned 13 = .ok (.getfield 245, 3) := by decide +kernel
theorem dX6_planned_16 : decode cX6_planned 16 = .ok (.getfield 249, 3) := by decide +kernel
theorem dX6_planned_19 : decode cX6_planned 19 = .ok (.if_icmp .lt 5, 3) := by decide +kernel
theorem dX6_planned_22 : decode cX6_planned 22 = .ok (.iconst (-1), 1) := by decide +kernel
theorem dX6_planned_23 : decode cX6_planned 23 = .ok (.ireturn, 1) := by decide +kernel
theorem dX6_planned_24 : decode cX6_planned 24 = .ok (.aload_n 0, 1) := by decide +kernel
theorem dX6_planned_25 : decode cX6_planned 25 = .ok (.getfield 245, 3) := by decide +kernel
theorem dX6_planned_28 : decode cX6_planned 28 = .ok (.getfield 254, 3) := by decide +kernel
theorem dX6_planned_31 : decode cX6_planned 31 = .ok (.iload_n 1, 1) := by decide +kernel
theorem dX6_planned_32 : decode cX6_planned 32 = .ok (.iaload, 1) := by decide +kernel
theorem dX6_planned_33 : decode cX6_planned 33 = .ok (.istore_n 3, 1) := by decide +kernel
theorem dX6_planned_34 : decode cX6_planned 34 = .ok (.iload_n 2, 1) := by decide +kernel
theorem dX6_planned_35 : decode cX6_planned 35 = .ok (.tableswitch 40 0 2 #[25, 30, 35], 25) := by decide +kernel
theorem dX6_planned_60 : decode cX6_planned 60 = .ok (.iload_n 3, 1) := by decide +kernel
theorem dX6_planned_61 : decode cX6_planned 61 = .ok (.invokestatic 212, 3) := by decide +kernel
theorem dX6_planned_64 : decode cX6_planned 64 = .ok (.ireturn, 1) := by decide +kernel
theorem dX6_planned_65 : decode cX6_planned 65 = .ok (.iload_n 3, 1) := by decide +kernel
theorem dX6_planned_66 : decode cX6_planned 66 = .ok (.invokestatic 215, 3) := by decide +kernel
theorem dX6_planned_69 : decode cX6_planned 69 = .ok (.ireturn, 1) := by decide +kernel
theorem dX6_planned_70 : decode cX6_planned 70 = .ok (.iload_n 3, 1) := by decide +kernel
theorem dX6_planned_71 : decode cX6_planned 71 = .ok (.invokestatic 218, 3) := by decide +kernel
theorem dX6_planned_74 : decode cX6_planned 74 = .ok (.ireturn, 1) := by decide +kernel
theorem dX6_planned_75 : decode cX6_planned 75 = .ok (.iconst (-1), 1) := by decide +kernel
theorem dX6_planned_76 : decode cX6_planned 76 = .ok (.ireturn, 1) := by decide +kernel
set_option maxRecDepth 20000 in
theorem ggX6_follow_X6_hasNoBasin : GoodIn wsX6_follow wsX6_hasNoBasin := goodIn_r _ [10, 4, 11, 84, 85, 86, 87, 88, 89, 90, 91, 92, 93, 94, 95, 96, 99, 100, 101, 102, 103, 104, 105, 106, 107, 108, 109, 110, 111] (by decide +kernel) (by decide +kernel)
set_option maxRecDepth 20000 in
theorem gX6_follow_X6_hasNoBasin : GoodIn wsX6_follow (wsV RX6 69 RX6 yX6_hasNoBasin wsX6_hasNoBasin) := goodIn_app (goodIn_of _ (by decide +kernel)) ggX6_follow_X6_hasNoBasin
set_option maxRecDepth 20000 in
theorem ggX6_follow_X6_refuse : GoodIn wsX6_follow wsX6_refuse := goodIn_r _ [15, 16, 84, 85, 86, 87, 88, 89, 90, 91, 92, 93, 94, 95, 96] (by decide +kernel) (by decide +kernel)
set_option maxRecDepth 20000 in
theorem gX6_follow_X6_refuse : GoodIn wsX6_follow (wsV RX6 99 RX6 yX6_refuse wsX6_refuse) := goodIn_app (goodIn_of _ (by decide +kernel)) ggX6_follow_X6_refuse
set_option maxRecDepth 20000 in
theorem ggX6_follow_X6_bargeOf : GoodIn wsX6_follow wsX6_bargeOf := goodIn_r _ [19] (by decide +kernel) (by decide +kernel)
set_option maxRecDepth 20000 in
theorem gX6_follow_X6_bargeOf : GoodIn wsX6_follow (va_wsS RX6 212 yX6_bargeOf wsX6_bargeOf) := goodIn_app (goodIn_of _ (by decide +kernel)) ggX6_follow_X6_bargeOf
set_option maxRecDepth 20000 in
theorem ggX6_follow_X6_directionOf : GoodIn wsX6_follow wsX6_directionOf := goodIn_r _ [22] (by decide +kernel) (by decide +kernel)
set_option maxRecDepth 20000 in
theorem gX6_follow_X6_directionOf : GoodIn wsX6_follow (va_wsS RX6 215 yX6_directionOf wsX6_directionOf) := goodIn_app (goodIn_of _ (by decide +kernel)) ggX6_follow_X6_directionOf
set_option maxRecDepth 20000 in
theorem ggX6_follow_X6_stepsOf : GoodIn wsX6_follow wsX6_stepsOf := goodIn_r _ [25] (by decide +kernel) (by decide +kernel)
set_option maxRecDepth 20000 in
theorem gX6_follow_X6_stepsOf : GoodIn wsX6_follow (va_wsS RX6 218 yX6_stepsOf wsX6_stepsOf) := goodIn_app (goodIn_of _ (by decide +kernel)) ggX6_follow_X6_stepsOf
set_option maxRecDepth 20000 in
theorem ggX6_follow_X6_slides : GoodIn wsX6_follow wsX6_slides := goodIn_r _ [29, 4, 30, 31, 32, 33, 34, 35, 36, 37, 38, 39, 40, 41, 42, 43, 44, 45, 46, 47, 48, 49, 9, 50, 51, 52, 53, 54, 55, 56, 57, 58, 59, 60, 61, 62, 63, 64, 65, 66, 67, 68, 69, 70, 71, 72, 73, 74, 75, 76, 77, 78, 79, 84, 85, 86, 87, 88, 89, 90, 91, 92, 93, 94, 95, 96, 99, 100, 101, 102, 103, 104, 105, 106, 107, 108, 109, 110, 111, 112, 113, 114, 115] (by decide +kernel) (by decide +kernel)
set_option maxRecDepth 20000 in
theorem gX6_follow_X6_slides : GoodIn wsX6_follow (wsV RX6 199 RX6 yX6_slides wsX6_slides) := goodIn_app (goodIn_of _ (by decide +kernel)) ggX6_follow_X6_slides
set_option maxRecDepth 20000 in
theorem ggX6_follow_X6_answer : GoodIn wsX6_follow wsX6_answer := goodIn_r _ [83, 16, 84, 85, 86, 87, 88, 89, 90, 91, 92, 93, 94, 95, 96] (by decide +kernel) (by decide +kernel)
set_option maxRecDepth 20000 in
theorem gX6_follow_X6_answer : GoodIn wsX6_follow (wsV RX6 106 RX6 yX6_answer wsX6_answer) := goodIn_app (goodIn_of _ (by decide +kernel)) ggX6_follow_X6_answer
theorem dX6_follow_0 : decode cX6_follow 0 = .ok (.aload_n 0, 1) := by decide +kernel
theorem dX6_follow_1 : decode cX6_follow 1 = .ok (.invokevirtual 69, 3) := by decide +kernel
theorem dX6_follow_4 : decode cX6_follow 4 = .ok (.ifCond .eq 9, 3) := by decide +kernel
theorem dX6_follow_7 : decode cX6_follow 7 = .ok (.aload_n 0, 1) := by decide +kernel
theorem dX6_follow_8 : decode cX6_follow 8 = .ok (.iconst 1, 1) := by decide +kernel
theorem dX6_follow_9 : decode cX6_follow 9 = .ok (.invokevirtual 99, 3) := by decide +kernel
theorem dX6_follow_12 : decode cX6_follow 12 = .ok (.ireturn, 1) := by decide +kernel
theorem dX6_follow_13 : decode cX6_follow 13 = .ok (.iload_n 1, 1) := by decide +kernel
theorem dX6_follow_14 : decode cX6_follow 14 = .ok (.ifCond .lt 7, 3) := by decide +kernel
theorem dX6_follow_17 : decode cX6_follow 17 = .ok (.iload_n 2, 1) := by decide +kernel
theorem dX6_follow_18 : decode cX6_follow 18 = .ok (.ifCond .ge 9, 3) := by decide +kernel
theorem dX6_follow_21 : decode cX6_follow 21 = .ok (.aload_n 0, 1) := by decide +kernel
theorem dX6_follow_22 : decode cX6_follow 22 = .ok (.iconst 2, 1) := by decide +kernel
theorem dX6_follow_23 : decode cX6_follow 23 = .ok (.invokevirtual 99, 3) := by decide +kernel
theorem dX6_follow_26 : decode cX6_follow 26 = .ok (.ireturn, 1) := by decide +kernel
theorem dX6_follow_27 : decode cX6_follow 27 = .ok (.aload_n 0, 1) := by decide +kernel
theorem dX6_follow_28 : decode cX6_follow 28 = .ok (.getfield 245, 3) := by decide +kernel
theorem dX6_follow_31 : decode cX6_follow 31 = .ok (.ifnonnull 10, 3) := by decide +kernel
theorem dX6_follow_34 : decode cX6_follow 34 = .ok (.aload_n 0, 1) := by decide +kernel
theorem dX6_follow_35 : decode cX6_follow 35 = .ok (.bipush 11, 2) := by decide +kernel
theorem dX6_follow_37 : decode cX6_follow 37 = .ok (.invokevirtual 99, 3) := by decide +kernel
theorem dX6_follow_40 : decode cX6_follow 40 = .ok (.ireturn, 1) := by decide +kernel
theorem dX6_follow_41 : decode cX6_follow 41 = .ok (.iconst 0, 1) := by decide +kernel
theorem dX6_follow_42 : decode cX6_follow 42 = .ok (.istore_n 3, 1) := by decide +kernel
theorem dX6_follow_43 : decode cX6_follow 43 = .ok (.iload_n 1, 1) := by decide +kernel
theorem dX6_follow_44 : decode cX6_follow 44 = .ok (.istore 4, 2) := by decide +kernel
theorem dX6_follow_46 : decode cX6_follow 46 = .ok (.iload 4, 2) := by decide +kernel
theorem dX6_follow_48 : decode cX6_follow 48 = .ok (.aload_n 0, 1) := by decide +kernel
theorem dX6_follow_49 : decode cX6_follow 49 = .ok (.getfield 245, 3) := by decide +kernel
theorem dX6_follow_52 : decode cX6_follow 52 = .ok (.getfield 249, 3) := by decide +kernel
theorem dX6_follow_55 : decode cX6_follow 55 = .ok (.if_icmp .ge 69, 3) := by decide +kernel
theorem dX6_follow_58 : decode cX6_follow 58 = .ok (.iload_n 3, 1) := by decide +kernel
theorem dX6_follow_59 : decode cX6_follow 59 = .ok (.iload_n 2, 1) := by decide +kernel
theorem dX6_follow_60 : decode cX6_follow 60 = .ok (.if_icmp .ge 64, 3) := by decide +kernel
theorem dX6_follow_63 : decode cX6_follow 63 = .ok (.aload_n 0, 1) := by decide +kernel
theorem dX6_follow_64 : decode cX6_follow 64 = .ok (.getfield 245, 3) := by decide +kernel
theorem dX6_follow_67 : decode cX6_follow 67 = .ok (.getfield 254, 3) := by decide +kernel
theorem dX6_follow_70 : decode cX6_follow 70 = .ok (.iload 4, 2) := by decide +kernel
theorem dX6_follow_72 : decode cX6_follow 72 = .ok (.iaload, 1) := by decide +kernel
theorem dX6_follow_73 : decode cX6_follow 73 = .ok (.istore 5, 2) := by decide +kernel
theorem dX6_follow_75 : decode cX6_follow 75 = .ok (.iload 5, 2) := by decide +kernel
theorem dX6_follow_77 : decode cX6_follow 77 = .ok (.invokestatic 212, 3) := by decide +kernel
theorem dX6_follow_80 : decode cX6_follow 80 = .ok (.aload_n 0, 1) := by decide +kernel
theorem dX6_follow_81 : decode cX6_follow 81 = .ok (.getfield 19, 3) := by decide +kernel
theorem dX6_follow_84 : decode cX6_follow 84 = .ok (.getfield 137, 3) := by decide +kernel
theorem dX6_follow_87 : decode cX6_follow 87 = .ok (.if_icmp .ge 37, 3) := by decide +kernel
theorem dX6_follow_90 : decode cX6_follow 90 = .ok (.aload_n 0, 1) := by decide +kernel
theorem dX6_follow_91 : decode cX6_follow 91 = .ok (.iload 5, 2) := by decide +kernel
theorem dX6_follow_93 : decode cX6_follow 93 = .ok (.invokestatic 212, 3) := by decide +kernel
theorem dX6_follow_96 : decode cX6_follow 96 = .ok (.iload 5, 2) := by decide +kernel
theorem dX6_follow_98 : decode cX6_follow 98 = .ok (.invokestatic 215, 3) := by decide +kernel
theorem dX6_follow_101 : decode cX6_follow 101 = .ok (.iload 5, 2) := by decide +kernel
theorem dX6_follow_103 : decode cX6_follow 103 = .ok (.invokestatic 218, 3) := by decide +kernel
theorem dX6_follow_106 : decode cX6_follow 106 = .ok (.invokevirtual 199, 3) := by decide +kernel
theorem dX6_follow_109 : decode cX6_follow 109 = .ok (.ifCond .ne 6, 3) := by decide +kernel
theorem dX6_follow_112 : decode cX6_follow 112 = .ok (.goto 12, 3) := by decide +kernel
theorem dX6_follow_115 : decode cX6_follow 115 = .ok (.iinc 3 1, 3) := by decide +kernel
theorem dX6_follow_118 : decode cX6_follow 118 = .ok (.iinc 4 1, 3) := by decide +kernel
theorem dX6_follow_121 : decode cX6_follow 121 = .ok (.goto (-75), 3) := by decide +kernel
theorem dX6_follow_124 : decode cX6_follow 124 = .ok (.aload_n 0, 1) := by decide +kernel
theorem dX6_follow_125 : decode cX6_follow 125 = .ok (.iload_n 3, 1) := by decide +kernel
theorem dX6_follow_126 : decode cX6_follow 126 = .ok (.invokevirtual 106, 3) := by decide +kernel
theorem dX6_follow_129 : decode cX6_follow 129 = .ok (.ireturn, 1) := by decide +kernel
set_option maxRecDepth 20000 in
theorem ggX6_all_X6_faultOfSearch : GoodIn wsX6_all wsX6_faultOfSearch := goodIn_r _ [7, 8, 9, 10, 11, 6, 12, 13, 14, 15, 16, 17, 18, 19, 20, 21, 22, 23, 24, 25, 26, 27, 28, 29, 30, 31, 32, 33, 34, 35, 36, 37, 38, 39, 40, 41, 42, 43, 44, 45, 46, 47, 48, 49, 50, 51, 52, 53, 54, 55, 56, 57, 58, 59, 60, 61, 62, 63, 64, 65, 66, 67, 68, 69, 70, 71, 72, 73, 74, 75, 76, 77, 78, 79, 80, 81, 82, 83, 84, 85, 86, 87, 88, 89, 90, 91, 92, 93, 94, 95, 96, 97, 98, 99, 100, 101, 102, 103, 104, 105, 106, 107, 108, 109, 110, 111, 112, 113, 114, 115, 116, 117, 118, 119, 120, 121, 122, 123, 124, 125, 126, 127, 128, 129, 130, 131, 132, 133, 134, 135, 136, 137, 138, 139, 140, 141, 142, 143, 144, 145, 146, 147, 148, 149, 150, 151, 152, 153, 154, 155, 156, 157, 158, 159, 160, 161, 162, 163, 164, 165, 166, 167, 168, 169, 170, 171, 172, 173, 174, 175, 176, 177, 178, 179, 180, 181, 182, 183, 184, 205, 206, 207, 208, 209, 210, 211, 212, 213, 214, 215, 216, 217, 218, 219, 220, 221, 222, 223, 224, 225, 226, 227, 228, 229, 230, 231, 232, 233, 234, 235, 236, 237, 238, 239, 240, 241, 242] (by decide +kernel) (by decide +kernel)
set_option maxRecDepth 20000 in
theorem gX6_all_X6_faultOfSearch : GoodIn wsX6_all (wsV RX6 227 RX6 yX6_faultOfSearch wsX6_faultOfSearch) := goodIn_app (goodIn_of _ (by decide +kernel)) ggX6_all_X6_faultOfSearch
set_option maxRecDepth 20000 in
theorem ggX6_all_X6_refuse : GoodIn wsX6_all wsX6_refuse := goodIn_r _ [188, 2, 205, 206, 207, 208, 209, 210, 211, 212, 213, 214, 215, 216, 217] (by decide +kernel) (by decide +kernel)
set_option maxRecDepth 20000 in
theorem gX6_all_X6_refuse : GoodIn wsX6_all (wsV RX6 99 RX6 yX6_refuse wsX6_refuse) := goodIn_app (goodIn_of _ (by decide +kernel)) ggX6_all_X6_refuse
set_option maxRecDepth 20000 in
theorem ggX6_all_X6_searcher : GoodIn wsX6_all wsX6_searcher := goodIn_r _ [17, 18, 19, 20, 21, 22, 23, 24, 25, 26, 27, 28, 29, 30, 31, 32, 33, 34, 35, 36, 37, 38, 39, 40, 41, 42, 43, 44, 45, 46, 47, 48, 49, 50, 51, 52, 205, 206, 207, 208, 209, 210, 211, 212, 213, 214, 215, 216, 217, 231, 232, 233, 234, 235, 236, 237, 238, 239, 240, 241, 242, 218, 219, 220, 221, 222, 223, 224, 225, 226, 227, 228, 229, 230] (by decide +kernel) (by decide +kernel)
set_option maxRecDepth 20000 in
theorem gX6_all_X6_searcher : GoodIn wsX6_all (wsV RX6 231 RX6 yX6_searcher wsX6_searcher) := goodIn_app (goodIn_of _ (by decide +kernel)) ggX6_all_X6_searcher
set_option maxRecDepth 20000 in
theorem ggX6_all_X5_plansWithout : GoodIn wsX6_all wsX5_plansWithout := goodIn_r _ [192, 57, 40, 155, 39, 38, 193, 194, 195, 21, 196, 197, 198, 199, 200, 201, 202, 203, 204, 37, 98, 99, 100, 101, 30, 80, 102, 103, 104, 105, 106, 107, 108, 109, 110, 32, 33, 81, 111, 112, 113, 114, 29, 115, 52, 45, 116, 117, 118, 119, 120, 121, 122, 123, 44, 49, 50, 51, 70, 71, 124, 125, 6, 126, 127, 128, 129, 130, 67, 68, 131, 132, 133, 134, 135, 136, 168, 169, 170, 171, 35, 137, 138, 139, 140, 141, 142, 143, 144, 145, 146, 82, 83, 84, 147, 148, 149, 150, 85, 86, 87, 92, 93, 94, 95, 96, 97, 231, 232, 233, 234, 235, 236, 237, 238, 239, 240, 241, 242, 218, 219, 220, 221, 222, 223, 224, 225, 226, 227, 228, 229, 230] (by decide +kernel) (by decide +kernel)
set_option maxRecDepth 20000 in
theorem gX6_all_X5_plansWithout : GoodIn wsX6_all (wsV RX6 257 RX5 yX5_plansWithout wsX5_plansWithout) := goodIn_app (goodIn_of _ (by decide +kernel)) ggX6_all_X5_plansWithout
theorem dX6_all_0 : decode cX6_all 0 = .ok (.aload_n 0, 1) := by decide +kernel
theorem dX6_all_1 : decode cX6_all 1 = .ok (.iconst 0, 1) := by decide +kernel
theorem dX6_all_2 : decode cX6_all 2 = .ok (.iconst 0, 1) := by decide +kernel
theorem dX6_all_3 : decode cX6_all 3 = .ok (.invokevirtual 227, 3) := by decide +kernel
theorem dX6_all_6 : decode cX6_all 6 = .ok (.istore_n 1, 1) := by decide +kernel
theorem dX6_all_7 : decode cX6_all 7 = .ok (.iload_n 1, 1) := by decide +kernel
theorem dX6_all_8 : decode cX6_all 8 = .ok (.ifCond .eq 10, 3) := by decide +kernel
theorem dX6_all_11 : decode cX6_all 11 = .ok (.aload_n 0, 1) := by decide +kernel
theorem dX6_all_12 : decode cX6_all 12 = .ok (.iload_n 1, 1) := by decide +kernel
theorem dX6_all_13 : decode cX6_all 13 = .ok (.invokevirtual 99, 3) := by decide +kernel
theorem dX6_all_16 : decode cX6_all 16 = .ok (.i2l, 1) := by decide +kernel
theorem dX6_all_17 : decode cX6_all 17 = .ok (.lreturn, 1) := by decide +kernel
theorem dX6_all_18 : decode cX6_all 18 = .ok (.aload_n 0, 1) := by decide +kernel
theorem dX6_all_19 : decode cX6_all 19 = .ok (.invokevirtual 231, 3) := by decide +kernel
theorem dX6_all_22 : decode cX6_all 22 = .ok (.iconst (-1), 1) := by decide +kernel
theorem dX6_all_23 : decode cX6_all 23 = .ok (.invokevirtual 257, 3) := by decide +kernel
theorem dX6_all_26 : decode cX6_all 26 = .ok (.lstore_n 2, 1) := by decide +kernel
theorem dX6_all_27 : decode cX6_all 27 = .ok (.lload_n 2, 1) := by decide +kernel
theorem dX6_all_28 : decode cX6_all 28 = .ok (.ldc2_w 261, 3) := by decide +kernel
theorem dX6_all_31 : decode cX6_all 31 = .ok (.lcmp, 1) := by decide +kernel
theorem dX6_all_32 : decode cX6_all 32 = .ok (.ifCond .lt 11, 3) := by decide +kernel
theorem dX6_all_35 : decode cX6_all 35 = .ok (.aload_n 0, 1) := by decide +kernel
theorem dX6_all_36 : decode cX6_all 36 = .ok (.bipush 10, 2) := by decide +kernel
theorem dX6_all_38 : decode cX6_all 38 = .ok (.invokevirtual 99, 3) := by decide +kernel
theorem dX6_all_41 : decode cX6_all 41 = .ok (.i2l, 1) := by decide +kernel
theorem dX6_all_42 : decode cX6_all 42 = .ok (.lreturn, 1) := by decide +kernel
theorem dX6_all_43 : decode cX6_all 43 = .ok (.aload_n 0, 1) := by decide +kernel
theorem dX6_all_44 : decode cX6_all 44 = .ok (.iconst 0, 1) := by decide +kernel
theorem dX6_all_45 : decode cX6_all 45 = .ok (.putfield 51, 3) := by decide +kernel
theorem dX6_all_48 : decode cX6_all 48 = .ok (.lload_n 2, 1) := by decide +kernel
theorem dX6_all_49 : decode cX6_all 49 = .ok (.lreturn, 1) := by decide +kernel
set_option maxRecDepth 20000 in
theorem ggX6_must_X6_faultOfBarge : GoodIn wsX6_must wsX6_faultOfBarge := goodIn_r _ [5, 6, 7, 8, 9, 10, 4, 11, 12, 213, 214, 215, 216, 217, 218, 219, 220, 221, 222, 223, 224, 225, 226, 227, 228, 229, 230, 231, 232, 233, 234, 235, 236, 237, 238] (by decide +kernel) (by decide +kernel)
set_option maxRecDepth 20000 in
theorem gX6_must_X6_faultOfBarge : GoodIn wsX6_must (wsV RX6 147 RX6 yX6_faultOfBarge wsX6_faultOfBarge) := goodIn_app (goodIn_of _ (by decide +kernel)) ggX6_must_X6_faultOfBarge
set_option maxRecDepth 20000 in
theorem ggX6_must_X6_faultOfSearch : GoodIn wsX6_must wsX6_faultOfSearch := goodIn_r _ [16, 6, 8, 9, 10, 4, 11, 12, 17, 18, 19, 20, 21, 22, 23, 24, 25, 26, 27, 28, 29, 30, 31, 32, 33, 34, 35, 36, 37, 38, 39, 40, 41, 42, 43, 44, 45, 46, 47, 48, 49, 50, 51, 52, 53, 54, 55, 56, 57, 58, 59, 60, 61, 62, 63, 64, 65, 66, 67, 68, 69, 70, 71, 72, 73, 74, 75, 76, 77, 78, 79, 80, 81, 82, 83, 84, 85, 86, 87, 88, 89, 90, 91, 92, 93, 94, 95, 96, 97, 98, 99, 100, 101, 102, 103, 104, 105, 106, 107, 108, 109, 110, 111, 112, 113, 114, 115, 116, 117, 118, 119, 120, 121, 122, 123, 124, 125, 126, 127, 128, 129, 130, 131, 132, 133, 134, 135, 136, 137, 138, 139, 140, 141, 142, 143, 144, 145, 146, 147, 148, 149, 150, 151, 152, 153, 154, 155, 156, 157, 158, 159, 160, 161, 162, 163, 164, 165, 166, 167, 168, 169, 170, 171, 172, 173, 174, 175, 176, 177, 178, 179, 180, 181, 182, 183, 184, 185, 186, 187, 213, 214, 215, 216, 217, 218, 219, 220, 221, 222, 223, 224, 225, 226, 227, 228, 229, 230, 231, 232, 233, 234, 235, 236, 237, 238, 239, 240, 241, 242, 243, 244, 245, 246, 247, 248, 249, 250] (by decide +kernel) (by decide +kernel)
set_option maxRecDepth 20000 in
theorem gX6_must_X6_faultOfSearch : GoodIn wsX6_must (wsV RX6 227 RX6 yX6_faultOfSearch wsX6_faultOfSearch) := goodIn_app (goodIn_of _ (by decide +kernel)) ggX6_must_X6_faultOfSearch
set_option maxRecDepth 20000 in
theorem ggX6_must_X6_refuse : GoodIn wsX6_must wsX6_refuse := goodIn_r _ [191, 192, 213, 214, 215, 216, 217, 218, 219, 220, 221, 222, 223, 224, 225] (by decide +kernel) (by decide +kernel)
set_option maxRecDepth 20000 in
theorem gX6_must_X6_refuse : GoodIn wsX6_must (wsV RX6 99 RX6 yX6_refuse wsX6_refuse) := goodIn_app (goodIn_of _ (by decide +kernel)) ggX6_must_X6_refuse
set_option maxRecDepth 20000 in
theorem ggX6_must_X6_searcher : GoodIn wsX6_must wsX6_searcher := goodIn_r _ [20, 21, 22, 23, 24, 25, 26, 27, 28, 29, 30, 31, 32, 33, 34, 35, 36, 37, 38, 39, 40, 41, 42, 43, 44, 45, 46, 47, 48, 49, 50, 51, 52, 53, 54, 55, 213, 214, 215, 216, 217, 218, 219, 220, 221, 222, 223, 224, 225, 239, 240, 241, 242, 243, 244, 245, 246, 247, 248, 249, 250, 226, 227, 228, 229, 230, 231, 232, 233, 234, 235, 236, 237, 238] (by decide +kernel) (by decide +kernel)
set_option maxRecDepth 20000 in
theorem gX6_must_X6_searcher : GoodIn wsX6_must (wsV RX6 231 RX6 yX6_searcher wsX6_searcher) := goodIn_app (goodIn_of _ (by decide +kernel)) ggX6_must_X6_searcher
set_option maxRecDepth 20000 in
theorem ggX6_must_X5_plansWithout : GoodIn wsX6_must wsX5_plansWithout := goodIn_r _ [196, 60, 43, 158, 42, 41, 197, 198, 199, 24, 200, 201, 202, 203, 204, 205, 206, 207, 208, 40, 101, 102, 103, 104, 33, 83, 105, 106, 107, 108, 109, 110, 111, 112, 113, 35, 36, 84, 114, 115, 116, 117, 32, 118, 55, 48, 119, 120, 121, 122, 123, 124, 125, 126, 47, 52, 53, 54, 73, 74, 127, 128, 4, 129, 130, 131, 132, 133, 70, 71, 134, 135, 136, 137, 138, 139, 171, 172, 173, 174, 38, 140, 141, 142, 143, 144, 145, 146, 147, 148, 149, 85, 86, 87, 150, 151, 152, 153, 88, 89, 90, 95, 96, 97, 98, 99, 100, 239, 240, 241, 242, 243, 244, 245, 246, 247, 248, 249, 250, 226, 227, 228, 229, 230, 231, 232, 233, 234, 235, 236, 237, 238] (by decide +kernel) (by decide +kernel)
set_option maxRecDepth 20000 in
theorem gX6_must_X5_plansWithout : GoodIn wsX6_must (wsV RX6 257 RX5 yX5_plansWithout wsX5_plansWithout) := goodIn_app (goodIn_of _ (by decide +kernel)) ggX6_must_X5_plansWithout
set_option maxRecDepth 20000 in
theorem ggX6_must_X6_answer : GoodIn wsX6_must wsX6_answer := goodIn_r _ [212, 192, 213, 214, 215, 216, 217, 218, 219, 220, 221, 222, 223, 224, 225] (by decide +kernel) (by decide +kernel)
set_option maxRecDepth 20000 in
theorem gX6_must_X6_answer : GoodIn wsX6_must (wsV RX6 106 RX6 yX6_answer wsX6_answer) := goodIn_app (goodIn_of _ (by decide +kernel)) ggX6_must_X6_answer
theorem dX6_must_0 : decode cX6_must 0 = .ok (.aload_n 0, 1) := by decide +kernel
theorem dX6_must_1 : decode cX6_must 1 = .ok (.iload_n 1, 1) := by decide +kernel
theorem dX6_must_2 : decode cX6_must 2 = .ok (.invokevirtual 147, 3) := by decide +kernel
theorem dX6_must_5 : decode cX6_must 5 = .ok (.istore_n 2, 1) := by decide +kernel
theorem dX6_must_6 : decode cX6_must 6 = .ok (.iload_n 2, 1) := by decide +kernel
theorem dX6_must_7 : decode cX6_must 7 = .ok (.ifCond .ne 10, 3) := by decide +kernel
theorem dX6_must_10 : decode cX6_must 10 = .ok (.aload_n 0, 1) := by decide +kernel
theorem dX6_must_11 : decode cX6_must 11 = .ok (.iconst 0, 1) := by decide +kernel
theorem dX6_must_12 : decode cX6_must 12 = .ok (.iconst 0, 1) := by decide +kernel
theorem dX6_must_13 : decode cX6_must 13 = .ok (.invokevirtual 227, 3) := by decide +kernel
theorem dX6_must_16 : decode cX6_must 16 = .ok (.istore_n 2, 1) := by decide +kernel
theorem dX6_must_17 : decode cX6_must 17 = .ok (.iload_n 2, 1) := by decide +kernel
theorem dX6_must_18 : decode cX6_must 18 = .ok (.ifCond .eq 9, 3) := by decide +kernel
theorem dX6_must_21 : decode cX6_must 21 = .ok (.aload_n 0, 1) := by decide +kernel
theorem dX6_must_22 : decode cX6_must 22 = .ok (.iload_n 2, 1) := by decide +kernel
theorem dX6_must_23 : decode cX6_must 23 = .ok (.invokevirtual 99, 3) := by decide +kernel
theorem dX6_must_26 : decode cX6_must 26 = .ok (.ireturn, 1) := by decide +kernel
theorem dX6_must_27 : decode cX6_must 27 = .ok (.aload_n 0, 1) := by decide +kernel
theorem dX6_must_28 : decode cX6_must 28 = .ok (.aload_n 0, 1) := by decide +kernel
theorem dX6_must_29 : decode cX6_must 29 = .ok (.invokevirtual 231, 3) := by decide +kernel
theorem dX6_must_32 : decode cX6_must 32 = .ok (.iload_n 1, 1) := by decide +kernel
theorem dX6_must_33 : decode cX6_must 33 = .ok (.invokevirtual 257, 3) := by decide +kernel
theorem dX6_must_36 : decode cX6_must 36 = .ok (.lconst 0, 1) := by decide +kernel
theorem dX6_must_37 : decode cX6_must 37 = .ok (.lcmp, 1) := by decide +kernel
theorem dX6_must_38 : decode cX6_must 38 = .ok (.ifCond .ne 7, 3) := by decide +kernel
theorem dX6_must_41 : decode cX6_must 41 = .ok (.iconst 1, 1) := by decide +kernel
theorem dX6_must_42 : decode cX6_must 42 = .ok (.goto 4, 3) := by decide +kernel
theorem dX6_must_45 : decode cX6_must 45 = .ok (.iconst 0, 1) := by decide +kernel
theorem dX6_must_46 : decode cX6_must 46 = .ok (.invokevirtual 106, 3) := by decide +kernel
theorem dX6_must_49 : decode cX6_must 49 = .ok (.ireturn, 1) := by decide +kernel
set_option maxRecDepth 20000 in
theorem ggX6_low_X6_hasNoBasin : GoodIn wsX6_low wsX6_hasNoBasin := goodIn_r _ [6, 1, 7, 47, 48, 49, 50, 51, 52, 53, 54, 55, 56, 57, 58, 59, 60, 61, 62, 63, 64, 65, 66, 67, 68, 69, 70, 71, 72] (by decide +kernel) (by decide +kernel)
set_option maxRecDepth 20000 in
theorem gX6_low_X6_hasNoBasin : GoodIn wsX6_low (wsV RX6 69 RX6 yX6_hasNoBasin wsX6_hasNoBasin) := goodIn_app (goodIn_of _ (by decide +kernel)) ggX6_low_X6_hasNoBasin
set_option maxRecDepth 20000 in
theorem ggX6_low_X6_refuse : GoodIn wsX6_low wsX6_refuse := goodIn_r _ [11, 12, 47, 48, 49, 50, 51, 52, 53, 54, 55, 56, 57, 58, 59] (by decide +kernel) (by decide +kernel)
set_option maxRecDepth 20000 in
theorem gX6_low_X6_refuse : GoodIn wsX6_low (wsV RX6 99 RX6 yX6_refuse wsX6_refuse) := goodIn_app (goodIn_of _ (by decide +kernel)) ggX6_low_X6_refuse
set_option maxRecDepth 20000 in
theorem ggX6_low_X0_countLow : GoodIn wsX6_low wsX0_countLow := goodIn_r _ [17, 18, 19, 20, 21, 16, 22, 23, 24, 25, 26, 27, 28, 29, 30, 31, 32, 33, 34, 35, 36, 37, 38, 39, 40, 41, 42, 60, 61, 62, 63, 64, 65, 66, 67, 68, 69, 70, 71, 72] (by decide +kernel) (by decide +kernel)
set_option maxRecDepth 20000 in
theorem gX6_low_X0_countLow : GoodIn wsX6_low (wsV RX6 263 RX0 yX0_countLow wsX0_countLow) := goodIn_app (goodIn_of _ (by decide +kernel)) ggX6_low_X0_countLow
set_option maxRecDepth 20000 in
theorem ggX6_low_X6_answer : GoodIn wsX6_low wsX6_answer := goodIn_r _ [46, 12, 47, 48, 49, 50, 51, 52, 53, 54, 55, 56, 57, 58, 59] (by decide +kernel) (by decide +kernel)
set_option maxRecDepth 20000 in
theorem gX6_low_X6_answer : GoodIn wsX6_low (wsV RX6 106 RX6 yX6_answer wsX6_answer) := goodIn_app (goodIn_of _ (by decide +kernel)) ggX6_low_X6_answer
theorem dX6_low_0 : decode cX6_low 0 = .ok (.aload_n 0, 1) := by decide +kernel
theorem dX6_low_1 : decode cX6_low 1 = .ok (.invokevirtual 69, 3) := by decide +kernel
theorem dX6_low_4 : decode cX6_low 4 = .ok (.ifCond .eq 11, 3) := by decide +kernel
theorem dX6_low_7 : decode cX6_low 7 = .ok (.aload_n 0, 1) := by decide +kernel
theorem dX6_low_8 : decode cX6_low 8 = .ok (.iconst 1, 1) := by decide +kernel
theorem dX6_low_9 : decode cX6_low 9 = .ok (.invokevirtual 99, 3) := by decide +kernel
theorem dX6_low_12 : decode cX6_low 12 = .ok (.goto 14, 3) := by decide +kernel
theorem dX6_low_15 : decode cX6_low 15 = .ok (.aload_n 0, 1) := by decide +kernel
theorem dX6_low_16 : decode cX6_low 16 = .ok (.aload_n 0, 1) := by decide +kernel
theorem dX6_low_17 : decode cX6_low 17 = .ok (.getfield 19, 3) := by decide +kernel
theorem dX6_low_20 : decode cX6_low 20 = .ok (.invokevirtual 263, 3) := by decide +kernel
theorem dX6_low_23 : decode cX6_low 23 = .ok (.invokevirtual 106, 3) := by decide +kernel
theorem dX6_low_26 : decode cX6_low 26 = .ok (.ireturn, 1) := by decide +kernel
set_option maxRecDepth 20000 in
theorem ggX6_reach_X6_hasNoBasin : GoodIn wsX6_reach wsX6_hasNoBasin := goodIn_r _ [7, 1, 8, 155, 156, 157, 158, 159, 160, 161, 162, 163, 164, 165, 166, 167, 180, 181, 182, 183, 184, 185, 186, 187, 188, 189, 190, 191, 192] (by decide +kernel) (by decide +kernel)
set_option maxRecDepth 20000 in
theorem gX6_reach_X6_hasNoBasin : GoodIn wsX6_reach (wsV RX6 69 RX6 yX6_hasNoBasin wsX6_hasNoBasin) := goodIn_app (goodIn_of _ (by decide +kernel)) ggX6_reach_X6_hasNoBasin
set_option maxRecDepth 20000 in
theorem ggX6_reach_X6_refuse : GoodIn wsX6_reach wsX6_refuse := goodIn_r _ [12, 13, 155, 156, 157, 158, 159, 160, 161, 162, 163, 164, 165, 166, 167] (by decide +kernel) (by decide +kernel)
set_option maxRecDepth 20000 in
theorem gX6_reach_X6_refuse : GoodIn wsX6_reach (wsV RX6 99 RX6 yX6_refuse wsX6_refuse) := goodIn_app (goodIn_of _ (by decide +kernel)) ggX6_reach_X6_refuse
set_option maxRecDepth 20000 in
theorem ggX6_reach_X6_searcher : GoodIn wsX6_reach wsX6_searcher := goodIn_r _ [17, 18, 19, 20, 21, 22, 23, 24, 25, 26, 27, 28, 29, 30, 31, 32, 33, 34, 35, 36, 37, 38, 39, 40, 41, 42, 43, 44, 45, 46, 47, 48, 49, 50, 51, 52, 155, 156, 157, 158, 159, 160, 161, 162, 163, 164, 165, 166, 167, 168, 169, 170, 171, 172, 173, 174, 175, 176, 177, 178, 179, 180, 181, 182, 183, 184, 185, 186, 187, 188, 189, 190, 191, 192] (by decide +kernel) (by decide +kernel)
set_option maxRecDepth 20000 in
theorem gX6_reach_X6_searcher : GoodIn wsX6_reach (wsV RX6 231 RX6 yX6_searcher wsX6_searcher) := goodIn_app (goodIn_of _ (by decide +kernel)) ggX6_reach_X6_searcher
set_option maxRecDepth 20000 in
theorem ggX6_reach_X5_explore : GoodIn wsX6_reach wsX5_explore := goodIn_r _ [56, 30, 57, 58, 37, 59, 60, 61, 21, 62, 35, 36, 63, 64, 65, 29, 66, 67, 68, 69, 70, 71, 72, 73, 74, 75, 44, 45, 46, 47, 49, 50, 51, 52, 76, 77, 78, 79, 80, 81, 82, 83, 84, 85, 86, 87, 88, 89, 90, 91, 32, 33, 92, 93, 94, 95, 96, 97, 98, 99, 100, 101, 102, 103, 104, 105, 106, 107, 108, 109, 110, 111, 112, 113, 114, 115, 116, 117, 118, 119, 120, 121, 122, 123, 124, 125, 6, 126, 127, 128, 129, 130, 131, 132, 133, 134, 135, 136, 137, 138, 139, 140, 141, 142, 143, 144, 145, 146, 147, 148, 149, 150, 168, 169, 170, 171, 172, 173, 174, 175, 176, 177, 178, 179, 180, 181, 182, 183, 184, 185, 186, 187, 188, 189, 190, 191, 192] (by decide +kernel) (by decide +kernel)
set_option maxRecDepth 20000 in
theorem gX6_reach_X5_explore : GoodIn wsX6_reach (wsV RX6 266 RX5 yX5_explore wsX5_explore) := goodIn_app (goodIn_of _ (by decide +kernel)) ggX6_reach_X5_explore
set_option maxRecDepth 20000 in
theorem ggX6_reach_X6_answer : GoodIn wsX6_reach wsX6_answer := goodIn_r _ [154, 13, 155, 156, 157, 158, 159, 160, 161, 162, 163, 164, 165, 166, 167] (by decide +kernel) (by decide +kernel)
set_option maxRecDepth 20000 in
theorem gX6_reach_X6_answer : GoodIn wsX6_reach (wsV RX6 106 RX6 yX6_answer wsX6_answer) := goodIn_app (goodIn_of _ (by decide +kernel)) ggX6_reach_X6_answer
theorem dX6_reach_0 : decode cX6_reach 0 = .ok (.aload_n 0, 1) := by decide +kernel
theorem dX6_reach_1 : decode cX6_reach 1 = .ok (.invokevirtual 69, 3) := by decide +kernel
theorem dX6_reach_4 : decode cX6_reach 4 = .ok (.ifCond .eq 9, 3) := by decide +kernel
theorem dX6_reach_7 : decode cX6_reach 7 = .ok (.aload_n 0, 1) := by decide +kernel
theorem dX6_reach_8 : decode cX6_reach 8 = .ok (.iconst 1, 1) := by decide +kernel
theorem dX6_reach_9 : decode cX6_reach 9 = .ok (.invokevirtual 99, 3) := by decide +kernel
theorem dX6_reach_12 : decode cX6_reach 12 = .ok (.ireturn, 1) := by decide +kernel
theorem dX6_reach_13 : decode cX6_reach 13 = .ok (.aload_n 0, 1) := by decide +kernel
theorem dX6_reach_14 : decode cX6_reach 14 = .ok (.invokevirtual 231, 3) := by decide +kernel
theorem dX6_reach_17 : decode cX6_reach 17 = .ok (.astore_n 1, 1) := by decide +kernel
theorem dX6_reach_18 : decode cX6_reach 18 = .ok (.aload_n 1, 1) := by decide +kernel
theorem dX6_reach_19 : decode cX6_reach 19 = .ok (.aload_n 0, 1) := by decide +kernel
theorem dX6_reach_20 : decode cX6_reach 20 = .ok (.getfield 19, 3) := by decide +kernel
theorem dX6_reach_23 : decode cX6_reach 23 = .ok (.invokevirtual 266, 3) := by decide +kernel
theorem dX6_reach_26 : decode cX6_reach 26 = .ok (.ifCond .eq 14, 3) := by decide +kernel
theorem dX6_reach_29 : decode cX6_reach 29 = .ok (.aload_n 0, 1) := by decide +kernel
theorem dX6_reach_30 : decode cX6_reach 30 = .ok (.aload_n 1, 1) := by decide +kernel
theorem dX6_reach_31 : decode cX6_reach 31 = .ok (.getfield 270, 3) := by decide +kernel
theorem dX6_reach_34 : decode cX6_reach 34 = .ok (.invokevirtual 106, 3) := by decide +kernel
theorem dX6_reach_37 : decode cX6_reach 37 = .ok (.goto 9, 3) := by decide +kernel
theorem dX6_reach_40 : decode cX6_reach 40 = .ok (.aload_n 0, 1) := by decide +kernel
theorem dX6_reach_41 : decode cX6_reach 41 = .ok (.bipush 10, 2) := by decide +kernel
theorem dX6_reach_43 : decode cX6_reach 43 = .ok (.invokevirtual 99, 3) := by decide +kernel
theorem dX6_reach_46 : decode cX6_reach 46 = .ok (.ireturn, 1) := by decide +kernel
set_option maxRecDepth 20000 in
theorem ggX6_far_X6_faultOfSearch : GoodIn wsX6_far wsX6_faultOfSearch := goodIn_r _ [5, 6, 7, 8, 9, 4, 10, 11, 12, 13, 14, 15, 16, 17, 18, 19, 20, 21, 22, 23, 24, 25, 26, 27, 28, 29, 30, 31, 32, 33, 34, 35, 36, 37, 38, 39, 40, 41, 42, 43, 44, 45, 46, 47, 48, 49, 50, 51, 52, 53, 54, 55, 56, 57, 58, 59, 60, 61, 62, 63, 64, 65, 66, 67, 68, 69, 70, 71, 72, 73, 74, 75, 76, 77, 78, 79, 80, 81, 82, 83, 84, 85, 86, 87, 88, 89, 90, 91, 92, 93, 94, 95, 96, 97, 98, 99, 100, 101, 102, 103, 104, 105, 106, 107, 108, 109, 110, 111, 112, 113, 114, 115, 116, 117, 118, 119, 120, 121, 122, 123, 124, 125, 126, 127, 128, 129, 130, 131, 132, 133, 134, 135, 136, 137, 138, 139, 140, 141, 142, 143, 144, 145, 146, 147, 148, 149, 150, 151, 152, 153, 154, 155, 156, 157, 158, 159, 160, 161, 162, 163, 164, 165, 166, 167, 168, 169, 170, 171, 172, 173, 174, 175, 176, 177, 178, 179, 180, 181, 182, 192, 193, 194, 195, 196, 197, 198, 199, 200, 201, 202, 203, 204, 205, 206, 207, 208, 209, 210, 211, 212, 213, 214, 215, 216, 217, 218, 219, 220, 221, 222, 223, 224, 225, 226, 227, 228, 229] (by decide +kernel) (by decide +kernel)
set_option maxRecDepth 20000 in
theorem gX6_far_X6_faultOfSearch : GoodIn wsX6_far (wsV RX6 227 RX6 yX6_faultOfSearch wsX6_faultOfSearch) := goodIn_app (goodIn_of _ (by decide +kernel)) ggX6_far_X6_faultOfSearch
set_option maxRecDepth 20000 in
theorem ggX6_far_X6_refuse : GoodIn wsX6_far wsX6_refuse := goodIn_r _ [186, 187, 192, 193, 194, 195, 196, 197, 198, 199, 200, 201, 202, 203, 204] (by decide +kernel) (by decide +kernel)
set_option maxRecDepth 20000 in
theorem gX6_far_X6_refuse : GoodIn wsX6_far (wsV RX6 99 RX6 yX6_refuse wsX6_refuse) := goodIn_app (goodIn_of _ (by decide +kernel)) ggX6_far_X6_refuse
set_option maxRecDepth 20000 in
theorem ggX6_far_X6_searcher : GoodIn wsX6_far wsX6_searcher := goodIn_r _ [15, 16, 17, 18, 19, 20, 21, 22, 23, 24, 25, 26, 27, 28, 29, 30, 31, 32, 33, 34, 35, 36, 37, 38, 39, 40, 41, 42, 43, 44, 45, 46, 47, 48, 49, 50, 192, 193, 194, 195, 196, 197, 198, 199, 200, 201, 202, 203, 204, 218, 219, 220, 221, 222, 223, 224, 225, 226, 227, 228, 229, 205, 206, 207, 208, 209, 210, 211, 212, 213, 214, 215, 216, 217] (by decide +kernel) (by decide +kernel)
set_option maxRecDepth 20000 in
theorem gX6_far_X6_searcher : GoodIn wsX6_far (wsV RX6 231 RX6 yX6_searcher wsX6_searcher) := goodIn_app (goodIn_of _ (by decide +kernel)) ggX6_far_X6_searcher
set_option maxRecDepth 20000 in
theorem ggX6_far_X5_farthest : GoodIn wsX6_far wsX5_farthest := goodIn_r _ [173, 174, 175, 176, 19, 177, 55, 36, 178, 179, 180, 181, 218, 219, 220, 221, 222, 223, 224, 225, 226, 227, 228, 229] (by decide +kernel) (by decide +kernel)
set_option maxRecDepth 20000 in
theorem gX6_far_X5_farthest : GoodIn wsX6_far (wsV RX6 273 RX5 yX5_farthest wsX5_farthest) := goodIn_app (goodIn_of _ (by decide +kernel)) ggX6_far_X5_farthest
set_option maxRecDepth 20000 in
theorem ggX6_far_X6_answer : GoodIn wsX6_far wsX6_answer := goodIn_r _ [191, 187, 192, 193, 194, 195, 196, 197, 198, 199, 200, 201, 202, 203, 204] (by decide +kernel) (by decide +kernel)
set_option maxRecDepth 20000 in
theorem gX6_far_X6_answer : GoodIn wsX6_far (wsV RX6 106 RX6 yX6_answer wsX6_answer) := goodIn_app (goodIn_of _ (by decide +kernel)) ggX6_far_X6_answer
theorem dX6_far_0 : decode cX6_far 0 = .ok (.aload_n 0, 1) := by decide +kernel
theorem dX6_far_1 : decode cX6_far 1 = .ok (.iconst 0, 1) := by decide +kernel
theorem dX6_far_2 : decode cX6_far 2 = .ok (.iconst 1, 1) := by decide +kernel
theorem dX6_far_3 : decode cX6_far 3 = .ok (.invokevirtual 227, 3) := by decide +kernel
theorem dX6_far_6 : decode cX6_far 6 = .ok (.istore_n 1, 1) := by decide +kernel
theorem dX6_far_7 : decode cX6_far 7 = .ok (.iload_n 1, 1) := by decide +kernel
theorem dX6_far_8 : decode cX6_far 8 = .ok (.ifCond .eq 11, 3) := by decide +kernel
theorem dX6_far_11 : decode cX6_far 11 = .ok (.aload_n 0, 1) := by decide +kernel
theorem dX6_far_12 : decode cX6_far 12 = .ok (.iload_n 1, 1) := by decide +kernel
theorem dX6_far_13 : decode cX6_far 13 = .ok (.invokevirtual 99, 3) := by decide +kernel
theorem dX6_far_16 : decode cX6_far 16 = .ok (.goto 14, 3) := by decide +kernel
theorem dX6_far_19 : decode cX6_far 19 = .ok (.aload_n 0, 1) := by decide +kernel
theorem dX6_far_20 : decode cX6_far 20 = .ok (.aload_n 0, 1) := by decide +kernel
theorem dX6_far_21 : decode cX6_far 21 = .ok (.invokevirtual 231, 3) := by decide +kernel
theorem dX6_far_24 : decode cX6_far 24 = .ok (.invokevirtual 273, 3) := by decide +kernel
theorem dX6_far_27 : decode cX6_far 27 = .ok (.invokevirtual 106, 3) := by decide +kernel
theorem dX6_far_30 : decode cX6_far 30 = .ok (.ireturn, 1) := by decide +kernel
set_option maxRecDepth 20000 in
theorem ggX6_go_X6_faultOfSearch : GoodIn wsX6_go wsX6_faultOfSearch := goodIn_r _ [6, 1, 7, 8, 9, 5, 10, 11, 12, 13, 14, 15, 16, 17, 18, 19, 20, 21, 22, 23, 24, 25, 26, 27, 28, 29, 30, 31, 32, 33, 34, 35, 36, 37, 38, 39, 40, 41, 42, 43, 44, 45, 46, 47, 48, 49, 50, 51, 52, 53, 54, 55, 56, 57, 58, 59, 60, 61, 62, 63, 64, 65, 66, 67, 68, 69, 70, 71, 72, 73, 74, 75, 76, 77, 78, 79, 80, 81, 82, 83, 84, 85, 86, 87, 88, 89, 90, 91, 92, 93, 94, 95, 96, 97, 98, 99, 100, 101, 102, 103, 104, 105, 106, 107, 108, 109, 110, 111, 112, 113, 114, 115, 116, 117, 118, 119, 120, 121, 122, 123, 124, 125, 126, 127, 128, 129, 130, 131, 132, 133, 134, 135, 136, 137, 138, 139, 140, 141, 142, 143, 144, 145, 146, 147, 148, 149, 150, 151, 152, 153, 154, 155, 156, 157, 158, 159, 160, 161, 162, 163, 164, 165, 166, 167, 168, 169, 170, 171, 172, 173, 174, 175, 176, 177, 178, 179, 180, 181, 182, 206, 207, 208, 209, 210, 211, 212, 213, 214, 215, 216, 217, 218, 219, 220, 221, 222, 223, 224, 225, 226, 227, 228, 229, 230, 231, 232, 233, 234, 235, 236, 237, 238, 239, 240, 241, 242, 243] (by decide +kernel) (by decide +kernel)
set_option maxRecDepth 20000 in
theorem gX6_go_X6_faultOfSearch : GoodIn wsX6_go (wsV RX6 227 RX6 yX6_faultOfSearch wsX6_faultOfSearch) := goodIn_app (goodIn_of _ (by decide +kernel)) ggX6_go_X6_faultOfSearch
set_option maxRecDepth 20000 in
theorem ggX6_go_X6_deny : GoodIn wsX6_go wsX6_deny := goodIn_r _ [186, 187, 206, 207, 208, 209, 210, 211, 212, 213, 214, 215, 216, 217, 218] (by decide +kernel) (by decide +kernel)
set_option maxRecDepth 20000 in
theorem gX6_go_X6_deny : GoodIn wsX6_go (wsV RX6 54 RX6 yX6_deny wsX6_deny) := goodIn_app (goodIn_of _ (by decide +kernel)) ggX6_go_X6_deny
set_option maxRecDepth 20000 in
theorem ggX6_go_X6_searcher : GoodIn wsX6_go wsX6_searcher := goodIn_r _ [15, 16, 17, 18, 19, 20, 21, 22, 23, 24, 25, 26, 27, 28, 29, 30, 31, 32, 33, 34, 35, 36, 37, 38, 39, 40, 41, 42, 43, 44, 45, 46, 47, 48, 49, 50, 206, 207, 208, 209, 210, 211, 212, 213, 214, 215, 216, 217, 218, 232, 233, 234, 235, 236, 237, 238, 239, 240, 241, 242, 243, 219, 220, 221, 222, 223, 224, 225, 226, 227, 228, 229, 230, 231] (by decide +kernel) (by decide +kernel)
set_option maxRecDepth 20000 in
theorem gX6_go_X6_searcher : GoodIn wsX6_go (wsV RX6 231 RX6 yX6_searcher wsX6_searcher) := goodIn_app (goodIn_of _ (by decide +kernel)) ggX6_go_X6_searcher
set_option maxRecDepth 20000 in
theorem ggX6_go_X5_hardest : GoodIn wsX6_go wsX5_hardest := goodIn_r _ [177, 55, 36, 178, 179, 180, 19, 181, 232, 233, 234, 235, 236, 237, 238, 239, 240, 241, 242, 243] (by decide +kernel) (by decide +kernel)
set_option maxRecDepth 20000 in
theorem gX6_go_X5_hardest : GoodIn wsX6_go (wsV RX6 276 RX5 yX5_hardest wsX5_hardest) := goodIn_app (goodIn_of _ (by decide +kernel)) ggX6_go_X5_hardest
set_option maxRecDepth 20000 in
theorem ggX6_go_X5_layOut : GoodIn wsX6_go wsX5_layOut := goodIn_r _ [107, 55, 108, 78, 30, 31, 79, 109, 110, 111, 112, 27, 113, 50, 43, 232, 233, 234, 235, 236, 237, 238, 239, 240, 241, 242, 243, 219, 220, 221, 222, 223, 224, 225, 226, 227, 228, 229, 230, 231] (by decide +kernel) (by decide +kernel)
set_option maxRecDepth 20000 in
theorem gX6_go_X5_layOut : GoodIn wsX6_go (wsV RX6 279 RX5 yX5_layOut wsX5_layOut) := goodIn_app (goodIn_of _ (by decide +kernel)) ggX6_go_X5_layOut
set_option maxRecDepth 20000 in
theorem ggX6_go_X6_changed : GoodIn wsX6_go wsX6_changed := goodIn_r _ [193, 194, 195, 196, 197, 198, 199, 200, 201, 202, 203, 204, 5, 205, 187, 206, 207, 208, 209, 210, 211, 212, 213, 214, 215, 216, 217, 218, 244, 245, 246, 247] (by decide +kernel) (by decide +kernel)
set_option maxRecDepth 20000 in
theorem gX6_go_X6_changed : GoodIn wsX6_go (wsV RX6 65 RX6 yX6_changed wsX6_changed) := goodIn_app (goodIn_of _ (by decide +kernel)) ggX6_go_X6_changed
theorem dX6_go_0 : decode cX6_go 0 = .ok (.aload_n 0, 1) := by decide +kernel
theorem dX6_go_1 : decode cX6_go 1 = .ok (.iconst 0, 1) := by decide +kernel
theorem dX6_go_2 : decode cX6_go 2 = .ok (.iconst 1, 1) := by decide +kernel
theorem dX6_go_3 : decode cX6_go 3 = .ok (.invokevirtual 227, 3) := by decide +kernel
theorem dX6_go_6 : decode cX6_go 6 = .ok (.istore_n 1, 1) := by decide +kernel
theorem dX6_go_7 : decode cX6_go 7 = .ok (.iload_n 1, 1) := by decide +kernel
theorem dX6_go_8 : decode cX6_go 8 = .ok (.ifCond .eq 9, 3) := by decide +kernel
theorem dX6_go_11 : decode cX6_go 11 = .ok (.aload_n 0, 1) := by decide +kernel
theorem dX6_go_12 : decode cX6_go 12 = .ok (.iload_n 1, 1) := by decide +kernel
theorem dX6_go_13 : decode cX6_go 13 = .ok (.invokevirtual 54, 3) := by decide +kernel
theorem dX6_go_16 : decode cX6_go 16 = .ok (.ireturn, 1) := by decide +kernel
theorem dX6_go_17 : decode cX6_go 17 = .ok (.aload_n 0, 1) := by decide +kernel
theorem dX6_go_18 : decode cX6_go 18 = .ok (.invokevirtual 231, 3) := by decide +kernel
theorem dX6_go_21 : decode cX6_go 21 = .ok (.astore_n 2, 1) := by decide +kernel
theorem dX6_go_22 : decode cX6_go 22 = .ok (.aload_n 2, 1) := by decide +kernel
theorem dX6_go_23 : decode cX6_go 23 = .ok (.aload_n 2, 1) := by decide +kernel
theorem dX6_go_24 : decode cX6_go 24 = .ok (.invokevirtual 276, 3) := by decide +kernel
theorem dX6_go_27 : decode cX6_go 27 = .ok (.aload_n 0, 1) := by decide +kernel
theorem dX6_go_28 : decode cX6_go 28 = .ok (.getfield 19, 3) := by decide +kernel
theorem dX6_go_31 : decode cX6_go 31 = .ok (.invokevirtual 279, 3) := by decide +kernel
theorem dX6_go_34 : decode cX6_go 34 = .ok (.aload_n 0, 1) := by decide +kernel
theorem dX6_go_35 : decode cX6_go 35 = .ok (.invokevirtual 65, 3) := by decide +kernel
theorem dX6_go_38 : decode cX6_go 38 = .ok (.ireturn, 1) := by decide +kernel
set_option maxRecDepth 20000 in
theorem ggX6_make_X6_hasNoBasin : GoodIn wsX6_make wsX6_hasNoBasin := goodIn_r _ [11, 1, 12, 95, 96, 97, 98, 99, 100, 101, 102, 103, 104, 105, 106, 107, 109, 110, 111, 112, 113, 114, 115, 116, 117, 118, 119, 120, 121] (by decide +kernel) (by decide +kernel)
set_option maxRecDepth 20000 in
theorem gX6_make_X6_hasNoBasin : GoodIn wsX6_make (wsV RX6 69 RX6 yX6_hasNoBasin wsX6_hasNoBasin) := goodIn_app (goodIn_of _ (by decide +kernel)) ggX6_make_X6_hasNoBasin
set_option maxRecDepth 20000 in
theorem ggX6_make_X6_refuse : GoodIn wsX6_make wsX6_refuse := goodIn_r _ [16, 17, 95, 96, 97, 98, 99, 100, 101, 102, 103, 104, 105, 106, 107] (by decide +kernel) (by decide +kernel)
set_option maxRecDepth 20000 in
theorem gX6_make_X6_refuse : GoodIn wsX6_make (wsV RX6 99 RX6 yX6_refuse wsX6_refuse) := goodIn_app (goodIn_of _ (by decide +kernel)) ggX6_make_X6_refuse
set_option maxRecDepth 20000 in
theorem ggX6_make_X0_dropAll : GoodIn wsX6_make wsX0_dropAll := goodIn_r _ [22, 23, 24, 109, 110, 111, 112, 113, 114, 115, 116, 117, 118, 119, 120, 121] (by decide +kernel) (by decide +kernel)
set_option maxRecDepth 20000 in
theorem gX6_make_X0_dropAll : GoodIn wsX6_make (wsV RX6 283 RX0 yX0_dropAll wsX0_dropAll) := goodIn_app (goodIn_of _ (by decide +kernel)) ggX6_make_X0_dropAll
set_option maxRecDepth 20000 in
theorem ggX6_make_X1_init : GoodIn wsX6_make wsX1_init := goodIn_r _ [27, 28, 29, 30, 31, 108] (by decide +kernel) (by decide +kernel)
set_option maxRecDepth 20000 in
theorem gX6_make_X1_init : GoodIn wsX6_make (wsX1_init) := ggX6_make_X1_init
set_option maxRecDepth 20000 in
theorem ggX6_make_X1_addsTo : GoodIn wsX6_make wsX1_addsTo := goodIn_r _ [35, 36, 37, 38, 39, 40, 4, 41, 42, 31, 43, 44, 45, 46, 21, 47, 48, 24, 49, 50, 51, 52, 53, 54, 55, 56, 57, 58, 59, 60, 61, 62, 63, 64, 65, 66, 67, 23, 68, 69, 70, 71, 72, 73, 74, 75, 76, 77, 78, 79, 80, 81, 82, 83, 109, 110, 111, 112, 113, 114, 115, 116, 117, 118, 119, 120, 121, 108] (by decide +kernel) (by decide +kernel)
set_option maxRecDepth 20000 in
theorem gX6_make_X1_addsTo : GoodIn wsX6_make (wsV RX6 290 RX1 yX1_addsTo wsX1_addsTo) := goodIn_app (goodIn_of _ (by decide +kernel)) ggX6_make_X1_addsTo
set_option maxRecDepth 20000 in
theorem ggX6_make_X3_forget : GoodIn wsX6_make wsX3_forget := goodIn_r _ [88, 89, 90, 122, 123, 124, 125] (by decide +kernel) (by decide +kernel)
set_option maxRecDepth 20000 in
theorem gX6_make_X3_forget : GoodIn wsX6_make (wsV RX6 144 RX3 yX3_forget wsX3_forget) := goodIn_app (goodIn_of _ (by decide +kernel)) ggX6_make_X3_forget
set_option maxRecDepth 20000 in
theorem ggX6_make_X6_answer : GoodIn wsX6_make wsX6_answer := goodIn_r _ [94, 17, 95, 96, 97, 98, 99, 100, 101, 102, 103, 104, 105, 106, 107] (by decide +kernel) (by decide +kernel)
set_option maxRecDepth 20000 in
theorem gX6_make_X6_answer : GoodIn wsX6_make (wsV RX6 106 RX6 yX6_answer wsX6_answer) := goodIn_app (goodIn_of _ (by decide +kernel)) ggX6_make_X6_answer
theorem dX6_make_0 : decode cX6_make 0 = .ok (.aload_n 0, 1) := by decide +kernel
theorem dX6_make_1 : decode cX6_make 1 = .ok (.invokevirtual 69, 3) := by decide +kernel
theorem dX6_make_4 : decode cX6_make 4 = .ok (.ifCond .eq 9, 3) := by decide +kernel
theorem dX6_make_7 : decode cX6_make 7 = .ok (.aload_n 0, 1) := by decide +kernel
theorem dX6_make_8 : decode cX6_make 8 = .ok (.iconst 1, 1) := by decide +kernel
theorem dX6_make_9 : decode cX6_make 9 = .ok (.invokevirtual 99, 3) := by decide +kernel
theorem dX6_make_12 : decode cX6_make 12 = .ok (.ireturn, 1) := by decide +kernel
theorem dX6_make_13 : decode cX6_make 13 = .ok (.iload_n 1, 1) := by decide +kernel
theorem dX6_make_14 : decode cX6_make 14 = .ok (.ifCond .lt 13, 3) := by decide +kernel
theorem dX6_make_17 : decode cX6_make 17 = .ok (.iload_n 2, 1) := by decide +kernel
theorem dX6_make_18 : decode cX6_make 18 = .ok (.ifCond .lt 9, 3) := by decide +kernel
theorem dX6_make_21 : decode cX6_make 21 = .ok (.iload_n 2, 1) := by decide +kernel
theorem dX6_make_22 : decode cX6_make 22 = .ok (.bipush 12, 2) := by decide +kernel
theorem dX6_make_24 : decode cX6_make 24 = .ok (.if_icmp .le 9, 3) := by decide +kernel
theorem dX6_make_27 : decode cX6_make 27 = .ok (.aload_n 0, 1) := by decide +kernel
theorem dX6_make_28 : decode cX6_make 28 = .ok (.iconst 2, 1) := by decide +kernel
theorem dX6_make_29 : decode cX6_make 29 = .ok (.invokevirtual 99, 3) := by decide +kernel
theorem dX6_make_32 : decode cX6_make 32 = .ok (.ireturn, 1) := by decide +kernel
theorem dX6_make_33 : decode cX6_make 33 = .ok (.aload_n 0, 1) := by decide +kernel
theorem dX6_make_34 : decode cX6_make 34 = .ok (.getfield 19, 3) := by decide +kernel
theorem dX6_make_37 : decode cX6_make 37 = .ok (.invokevirtual 283, 3) := by decide +kernel
theorem dX6_make_40 : decode cX6_make 40 = .ok (.new 286, 3) := by decide +kernel
theorem dX6_make_43 : decode cX6_make 43 = .ok (.dup, 1) := by decide +kernel
theorem dX6_make_44 : decode cX6_make 44 = .ok (.iload_n 1, 1) := by decide +kernel
theorem dX6_make_45 : decode cX6_make 45 = .ok (.invokespecial 288, 3) := by decide +kernel
theorem dX6_make_48 : decode cX6_make 48 = .ok (.astore_n 3, 1) := by decide +kernel
theorem dX6_make_49 : decode cX6_make 49 = .ok (.iconst 0, 1) := by decide +kernel
theorem dX6_make_50 : decode cX6_make 50 = .ok (.istore 4, 2) := by decide +kernel
theorem dX6_make_52 : decode cX6_make 52 = .ok (.iload 4, 2) := by decide +kernel
theorem dX6_make_54 : decode cX6_make 54 = .ok (.iload_n 2, 1) := by decide +kernel
theorem dX6_make_55 : decode cX6_make 55 = .ok (.if_icmp .ge 43, 3) := by decide +kernel
theorem dX6_make_58 : decode cX6_make 58 = .ok (.iconst 0, 1) := by decide +kernel
theorem dX6_make_59 : decode cX6_make 59 = .ok (.istore 5, 2) := by decide +kernel
theorem dX6_make_61 : decode cX6_make 61 = .ok (.iconst 0, 1) := by decide +kernel
theorem dX6_make_62 : decode cX6_make 62 = .ok (.istore 6, 2) := by decide +kernel
theorem dX6_make_64 : decode cX6_make 64 = .ok (.iload 6, 2) := by decide +kernel
theorem dX6_make_66 : decode cX6_make 66 = .ok (.bipush 20, 2) := by decide +kernel
theorem dX6_make_68 : decode cX6_make 68 = .ok (.if_icmp .ge 24, 3) := by decide +kernel
theorem dX6_make_71 : decode cX6_make 71 = .ok (.iload 5, 2) := by decide +kernel
theorem dX6_make_73 : decode cX6_make 73 = .ok (.ifCond .ne 19, 3) := by decide +kernel
theorem dX6_make_76 : decode cX6_make 76 = .ok (.aload_n 3, 1) := by decide +kernel
theorem dX6_make_77 : decode cX6_make 77 = .ok (.aload_n 0, 1) := by decide +kernel
theorem dX6_make_78 : decode cX6_make 78 = .ok (.getfield 19, 3) := by decide +kernel
theorem dX6_make_81 : decode cX6_make 81 = .ok (.invokevirtual 290, 3) := by decide +kernel
theorem dX6_make_84 : decode cX6_make 84 = .ok (.istore 5, 2) := by decide +kernel
theorem dX6_make_86 : decode cX6_make 86 = .ok (.iinc 6 1, 3) := by decide +kernel
theorem dX6_make_89 : decode cX6_make 89 = .ok (.goto (-25), 3) := by decide +kernel
theorem dX6_make_92 : decode cX6_make 92 = .ok (.iinc 4 1, 3) := by decide +kernel
theorem dX6_make_95 : decode cX6_make 95 = .ok (.goto (-43), 3) := by decide +kernel
theorem dX6_make_98 : decode cX6_make 98 = .ok (.aload_n 0, 1) := by decide +kernel
theorem dX6_make_99 : decode cX6_make 99 = .ok (.getfield 29, 3) := by decide +kernel
theorem dX6_make_102 : decode cX6_make 102 = .ok (.invokevirtual 144, 3) := by decide +kernel
theorem dX6_make_105 : decode cX6_make 105 = .ok (.aload_n 0, 1) := by decide +kernel
theorem dX6_make_106 : decode cX6_make 106 = .ok (.aload_n 0, 1) := by decide +kernel
theorem dX6_make_107 : decode cX6_make 107 = .ok (.getfield 19, 3) := by decide +kernel
theorem dX6_make_110 : decode cX6_make 110 = .ok (.getfield 137, 3) := by decide +kernel
theorem dX6_make_113 : decode cX6_make 113 = .ok (.invokevirtual 106, 3) := by decide +kernel
theorem dX6_make_116 : decode cX6_make 116 = .ok (.ireturn, 1) := by decide +kernel
set_option maxRecDepth 20000 in
theorem ggX6_trim_X6_faultOfSearch : GoodIn wsX6_trim wsX6_faultOfSearch := goodIn_r _ [13, 1, 14, 15, 16, 12, 17, 18, 19, 20, 21, 22, 23, 24, 25, 26, 27, 28, 29, 30, 31, 32, 33, 34, 35, 36, 37, 38, 39, 40, 41, 42, 43, 44, 45, 46, 47, 48, 49, 50, 51, 52, 53, 54, 55, 56, 57, 58, 59, 60, 61, 62, 63, 64, 65, 66, 67, 68, 69, 70, 71, 72, 73, 74, 75, 76, 77, 78, 79, 80, 81, 82, 83, 84, 85, 86, 87, 88, 89, 90, 91, 92, 93, 94, 95, 96, 97, 98, 99, 100, 101, 102, 103, 104, 105, 106, 107, 108, 109, 110, 111, 112, 113, 114, 115, 116, 117, 118, 119, 120, 121, 122, 123, 124, 125, 126, 127, 128, 129, 130, 131, 132, 133, 134, 135, 136, 137, 138, 139, 140, 141, 142, 143, 144, 145, 146, 147, 148, 149, 150, 151, 152, 153, 154, 155, 156, 157, 158, 159, 160, 161, 162, 163, 164, 165, 166, 167, 168, 169, 170, 171, 172, 173, 174, 175, 176, 177, 178, 179, 180, 181, 182, 183, 184, 185, 186, 187, 188, 189, 252, 253, 254, 255, 256, 257, 258, 259, 260, 261, 262, 263, 264, 265, 266, 267, 268, 269, 270, 271, 272, 273, 274, 275, 276, 277, 278, 279, 280, 281, 282, 283, 284, 285, 286, 287, 288, 289] (by decide +kernel) (by decide +kernel)
set_option maxRecDepth 20000 in
theorem gX6_trim_X6_faultOfSearch : GoodIn wsX6_trim (wsV RX6 227 RX6 yX6_faultOfSearch wsX6_faultOfSearch) := goodIn_app (goodIn_of _ (by decide +kernel)) ggX6_trim_X6_faultOfSearch
set_option maxRecDepth 20000 in
theorem ggX6_trim_X6_refuse : GoodIn wsX6_trim wsX6_refuse := goodIn_r _ [193, 194, 252, 253, 254, 255, 256, 257, 258, 259, 260, 261, 262, 263, 264] (by decide +kernel) (by decide +kernel)
set_option maxRecDepth 20000 in
theorem gX6_trim_X6_refuse : GoodIn wsX6_trim (wsV RX6 99 RX6 yX6_refuse wsX6_refuse) := goodIn_app (goodIn_of _ (by decide +kernel)) ggX6_trim_X6_refuse
set_option maxRecDepth 20000 in
theorem ggX6_trim_X6_searcher : GoodIn wsX6_trim wsX6_searcher := goodIn_r _ [22, 23, 24, 25, 26, 27, 28, 29, 30, 31, 32, 33, 34, 35, 36, 37, 38, 39, 40, 41, 42, 43, 44, 45, 46, 47, 48, 49, 50, 51, 52, 53, 54, 55, 56, 57, 252, 253, 254, 255, 256, 257, 258, 259, 260, 261, 262, 263, 264, 278, 279, 280, 281, 282, 283, 284, 285, 286, 287, 288, 289, 265, 266, 267, 268, 269, 270, 271, 272, 273, 274, 275, 276, 277] (by decide +kernel) (by decide +kernel)
set_option maxRecDepth 20000 in
theorem gX6_trim_X6_searcher : GoodIn wsX6_trim (wsV RX6 231 RX6 yX6_searcher wsX6_searcher) := goodIn_app (goodIn_of _ (by decide +kernel)) ggX6_trim_X6_searcher
set_option maxRecDepth 20000 in
theorem ggX6_trim_X5_farthest : GoodIn wsX6_trim wsX5_farthest := goodIn_r _ [180, 181, 182, 183, 26, 184, 62, 43, 185, 186, 187, 188, 278, 279, 280, 281, 282, 283, 284, 285, 286, 287, 288, 289] (by decide +kernel) (by decide +kernel)
set_option maxRecDepth 20000 in
theorem gX6_trim_X5_farthest : GoodIn wsX6_trim (wsV RX6 273 RX5 yX5_farthest wsX5_farthest) := goodIn_app (goodIn_of _ (by decide +kernel)) ggX6_trim_X5_farthest
set_option maxRecDepth 20000 in
theorem ggX6_trim_J13_bitCount_95d88 : GoodIn wsX6_trim wsJ13_bitCount_95d88 := goodIn_r _ [198, 199, 200, 201] (by decide +kernel) (by decide +kernel)
set_option maxRecDepth 20000 in
theorem gX6_trim_J13_bitCount_95d88 : GoodIn wsX6_trim (va_wsS RX6 174 yJ13_bitCount_95d88 wsJ13_bitCount_95d88) := goodIn_app (goodIn_of _ (by decide +kernel)) ggX6_trim_J13_bitCount_95d88
set_option maxRecDepth 20000 in
theorem ggX6_trim_X0_copyFrom : GoodIn wsX6_trim wsX0_copyFrom := goodIn_r _ [71, 72, 73, 74, 75, 76, 77, 78, 79, 34, 80, 49, 50, 51, 52, 54, 55, 56, 57, 265, 266, 267, 268, 269, 270, 271, 272, 273, 274, 275, 276, 277] (by decide +kernel) (by decide +kernel)
set_option maxRecDepth 20000 in
theorem gX6_trim_X0_copyFrom : GoodIn wsX6_trim (wsV RX6 293 RX0 yX0_copyFrom wsX0_copyFrom) := goodIn_app (goodIn_of _ (by decide +kernel)) ggX6_trim_X0_copyFrom
set_option maxRecDepth 20000 in
theorem ggX6_trim_X0_drop : GoodIn wsX6_trim wsX0_drop := goodIn_r _ [206, 76, 129, 74, 136, 118, 119, 34, 120, 57, 50, 77, 78, 79, 80, 49, 51, 52, 54, 55, 56, 265, 266, 267, 268, 269, 270, 271, 272, 273, 274, 275, 276, 277] (by decide +kernel) (by decide +kernel)
set_option maxRecDepth 20000 in
theorem gX6_trim_X0_drop : GoodIn wsX6_trim (wsV RX6 161 RX0 yX0_drop wsX0_drop) := goodIn_app (goodIn_of _ (by decide +kernel)) ggX6_trim_X0_drop
set_option maxRecDepth 20000 in
theorem ggX6_trim_X6_staysAsHard : GoodIn wsX6_trim wsX6_staysAsHard := goodIn_r _ [210, 4, 19, 20, 21, 12, 22, 23, 24, 25, 26, 27, 28, 29, 30, 31, 32, 33, 34, 35, 36, 37, 38, 39, 40, 41, 42, 43, 44, 45, 46, 47, 48, 49, 50, 51, 52, 53, 54, 55, 56, 57, 58, 59, 60, 61, 62, 63, 64, 65, 66, 67, 68, 69, 70, 71, 72, 73, 74, 75, 76, 77, 78, 79, 80, 81, 82, 83, 84, 85, 86, 87, 88, 89, 90, 91, 92, 93, 94, 95, 96, 97, 98, 99, 100, 101, 102, 103, 104, 105, 106, 107, 108, 109, 110, 111, 112, 113, 114, 115, 116, 117, 118, 119, 120, 121, 122, 123, 124, 125, 126, 127, 128, 129, 130, 131, 132, 133, 134, 135, 136, 137, 138, 139, 140, 141, 142, 143, 144, 145, 146, 147, 148, 149, 150, 151, 152, 153, 154, 155, 156, 157, 158, 159, 160, 161, 162, 163, 164, 165, 166, 167, 168, 169, 170, 171, 172, 173, 174, 175, 176, 177, 178, 179, 180, 181, 182, 183, 184, 185, 186, 187, 188, 252, 253, 254, 255, 256, 257, 258, 259, 260, 261, 262, 263, 264, 278, 279, 280, 281, 282, 283, 284, 285, 286, 287, 288, 289, 265, 266, 267, 268, 269, 270, 271, 272, 273, 274, 275, 276, 277] (by decide +kernel) (by decide +kernel)
set_option maxRecDepth 20000 in
theorem gX6_trim_X6_staysAsHard : GoodIn wsX6_trim (wsV RX6 297 RX6 yX6_staysAsHard wsX6_staysAsHard) := goodIn_app (goodIn_of _ (by decide +kernel)) ggX6_trim_X6_staysAsHard
set_option maxRecDepth 20000 in
theorem ggX6_trim_X2_showWalls : GoodIn wsX6_trim wsX2_showWalls := goodIn_r _ [215, 216, 217, 218, 219, 220, 214, 221, 222, 223, 224, 225, 226, 227, 228, 229, 230, 231, 232, 233, 234, 235, 236, 237, 238, 239, 34, 240, 75, 265, 266, 267, 268, 269, 270, 271, 272, 273, 274, 275, 276, 277, 290, 291, 292, 293] (by decide +kernel) (by decide +kernel)
set_option maxRecDepth 20000 in
theorem gX6_trim_X2_showWalls : GoodIn wsX6_trim (wsV RX6 302 RX2 yX2_showWalls wsX2_showWalls) := goodIn_app (goodIn_of _ (by decide +kernel)) ggX6_trim_X2_showWalls
set_option maxRecDepth 20000 in
theorem ggX6_trim_X3_forget : GoodIn wsX6_trim wsX3_forget := goodIn_r _ [245, 246, 247, 294, 295, 296, 297] (by decide +kernel) (by decide +kernel)
set_option maxRecDepth 20000 in
theorem gX6_trim_X3_forget : GoodIn wsX6_trim (wsV RX6 144 RX3 yX3_forget wsX3_forget) := goodIn_app (goodIn_of _ (by decide +kernel)) ggX6_trim_X3_forget
set_option maxRecDepth 20000 in
theorem ggX6_trim_X6_answer : GoodIn wsX6_trim wsX6_answer := goodIn_r _ [251, 194, 252, 253, 254, 255, 256, 257, 258, 259, 260, 261, 262, 263, 264] (by decide +kernel) (by decide +kernel)
set_option maxRecDepth 20000 in
theorem gX6_trim_X6_answer : GoodIn wsX6_trim (wsV RX6 106 RX6 yX6_answer wsX6_answer) := goodIn_app (goodIn_of _ (by decide +kernel)) ggX6_trim_X6_answer
theorem dX6_trim_0 : decode cX6_trim 0 = .ok (.aload_n 0, 1) := by decide +kernel
theorem dX6_trim_1 : decode cX6_trim 1 = .ok (.iconst 0, 1) := by decide +kernel
theorem dX6_trim_2 : decode cX6_trim 2 = .ok (.iconst 1, 1) := by decide +kernel
theorem dX6_trim_3 : decode cX6_trim 3 = .ok (.invokevirtual 227, 3) := by decide +kernel
theorem dX6_trim_6 : decode cX6_trim 6 = .ok (.istore_n 1, 1) := by decide +kernel
theorem dX6_trim_7 : decode cX6_trim 7 = .ok (.iload_n 1, 1) := by decide +kernel
theorem dX6_trim_8 : decode cX6_trim 8 = .ok (.ifCond .eq 9, 3) := by decide +kernel
theorem dX6_trim_11 : decode cX6_trim 11 = .ok (.aload_n 0, 1) := by decide +kernel
theorem dX6_trim_12 : decode cX6_trim 12 = .ok (.iload_n 1, 1) := by decide +kernel
theorem dX6_trim_13 : decode cX6_trim 13 = .ok (.invokevirtual 99, 3) := by decide +kernel
theorem dX6_trim_16 : decode cX6_trim 16 = .ok (.ireturn, 1) := by decide +kernel
theorem dX6_trim_17 : decode cX6_trim 17 = .ok (.aload_n 0, 1) := by decide +kernel
theorem dX6_trim_18 : decode cX6_trim 18 = .ok (.invokevirtual 231, 3) := by decide +kernel
theorem dX6_trim_21 : decode cX6_trim 21 = .ok (.invokevirtual 273, 3) := by decide +kernel
theorem dX6_trim_24 : decode cX6_trim 24 = .ok (.istore_n 2, 1) := by decide +kernel
theorem dX6_trim_25 : decode cX6_trim 25 = .ok (.aload_n 0, 1) := by decide +kernel
theorem dX6_trim_26 : decode cX6_trim 26 = .ok (.getfield 19, 3) := by decide +kernel
theorem dX6_trim_29 : decode cX6_trim 29 = .ok (.getfield 137, 3) := by decide +kernel
theorem dX6_trim_32 : decode cX6_trim 32 = .ok (.istore_n 3, 1) := by decide +kernel
theorem dX6_trim_33 : decode cX6_trim 33 = .ok (.aload_n 0, 1) := by decide +kernel
theorem dX6_trim_34 : decode cX6_trim 34 = .ok (.getfield 19, 3) := by decide +kernel
theorem dX6_trim_37 : decode cX6_trim 37 = .ok (.getfield 170, 3) := by decide +kernel
theorem dX6_trim_40 : decode cX6_trim 40 = .ok (.invokestatic 174, 3) := by decide +kernel
theorem dX6_trim_43 : decode cX6_trim 43 = .ok (.istore 4, 2) := by decide +kernel
theorem dX6_trim_45 : decode cX6_trim 45 = .ok (.iload_n 3, 1) := by decide +kernel
theorem dX6_trim_46 : decode cX6_trim 46 = .ok (.iconst 1, 1) := by decide +kernel
theorem dX6_trim_47 : decode cX6_trim 47 = .ok (.isub, 1) := by decide +kernel
theorem dX6_trim_48 : decode cX6_trim 48 = .ok (.istore 5, 2) := by decide +kernel
theorem dX6_trim_50 : decode cX6_trim 50 = .ok (.iload 5, 2) := by decide +kernel
theorem dX6_trim_52 : decode cX6_trim 52 = .ok (.ifCond .lt 60, 3) := by decide +kernel
theorem dX6_trim_55 : decode cX6_trim 55 = .ok (.aload_n 0, 1) := by decide +kernel
theorem dX6_trim_56 : decode cX6_trim 56 = .ok (.getfield 23, 3) := by decide +kernel
theorem dX6_trim_59 : decode cX6_trim 59 = .ok (.aload_n 0, 1) := by decide +kernel
theorem dX6_trim_60 : decode cX6_trim 60 = .ok (.getfield 19, 3) := by decide +kernel
theorem dX6_trim_63 : decode cX6_trim 63 = .ok (.invokevirtual 293, 3) := by decide +kernel
theorem dX6_trim_66 : decode cX6_trim 66 = .ok (.aload_n 0, 1) := by decide +kernel
theorem dX6_trim_67 : decode cX6_trim 67 = .ok (.getfield 23, 3) := by decide +kernel
theorem dX6_trim_70 : decode cX6_trim 70 = .ok (.iload 5, 2) := by decide +kernel
theorem dX6_trim_72 : decode cX6_trim 72 = .ok (.invokevirtual 161, 3) := by decide +kernel
theorem dX6_trim_75 : decode cX6_trim 75 = .ok (.aload_n 0, 1) := by decide +kernel
theorem dX6_trim_76 : decode cX6_trim 76 = .ok (.getfield 19, 3) := by decide +kernel
theorem dX6_trim_79 : decode cX6_trim 79 = .ok (.getfield 150, 3) := by decide +kernel
theorem dX6_trim_82 : decode cX6_trim 82 = .ok (.iload 5, 2) := by decide +kernel
theorem dX6_trim_84 : decode cX6_trim 84 = .ok (.iaload, 1) := by decide +kernel
theorem dX6_trim_85 : decode cX6_trim 85 = .ok (.iconst 5, 1) := by decide +kernel
theorem dX6_trim_86 : decode cX6_trim 86 = .ok (.if_icmp .eq 20, 3) := by decide +kernel
theorem dX6_trim_89 : decode cX6_trim 89 = .ok (.aload_n 0, 1) := by decide +kernel
theorem dX6_trim_90 : decode cX6_trim 90 = .ok (.iload_n 2, 1) := by decide +kernel
theorem dX6_trim_91 : decode cX6_trim 91 = .ok (.invokevirtual 297, 3) := by decide +kernel
theorem dX6_trim_94 : decode cX6_trim 94 = .ok (.ifCond .eq 12, 3) := by decide +kernel
theorem dX6_trim_97 : decode cX6_trim 97 = .ok (.aload_n 0, 1) := by decide +kernel
theorem dX6_trim_98 : decode cX6_trim 98 = .ok (.getfield 19, 3) := by decide +kernel
theorem dX6_trim_101 : decode cX6_trim 101 = .ok (.iload 5, 2) := by decide +kernel
theorem dX6_trim_103 : decode cX6_trim 103 = .ok (.invokevirtual 161, 3) := by decide +kernel
theorem dX6_trim_106 : decode cX6_trim 106 = .ok (.iinc 5 (-1), 3) := by decide +kernel
theorem dX6_trim_109 : decode cX6_trim 109 = .ok (.goto (-59), 3) := by decide +kernel
theorem dX6_trim_112 : decode cX6_trim 112 = .ok (.iconst 0, 1) := by decide +kernel
theorem dX6_trim_113 : decode cX6_trim 113 = .ok (.istore 5, 2) := by decide +kernel
theorem dX6_trim_115 : decode cX6_trim 115 = .ok (.iload 5, 2) := by decide +kernel
theorem dX6_trim_117 : decode cX6_trim 117 = .ok (.bipush 64, 2) := by decide +kernel
theorem dX6_trim_119 : decode cX6_trim 119 = .ok (.if_icmp .ge 80, 3) := by decide +kernel
theorem dX6_trim_122 : decode cX6_trim 122 = .ok (.aload_n 0, 1) := by decide +kernel
theorem dX6_trim_123 : decode cX6_trim 123 = .ok (.getfield 23, 3) := by decide +kernel
theorem dX6_trim_126 : decode cX6_trim 126 = .ok (.aload_n 0, 1) := by decide +kernel
theorem dX6_trim_127 : decode cX6_trim 127 = .ok (.getfield 19, 3) := by decide +kernel
theorem dX6_trim_130 : decode cX6_trim 130 = .ok (.invokevirtual 293, 3) := by decide +kernel
theorem dX6_trim_133 : decode cX6_trim 133 = .ok (.aload_n 0, 1) := by decide +kernel
theorem dX6_trim_134 : decode cX6_trim 134 = .ok (.getfield 23, 3) := by decide +kernel
theorem dX6_trim_137 : decode cX6_trim 137 = .ok (.dup, 1) := by decide +kernel
theorem dX6_trim_138 : decode cX6_trim 138 = .ok (.getfield 170, 3) := by decide +kernel
theorem dX6_trim_141 : decode cX6_trim 141 = .ok (.lconst 1, 1) := by decide +kernel
theorem dX6_trim_142 : decode cX6_trim 142 = .ok (.iload 5, 2) := by decide +kernel
theorem dX6_trim_144 : decode cX6_trim 144 = .ok (.lshl, 1) := by decide +kernel
theorem dX6_trim_145 : decode cX6_trim 145 = .ok (.ldc2_w 300, 3) := by decide +kernel
theorem dX6_trim_148 : decode cX6_trim 148 = .ok (.lxor, 1) := by decide +kernel
theorem dX6_trim_149 : decode cX6_trim 149 = .ok (.land, 1) := by decide +kernel
theorem dX6_trim_150 : decode cX6_trim 150 = .ok (.putfield 170, 3) := by decide +kernel
theorem dX6_trim_153 : decode cX6_trim 153 = .ok (.aload_n 0, 1) := by decide +kernel
theorem dX6_trim_154 : decode cX6_trim 154 = .ok (.getfield 23, 3) := by decide +kernel
theorem dX6_trim_157 : decode cX6_trim 157 = .ok (.getfield 170, 3) := by decide +kernel
theorem dX6_trim_160 : decode cX6_trim 160 = .ok (.aload_n 0, 1) := by decide +kernel
theorem dX6_trim_161 : decode cX6_trim 161 = .ok (.getfield 19, 3) := by decide +kernel
theorem dX6_trim_164 : decode cX6_trim 164 = .ok (.getfield 170, 3) := by decide +kernel
theorem dX6_trim_167 : decode cX6_trim 167 = .ok (.lcmp, 1) := by decide +kernel
theorem dX6_trim_168 : decode cX6_trim 168 = .ok (.ifCond .eq 25, 3) := by decide +kernel
theorem dX6_trim_171 : decode cX6_trim 171 = .ok (.aload_n 0, 1) := by decide +kernel
theorem dX6_trim_172 : decode cX6_trim 172 = .ok (.iload_n 2, 1) := by decide +kernel
theorem dX6_trim_173 : decode cX6_trim 173 = .ok (.invokevirtual 297, 3) := by decide +kernel
theorem dX6_trim_176 : decode cX6_trim 176 = .ok (.ifCond .eq 17, 3) := by decide +kernel
theorem dX6_trim_179 : decode cX6_trim 179 = .ok (.aload_n 0, 1) := by decide +kernel
theorem dX6_trim_180 : decode cX6_trim 180 = .ok (.getfield 19, 3) := by decide +kernel
theorem dX6_trim_183 : decode cX6_trim 183 = .ok (.aload_n 0, 1) := by decide +kernel
theorem dX6_trim_184 : decode cX6_trim 184 = .ok (.getfield 23, 3) := by decide +kernel
theorem dX6_trim_187 : decode cX6_trim 187 = .ok (.getfield 170, 3) := by decide +kernel
theorem dX6_trim_190 : decode cX6_trim 190 = .ok (.putfield 170, 3) := by decide +kernel
theorem dX6_trim_193 : decode cX6_trim 193 = .ok (.iinc 5 1, 3) := by decide +kernel
theorem dX6_trim_196 : decode cX6_trim 196 = .ok (.goto (-81), 3) := by decide +kernel
theorem dX6_trim_199 : decode cX6_trim 199 = .ok (.iload 4, 2) := by decide +kernel
theorem dX6_trim_201 : decode cX6_trim 201 = .ok (.aload_n 0, 1) := by decide +kernel
theorem dX6_trim_202 : decode cX6_trim 202 = .ok (.getfield 19, 3) := by decide +kernel
theorem dX6_trim_205 : decode cX6_trim 205 = .ok (.getfield 170, 3) := by decide +kernel
theorem dX6_trim_208 : decode cX6_trim 208 = .ok (.invokestatic 174, 3) := by decide +kernel
theorem dX6_trim_211 : decode cX6_trim 211 = .ok (.isub, 1) := by decide +kernel
theorem dX6_trim_212 : decode cX6_trim 212 = .ok (.istore 5, 2) := by decide +kernel
theorem dX6_trim_214 : decode cX6_trim 214 = .ok (.iload 5, 2) := by decide +kernel
theorem dX6_trim_216 : decode cX6_trim 216 = .ok (.ifCond .le 14, 3) := by decide +kernel
theorem dX6_trim_219 : decode cX6_trim 219 = .ok (.aload_n 0, 1) := by decide +kernel
theorem dX6_trim_220 : decode cX6_trim 220 = .ok (.getfield 10, 3) := by decide +kernel
theorem dX6_trim_223 : decode cX6_trim 223 = .ok (.aload_n 0, 1) := by decide +kernel
theorem dX6_trim_224 : decode cX6_trim 224 = .ok (.getfield 19, 3) := by decide +kernel
theorem dX6_trim_227 : decode cX6_trim 227 = .ok (.invokevirtual 302, 3) := by decide +kernel
theorem dX6_trim_230 : decode cX6_trim 230 = .ok (.aload_n 0, 1) := by decide +kernel
theorem dX6_trim_231 : decode cX6_trim 231 = .ok (.getfield 29, 3) := by decide +kernel
theorem dX6_trim_234 : decode cX6_trim 234 = .ok (.invokevirtual 144, 3) := by decide +kernel
theorem dX6_trim_237 : decode cX6_trim 237 = .ok (.aload_n 0, 1) := by decide +kernel
theorem dX6_trim_238 : decode cX6_trim 238 = .ok (.iload_n 3, 1) := by decide +kernel
theorem dX6_trim_239 : decode cX6_trim 239 = .ok (.aload_n 0, 1) := by decide +kernel
theorem dX6_trim_240 : decode cX6_trim 240 = .ok (.getfield 19, 3) := by decide +kernel
theorem dX6_trim_243 : decode cX6_trim 243 = .ok (.getfield 137, 3) := by decide +kernel
theorem dX6_trim_246 : decode cX6_trim 246 = .ok (.isub, 1) := by decide +kernel
theorem dX6_trim_247 : decode cX6_trim 247 = .ok (.iload 5, 2) := by decide +kernel
theorem dX6_trim_249 : decode cX6_trim 249 = .ok (.iadd, 1) := by decide +kernel
theorem dX6_trim_250 : decode cX6_trim 250 = .ok (.invokevirtual 106, 3) := by decide +kernel
theorem dX6_trim_253 : decode cX6_trim 253 = .ok (.ireturn, 1) := by decide +kernel
set_option maxRecDepth 20000 in
theorem ggX6_turn_X6_hasNoBasin : GoodIn wsX6_turn wsX6_hasNoBasin := goodIn_r _ [7, 1, 8, 109, 110, 111, 112, 113, 114, 115, 116, 117, 118, 119, 120, 121, 122, 123, 124, 125, 126, 127, 128, 129, 130, 131, 132, 133, 134] (by decide +kernel) (by decide +kernel)
set_option maxRecDepth 20000 in
theorem gX6_turn_X6_hasNoBasin : GoodIn wsX6_turn (wsV RX6 69 RX6 yX6_hasNoBasin wsX6_hasNoBasin) := goodIn_app (goodIn_of _ (by decide +kernel)) ggX6_turn_X6_hasNoBasin
set_option maxRecDepth 20000 in
theorem ggX6_turn_X6_deny : GoodIn wsX6_turn wsX6_deny := goodIn_r _ [12, 13, 109, 110, 111, 112, 113, 114, 115, 116, 117, 118, 119, 120, 121] (by decide +kernel) (by decide +kernel)
set_option maxRecDepth 20000 in
theorem gX6_turn_X6_deny : GoodIn wsX6_turn (wsV RX6 54 RX6 yX6_deny wsX6_deny) := goodIn_app (goodIn_of _ (by decide +kernel)) ggX6_turn_X6_deny
set_option maxRecDepth 20000 in
theorem ggX6_turn_X0_mirror : GoodIn wsX6_turn wsX0_mirror := goodIn_r _ [18, 19, 20, 21, 22, 23, 24, 25, 26, 27, 17, 28, 29, 30, 31, 32, 33, 34, 122, 123, 124, 125, 126, 127, 128, 129, 130, 131, 132, 133, 134] (by decide +kernel) (by decide +kernel)
set_option maxRecDepth 20000 in
theorem gX6_turn_X0_mirror : GoodIn wsX6_turn (wsV RX6 305 RX0 yX0_mirror wsX0_mirror) := goodIn_app (goodIn_of _ (by decide +kernel)) ggX6_turn_X0_mirror
set_option maxRecDepth 20000 in
theorem ggX6_turn_X0_quarter : GoodIn wsX6_turn wsX0_quarter := goodIn_r _ [38, 19, 20, 21, 22, 39, 24, 40, 41, 29, 42, 43, 44, 45, 17, 46, 47, 6, 48, 49, 50, 51, 52, 23, 53, 34, 54, 55, 56, 57, 58, 59, 60, 61, 62, 30, 31, 32, 33, 122, 123, 124, 125, 126, 127, 128, 129, 130, 131, 132, 133, 134] (by decide +kernel) (by decide +kernel)
set_option maxRecDepth 20000 in
theorem gX6_turn_X0_quarter : GoodIn wsX6_turn (wsV RX6 308 RX0 yX0_quarter wsX0_quarter) := goodIn_app (goodIn_of _ (by decide +kernel)) ggX6_turn_X0_quarter
set_option maxRecDepth 20000 in
theorem ggX6_turn_X2_showWalls : GoodIn wsX6_turn wsX2_showWalls := goodIn_r _ [67, 68, 69, 70, 71, 72, 66, 73, 74, 75, 76, 77, 78, 79, 80, 81, 82, 83, 84, 85, 86, 87, 88, 89, 90, 91, 17, 92, 19, 122, 123, 124, 125, 126, 127, 128, 129, 130, 131, 132, 133, 134, 135, 136, 137, 138] (by decide +kernel) (by decide +kernel)
set_option maxRecDepth 20000 in
theorem gX6_turn_X2_showWalls : GoodIn wsX6_turn (wsV RX6 302 RX2 yX2_showWalls wsX2_showWalls) := goodIn_app (goodIn_of _ (by decide +kernel)) ggX6_turn_X2_showWalls
set_option maxRecDepth 20000 in
theorem ggX6_turn_X6_changed : GoodIn wsX6_turn wsX6_changed := goodIn_r _ [96, 97, 98, 99, 100, 101, 102, 103, 104, 105, 106, 107, 6, 108, 13, 109, 110, 111, 112, 113, 114, 115, 116, 117, 118, 119, 120, 121, 139, 140, 141, 142] (by decide +kernel) (by decide +kernel)
set_option maxRecDepth 20000 in
theorem gX6_turn_X6_changed : GoodIn wsX6_turn (wsV RX6 65 RX6 yX6_changed wsX6_changed) := goodIn_app (goodIn_of _ (by decide +kernel)) ggX6_turn_X6_changed
theorem dX6_turn_0 : decode cX6_turn 0 = .ok (.aload_n 0, 1) := by decide +kernel
theorem dX6_turn_1 : decode cX6_turn 1 = .ok (.invokevirtual 69, 3) := by decide +kernel
theorem dX6_turn_4 : decode cX6_turn 4 = .ok (.ifCond .eq 9, 3) := by decide +kernel
theorem dX6_turn_7 : decode cX6_turn 7 = .ok (.aload_n 0, 1) := by decide +kernel
theorem dX6_turn_8 : decode cX6_turn 8 = .ok (.iconst 1, 1) := by decide +kernel
theorem dX6_turn_9 : decode cX6_turn 9 = .ok (.invokevirtual 54, 3) := by decide +kernel
theorem dX6_turn_12 : decode cX6_turn 12 = .ok (.ireturn, 1) := by decide +kernel
theorem dX6_turn_13 : decode cX6_turn 13 = .ok (.iload_n 1, 1) := by decide +kernel
theorem dX6_turn_14 : decode cX6_turn 14 = .ok (.ifCond .eq 13, 3) := by decide +kernel
theorem dX6_turn_17 : decode cX6_turn 17 = .ok (.aload_n 0, 1) := by decide +kernel
theorem dX6_turn_18 : decode cX6_turn 18 = .ok (.getfield 19, 3) := by decide +kernel
theorem dX6_turn_21 : decode cX6_turn 21 = .ok (.invokevirtual 305, 3) := by decide +kernel
theorem dX6_turn_24 : decode cX6_turn 24 = .ok (.goto 10, 3) := by decide +kernel
theorem dX6_turn_27 : decode cX6_turn 27 = .ok (.aload_n 0, 1) := by decide +kernel
theorem dX6_turn_28 : decode cX6_turn 28 = .ok (.getfield 19, 3) := by decide +kernel
theorem dX6_turn_31 : decode cX6_turn 31 = .ok (.invokevirtual 308, 3) := by decide +kernel
theorem dX6_turn_34 : decode cX6_turn 34 = .ok (.aload_n 0, 1) := by decide +kernel
theorem dX6_turn_35 : decode cX6_turn 35 = .ok (.getfield 10, 3) := by decide +kernel
theorem dX6_turn_38 : decode cX6_turn 38 = .ok (.aload_n 0, 1) := by decide +kernel
theorem dX6_turn_39 : decode cX6_turn 39 = .ok (.getfield 19, 3) := by decide +kernel
theorem dX6_turn_42 : decode cX6_turn 42 = .ok (.invokevirtual 302, 3) := by decide +kernel
theorem dX6_turn_45 : decode cX6_turn 45 = .ok (.aload_n 0, 1) := by decide +kernel
theorem dX6_turn_46 : decode cX6_turn 46 = .ok (.invokevirtual 65, 3) := by decide +kernel
theorem dX6_turn_49 : decode cX6_turn 49 = .ok (.ireturn, 1) := by decide +kernel
set_option maxRecDepth 20000 in
theorem ggX6_keep_X6_hasNoBasin : GoodIn wsX6_keep wsX6_hasNoBasin := goodIn_r _ [10, 5, 11, 50, 51, 52, 53, 54, 55, 56, 57, 58, 59, 60, 61, 62, 63, 64, 65, 66, 67, 68, 69, 70, 71, 72, 73, 74, 75] (by decide +kernel) (by decide +kernel)
set_option maxRecDepth 20000 in
theorem gX6_keep_X6_hasNoBasin : GoodIn wsX6_keep (wsV RX6 69 RX6 yX6_hasNoBasin wsX6_hasNoBasin) := goodIn_app (goodIn_of _ (by decide +kernel)) ggX6_keep_X6_hasNoBasin
set_option maxRecDepth 20000 in
theorem ggX6_keep_X6_deny : GoodIn wsX6_keep wsX6_deny := goodIn_r _ [15, 16, 50, 51, 52, 53, 54, 55, 56, 57, 58, 59, 60, 61, 62] (by decide +kernel) (by decide +kernel)
set_option maxRecDepth 20000 in
theorem gX6_keep_X6_deny : GoodIn wsX6_keep (wsV RX6 54 RX6 yX6_deny wsX6_deny) := goodIn_app (goodIn_of _ (by decide +kernel)) ggX6_keep_X6_deny
set_option maxRecDepth 20000 in
theorem ggX6_keep_X0_init : GoodIn wsX6_keep wsX0_init := goodIn_r _ [18, 19, 20, 21, 22, 23, 24, 25, 26, 27, 28, 29, 30, 31, 32, 63, 64, 65, 66, 67, 68, 69, 70, 71, 72, 73, 74, 75] (by decide +kernel) (by decide +kernel)
set_option maxRecDepth 20000 in
theorem gX6_keep_X0_init_n18 : GoodIn wsX6_keep (wsX0_init) := ggX6_keep_X0_init
set_option maxRecDepth 20000 in
theorem ggX6_keep_X0_copyFrom : GoodIn wsX6_keep wsX0_copyFrom := goodIn_r _ [36, 37, 38, 39, 40, 41, 42, 43, 44, 4, 45, 23, 24, 25, 26, 28, 29, 30, 32, 63, 64, 65, 66, 67, 68, 69, 70, 71, 72, 73, 74, 75] (by decide +kernel) (by decide +kernel)
set_option maxRecDepth 20000 in
theorem gX6_keep_X0_copyFrom : GoodIn wsX6_keep (wsV RX6 293 RX0 yX0_copyFrom wsX0_copyFrom) := goodIn_app (goodIn_of _ (by decide +kernel)) ggX6_keep_X0_copyFrom
set_option maxRecDepth 20000 in
theorem ggX6_keep_X6_grant : GoodIn wsX6_keep wsX6_grant := goodIn_r _ [49, 16, 50, 51, 52, 53, 54, 55, 56, 57, 58, 59, 60, 61, 62] (by decide +kernel) (by decide +kernel)
set_option maxRecDepth 20000 in
theorem gX6_keep_X6_grant : GoodIn wsX6_keep (wsV RX6 205 RX6 yX6_grant wsX6_grant) := goodIn_app (goodIn_of _ (by decide +kernel)) ggX6_keep_X6_grant
theorem dX6_keep_0 : decode cX6_keep 0 = .ok (.aload_n 0, 1) := by decide +kernel
theorem dX6_keep_1 : decode cX6_keep 1 = .ok (.invokevirtual 69, 3) := by decide +kernel
theorem dX6_keep_4 : decode cX6_keep 4 = .ok (.ifCond .eq 9, 3) := by decide +kernel
theorem dX6_keep_7 : decode cX6_keep 7 = .ok (.aload_n 0, 1) := by decide +kernel
theorem dX6_keep_8 : decode cX6_keep 8 = .ok (.iconst 1, 1) := by decide +kernel
theorem dX6_keep_9 : decode cX6_keep 9 = .ok (.invokevirtual 54, 3) := by decide +kernel
theorem dX6_keep_12 : decode cX6_keep 12 = .ok (.ireturn, 1) := by decide +kernel
theorem dX6_keep_13 : decode cX6_keep 13 = .ok (.iload_n 1, 1) := by decide +kernel
theorem dX6_keep_14 : decode cX6_keep 14 = .ok (.ifCond .lt 8, 3) := by decide +kernel
theorem dX6_keep_17 : decode cX6_keep 17 = .ok (.iload_n 1, 1) := by decide +kernel
theorem dX6_keep_18 : decode cX6_keep 18 = .ok (.iconst 4, 1) := by decide +kernel
theorem dX6_keep_19 : decode cX6_keep 19 = .ok (.if_icmp .lt 9, 3) := by decide +kernel
theorem dX6_keep_22 : decode cX6_keep 22 = .ok (.aload_n 0, 1) := by decide +kernel
theorem dX6_keep_23 : decode cX6_keep 23 = .ok (.iconst 2, 1) := by decide +kernel
theorem dX6_keep_24 : decode cX6_keep 24 = .ok (.invokevirtual 54, 3) := by decide +kernel
theorem dX6_keep_27 : decode cX6_keep 27 = .ok (.ireturn, 1) := by decide +kernel
theorem dX6_keep_28 : decode cX6_keep 28 = .ok (.aload_n 0, 1) := by decide +kernel
theorem dX6_keep_29 : decode cX6_keep 29 = .ok (.getfield 33, 3) := by decide +kernel
theorem dX6_keep_32 : decode cX6_keep 32 = .ok (.iload_n 1, 1) := by decide +kernel
theorem dX6_keep_33 : decode cX6_keep 33 = .ok (.aaload, 1) := by decide +kernel
theorem dX6_keep_34 : decode cX6_keep 34 = .ok (.ifnonnull 16, 3) := by decide +kernel
theorem dX6_keep_37 : decode cX6_keep 37 = .ok (.aload_n 0, 1) := by decide +kernel
theorem dX6_keep_38 : decode cX6_keep 38 = .ok (.getfield 33, 3) := by decide +kernel
theorem dX6_keep_41 : decode cX6_keep 41 = .ok (.iload_n 1, 1) := by decide +kernel
theorem dX6_keep_42 : decode cX6_keep 42 = .ok (.new 16, 3) := by decide +kernel
theorem dX6_keep_45 : decode cX6_keep 45 = .ok (.dup, 1) := by decide +kernel
theorem dX6_keep_46 : decode cX6_keep 46 = .ok (.invokespecial 18, 3) := by decide +kernel
theorem dX6_keep_49 : decode cX6_keep 49 = .ok (.aastore, 1) := by decide +kernel
theorem dX6_keep_50 : decode cX6_keep 50 = .ok (.aload_n 0, 1) := by decide +kernel
theorem dX6_keep_51 : decode cX6_keep 51 = .ok (.getfield 33, 3) := by decide +kernel
theorem dX6_keep_54 : decode cX6_keep 54 = .ok (.iload_n 1, 1) := by decide +kernel
theorem dX6_keep_55 : decode cX6_keep 55 = .ok (.aaload, 1) := by decide +kernel
theorem dX6_keep_56 : decode cX6_keep 56 = .ok (.aload_n 0, 1) := by decide +kernel
theorem dX6_keep_57 : decode cX6_keep 57 = .ok (.getfield 19, 3) := by decide +kernel
theorem dX6_keep_60 : decode cX6_keep 60 = .ok (.invokevirtual 293, 3) := by decide +kernel
theorem dX6_keep_63 : decode cX6_keep 63 = .ok (.aload_n 0, 1) := by decide +kernel
theorem dX6_keep_64 : decode cX6_keep 64 = .ok (.invokevirtual 205, 3) := by decide +kernel
theorem dX6_keep_67 : decode cX6_keep 67 = .ok (.ireturn, 1) := by decide +kernel
set_option maxRecDepth 20000 in
theorem ggX6_same_X6_hasNoBasin : GoodIn wsX6_same wsX6_hasNoBasin := goodIn_r _ [8, 2, 9, 93, 94, 95, 96, 97, 98, 99, 100, 101, 102, 103, 104, 105, 106, 107, 108, 109, 110, 111, 112, 113, 114, 115, 116, 117, 118] (by decide +kernel) (by decide +kernel)
set_option maxRecDepth 20000 in
theorem gX6_same_X6_hasNoBasin : GoodIn wsX6_same (wsV RX6 69 RX6 yX6_hasNoBasin wsX6_hasNoBasin) := goodIn_app (goodIn_of _ (by decide +kernel)) ggX6_same_X6_hasNoBasin
set_option maxRecDepth 20000 in
theorem ggX6_same_X6_refuse : GoodIn wsX6_same wsX6_refuse := goodIn_r _ [13, 14, 93, 94, 95, 96, 97, 98, 99, 100, 101, 102, 103, 104, 105] (by decide +kernel) (by decide +kernel)
set_option maxRecDepth 20000 in
theorem gX6_same_X6_refuse : GoodIn wsX6_same (wsV RX6 99 RX6 yX6_refuse wsX6_refuse) := goodIn_app (goodIn_of _ (by decide +kernel)) ggX6_same_X6_refuse
set_option maxRecDepth 20000 in
theorem ggX6_same_X0_isSame : GoodIn wsX6_same wsX0_isSame := goodIn_r _ [19, 20, 21, 22, 23, 24, 25, 26, 27, 28, 18, 29, 30, 31, 32, 33, 34, 35, 36, 37, 38, 39, 40, 41, 42, 106, 107, 108, 109, 110, 111, 112, 113, 114, 115, 116, 117, 118] (by decide +kernel) (by decide +kernel)
set_option maxRecDepth 20000 in
theorem gX6_same_X0_isSame : GoodIn wsX6_same (wsV RX6 311 RX0 yX0_isSame wsX0_isSame) := goodIn_app (goodIn_of _ (by decide +kernel)) ggX6_same_X0_isSame
set_option maxRecDepth 20000 in
theorem ggX6_same_X6_answer : GoodIn wsX6_same wsX6_answer := goodIn_r _ [46, 14, 93, 94, 95, 96, 97, 98, 99, 100, 101, 102, 103, 104, 105] (by decide +kernel) (by decide +kernel)
set_option maxRecDepth 20000 in
theorem gX6_same_X6_answer : GoodIn wsX6_same (wsV RX6 106 RX6 yX6_answer wsX6_answer) := goodIn_app (goodIn_of _ (by decide +kernel)) ggX6_same_X6_answer
set_option maxRecDepth 20000 in
theorem ggX6_same_X0_copyFrom : GoodIn wsX6_same wsX0_copyFrom := goodIn_r _ [50, 20, 21, 24, 22, 23, 51, 52, 53, 18, 54, 39, 25, 40, 42, 41, 55, 56, 34, 106, 107, 108, 109, 110, 111, 112, 113, 114, 115, 116, 117, 118] (by decide +kernel) (by decide +kernel)
set_option maxRecDepth 20000 in
theorem gX6_same_X0_copyFrom : GoodIn wsX6_same (wsV RX6 293 RX0 yX0_copyFrom wsX0_copyFrom) := goodIn_app (goodIn_of _ (by decide +kernel)) ggX6_same_X0_copyFrom
set_option maxRecDepth 20000 in
theorem ggX6_same_X0_isSameTurned : GoodIn wsX6_same wsX0_isSameTurned := goodIn_r _ [60, 61, 62, 63, 18, 64, 22, 23, 24, 25, 56, 42, 41, 39, 20, 21, 65, 66, 67, 68, 69, 7, 70, 71, 72, 73, 74, 55, 40, 34, 75, 76, 77, 78, 79, 80, 81, 82, 83, 30, 31, 32, 33, 84, 16, 17, 19, 26, 27, 28, 29, 35, 36, 37, 38, 85, 86, 87, 88, 89, 90, 91, 92, 106, 107, 108, 109, 110, 111, 112, 113, 114, 115, 116, 117, 118] (by decide +kernel) (by decide +kernel)
set_option maxRecDepth 20000 in
theorem gX6_same_X0_isSameTurned : GoodIn wsX6_same (wsV RX6 314 RX0 yX0_isSameTurned wsX0_isSameTurned) := goodIn_app (goodIn_of _ (by decide +kernel)) ggX6_same_X0_isSameTurned
theorem dX6_same_0 : decode cX6_same 0 = .ok (.aload_n 0, 1) := by decide +kernel
theorem dX6_same_1 : decode cX6_same 1 = .ok (.invokevirtual 69, 3) := by decide +kernel
theorem dX6_same_4 : decode cX6_same 4 = .ok (.ifCond .eq 9, 3) := by decide +kernel
theorem dX6_same_7 : decode cX6_same 7 = .ok (.aload_n 0, 1) := by decide +kernel
theorem dX6_same_8 : decode cX6_same 8 = .ok (.iconst 1, 1) := by decide +kernel
theorem dX6_same_9 : decode cX6_same 9 = .ok (.invokevirtual 99, 3) := by decide +kernel
theorem dX6_same_12 : decode cX6_same 12 = .ok (.ireturn, 1) := by decide +kernel
theorem dX6_same_13 : decode cX6_same 13 = .ok (.iload_n 1, 1) := by decide +kernel
theorem dX6_same_14 : decode cX6_same 14 = .ok (.ifCond .lt 8, 3) := by decide +kernel
theorem dX6_same_17 : decode cX6_same 17 = .ok (.iload_n 1, 1) := by decide +kernel
theorem dX6_same_18 : decode cX6_same 18 = .ok (.iconst 4, 1) := by decide +kernel
theorem dX6_same_19 : decode cX6_same 19 = .ok (.if_icmp .lt 9, 3) := by decide +kernel
theorem dX6_same_22 : decode cX6_same 22 = .ok (.aload_n 0, 1) := by decide +kernel
theorem dX6_same_23 : decode cX6_same 23 = .ok (.iconst 2, 1) := by decide +kernel
theorem dX6_same_24 : decode cX6_same 24 = .ok (.invokevirtual 99, 3) := by decide +kernel
theorem dX6_same_27 : decode cX6_same 27 = .ok (.ireturn, 1) := by decide +kernel
theorem dX6_same_28 : decode cX6_same 28 = .ok (.aload_n 0, 1) := by decide +kernel
theorem dX6_same_29 : decode cX6_same 29 = .ok (.getfield 33, 3) := by decide +kernel
theorem dX6_same_32 : decode cX6_same 32 = .ok (.iload_n 1, 1) := by decide +kernel
theorem dX6_same_33 : decode cX6_same 33 = .ok (.aaload, 1) := by decide +kernel
theorem dX6_same_34 : decode cX6_same 34 = .ok (.astore_n 2, 1) := by decide +kernel
theorem dX6_same_35 : decode cX6_same 35 = .ok (.aload_n 2, 1) := by decide +kernel
theorem dX6_same_36 : decode cX6_same 36 = .ok (.ifnonnull 10, 3) := by decide +kernel
theorem dX6_same_39 : decode cX6_same 39 = .ok (.aload_n 0, 1) := by decide +kernel
theorem dX6_same_40 : decode cX6_same 40 = .ok (.bipush 11, 2) := by decide +kernel
theorem dX6_same_42 : decode cX6_same 42 = .ok (.invokevirtual 99, 3) := by decide +kernel
theorem dX6_same_45 : decode cX6_same 45 = .ok (.ireturn, 1) := by decide +kernel
theorem dX6_same_46 : decode cX6_same 46 = .ok (.aload_n 2, 1) := by decide +kernel
theorem dX6_same_47 : decode cX6_same 47 = .ok (.aload_n 0, 1) := by decide +kernel
theorem dX6_same_48 : decode cX6_same 48 = .ok (.getfield 19, 3) := by decide +kernel
theorem dX6_same_51 : decode cX6_same 51 = .ok (.invokevirtual 311, 3) := by decide +kernel
theorem dX6_same_54 : decode cX6_same 54 = .ok (.ifCond .eq 9, 3) := by decide +kernel
theorem dX6_same_57 : decode cX6_same 57 = .ok (.aload_n 0, 1) := by decide +kernel
theorem dX6_same_58 : decode cX6_same 58 = .ok (.iconst 1, 1) := by decide +kernel
theorem dX6_same_59 : decode cX6_same 59 = .ok (.invokevirtual 106, 3) := by decide +kernel
theorem dX6_same_62 : decode cX6_same 62 = .ok (.ireturn, 1) := by decide +kernel
theorem dX6_same_63 : decode cX6_same 63 = .ok (.aload_n 0, 1) := by decide +kernel
theorem dX6_same_64 : decode cX6_same 64 = .ok (.getfield 23, 3) := by decide +kernel
theorem dX6_same_67 : decode cX6_same 67 = .ok (.aload_n 2, 1) := by decide +kernel
theorem dX6_same_68 : decode cX6_same 68 = .ok (.invokevirtual 293, 3) := by decide +kernel
theorem dX6_same_71 : decode cX6_same 71 = .ok (.aload_n 0, 1) := by decide +kernel
theorem dX6_same_72 : decode cX6_same 72 = .ok (.aload_n 0, 1) := by decide +kernel
theorem dX6_same_73 : decode cX6_same 73 = .ok (.getfield 23, 3) := by decide +kernel
theorem dX6_same_76 : decode cX6_same 76 = .ok (.aload_n 0, 1) := by decide +kernel
theorem dX6_same_77 : decode cX6_same 77 = .ok (.getfield 19, 3) := by decide +kernel
theorem dX6_same_80 : decode cX6_same 80 = .ok (.invokevirtual 314, 3) := by decide +kernel
theorem dX6_same_83 : decode cX6_same 83 = .ok (.ifCond .eq 7, 3) := by decide +kernel
theorem dX6_same_86 : decode cX6_same 86 = .ok (.iconst 2, 1) := by decide +kernel
theorem dX6_same_87 : decode cX6_same 87 = .ok (.goto 4, 3) := by decide +kernel
theorem dX6_same_90 : decode cX6_same 90 = .ok (.iconst 0, 1) := by decide +kernel
theorem dX6_same_91 : decode cX6_same 91 = .ok (.invokevirtual 106, 3) := by decide +kernel
theorem dX6_same_94 : decode cX6_same 94 = .ok (.ireturn, 1) := by decide +kernel
set_option maxRecDepth 20000 in
theorem ggX6_show_X6_hasNoBasin : GoodIn wsX6_show wsX6_hasNoBasin := goodIn_r _ [9, 1, 2, 50, 51, 52, 53, 54, 55, 56, 57, 58, 59, 60, 61, 62, 63, 64, 65, 66, 67, 68, 69, 70, 71, 72, 73, 74, 75] (by decide +kernel) (by decide +kernel)
set_option maxRecDepth 20000 in
theorem gX6_show_X6_hasNoBasin : GoodIn wsX6_show (wsV RX6 69 RX6 yX6_hasNoBasin wsX6_hasNoBasin) := goodIn_app (goodIn_of _ (by decide +kernel)) ggX6_show_X6_hasNoBasin
set_option maxRecDepth 20000 in
theorem ggX6_show_X6_refuse : GoodIn wsX6_show wsX6_refuse := goodIn_r _ [13, 14, 50, 51, 52, 53, 54, 55, 56, 57, 58, 59, 60, 61, 62] (by decide +kernel) (by decide +kernel)
set_option maxRecDepth 20000 in
theorem gX6_show_X6_refuse : GoodIn wsX6_show (wsV RX6 99 RX6 yX6_refuse wsX6_refuse) := goodIn_app (goodIn_of _ (by decide +kernel)) ggX6_show_X6_refuse
set_option maxRecDepth 20000 in
theorem ggX6_show_X6_isNoLine : GoodIn wsX6_show wsX6_isNoLine := goodIn_r _ [18, 1, 19, 50, 51, 52, 53, 54, 55, 56, 57, 58, 59, 60, 61, 62, 63, 64, 65, 66, 67, 68, 69, 70, 71, 72, 73, 74, 75] (by decide +kernel) (by decide +kernel)
set_option maxRecDepth 20000 in
theorem gX6_show_X6_isNoLine : GoodIn wsX6_show (wsV RX6 72 RX6 yX6_isNoLine wsX6_isNoLine) := goodIn_app (goodIn_of _ (by decide +kernel)) ggX6_show_X6_isNoLine
set_option maxRecDepth 20000 in
theorem ggX6_show_X0_letterAt : GoodIn wsX6_show wsX0_letterAt := goodIn_r _ [24, 25, 26, 27, 28, 23, 29, 30, 31, 32, 33, 34, 35, 36, 37, 38, 39, 40, 41, 42, 43, 44, 45, 63, 64, 65, 66, 67, 68, 69, 70, 71, 72, 73, 74, 75] (by decide +kernel) (by decide +kernel)
set_option maxRecDepth 20000 in
theorem gX6_show_X0_letterAt : GoodIn wsX6_show (wsV RX6 317 RX0 yX0_letterAt wsX0_letterAt) := goodIn_app (goodIn_of _ (by decide +kernel)) ggX6_show_X0_letterAt
set_option maxRecDepth 20000 in
theorem ggX6_show_X6_answer : GoodIn wsX6_show wsX6_answer := goodIn_r _ [49, 14, 50, 51, 52, 53, 54, 55, 56, 57, 58, 59, 60, 61, 62] (by decide +kernel) (by decide +kernel)
set_option maxRecDepth 20000 in
theorem gX6_show_X6_answer : GoodIn wsX6_show (wsV RX6 106 RX6 yX6_answer wsX6_answer) := goodIn_app (goodIn_of _ (by decide +kernel)) ggX6_show_X6_answer
theorem dX6_show_0 : decode cX6_show 0 = .ok (.aload_n 0, 1) := by decide +kernel
theorem dX6_show_1 : decode cX6_show 1 = .ok (.invokevirtual 69, 3) := by decide +kernel
theorem dX6_show_4 : decode cX6_show 4 = .ok (.ifCond .eq 9, 3) := by decide +kernel
theorem dX6_show_7 : decode cX6_show 7 = .ok (.aload_n 0, 1) := by decide +kernel
theorem dX6_show_8 : decode cX6_show 8 = .ok (.iconst 1, 1) := by decide +kernel
theorem dX6_show_9 : decode cX6_show 9 = .ok (.invokevirtual 99, 3) := by decide +kernel
theorem dX6_show_12 : decode cX6_show 12 = .ok (.ireturn, 1) := by decide +kernel
theorem dX6_show_13 : decode cX6_show 13 = .ok (.aload_n 0, 1) := by decide +kernel
theorem dX6_show_14 : decode cX6_show 14 = .ok (.iload_n 1, 1) := by decide +kernel
theorem dX6_show_15 : decode cX6_show 15 = .ok (.invokevirtual 72, 3) := by decide +kernel
theorem dX6_show_18 : decode cX6_show 18 = .ok (.ifCond .eq 9, 3) := by decide +kernel
theorem dX6_show_21 : decode cX6_show 21 = .ok (.aload_n 0, 1) := by decide +kernel
theorem dX6_show_22 : decode cX6_show 22 = .ok (.iconst 2, 1) := by decide +kernel
theorem dX6_show_23 : decode cX6_show 23 = .ok (.invokevirtual 99, 3) := by decide +kernel
theorem dX6_show_26 : decode cX6_show 26 = .ok (.ireturn, 1) := by decide +kernel
theorem dX6_show_27 : decode cX6_show 27 = .ok (.iconst 0, 1) := by decide +kernel
theorem dX6_show_28 : decode cX6_show 28 = .ok (.istore_n 2, 1) := by decide +kernel
theorem dX6_show_29 : decode cX6_show 29 = .ok (.iload_n 2, 1) := by decide +kernel
theorem dX6_show_30 : decode cX6_show 30 = .ok (.aload_n 0, 1) := by decide +kernel
theorem dX6_show_31 : decode cX6_show 31 = .ok (.getfield 19, 3) := by decide +kernel
theorem dX6_show_34 : decode cX6_show 34 = .ok (.getfield 75, 3) := by decide +kernel
theorem dX6_show_37 : decode cX6_show 37 = .ok (.if_icmp .ge 25, 3) := by decide +kernel
theorem dX6_show_40 : decode cX6_show 40 = .ok (.aload_n 0, 1) := by decide +kernel
theorem dX6_show_41 : decode cX6_show 41 = .ok (.getfield 37, 3) := by decide +kernel
theorem dX6_show_44 : decode cX6_show 44 = .ok (.iload_n 2, 1) := by decide +kernel
theorem dX6_show_45 : decode cX6_show 45 = .ok (.aload_n 0, 1) := by decide +kernel
theorem dX6_show_46 : decode cX6_show 46 = .ok (.getfield 19, 3) := by decide +kernel
theorem dX6_show_49 : decode cX6_show 49 = .ok (.iload_n 2, 1) := by decide +kernel
theorem dX6_show_50 : decode cX6_show 50 = .ok (.iload_n 1, 1) := by decide +kernel
theorem dX6_show_51 : decode cX6_show 51 = .ok (.invokevirtual 317, 3) := by decide +kernel
theorem dX6_show_54 : decode cX6_show 54 = .ok (.i2b, 1) := by decide +kernel
theorem dX6_show_55 : decode cX6_show 55 = .ok (.bastore, 1) := by decide +kernel
theorem dX6_show_56 : decode cX6_show 56 = .ok (.iinc 2 1, 3) := by decide +kernel
theorem dX6_show_59 : decode cX6_show 59 = .ok (.goto (-30), 3) := by decide +kernel
theorem dX6_show_62 : decode cX6_show 62 = .ok (.aload_n 0, 1) := by decide +kernel
theorem dX6_show_63 : decode cX6_show 63 = .ok (.aload_n 0, 1) := by decide +kernel
theorem dX6_show_64 : decode cX6_show 64 = .ok (.getfield 19, 3) := by decide +kernel
theorem dX6_show_67 : decode cX6_show 67 = .ok (.getfield 75, 3) := by decide +kernel
theorem dX6_show_70 : decode cX6_show 70 = .ok (.putfield 320, 3) := by decide +kernel
theorem dX6_show_73 : decode cX6_show 73 = .ok (.aload_n 0, 1) := by decide +kernel
theorem dX6_show_74 : decode cX6_show 74 = .ok (.aload_n 0, 1) := by decide +kernel
theorem dX6_show_75 : decode cX6_show 75 = .ok (.getfield 320, 3) := by decide +kernel
theorem dX6_show_78 : decode cX6_show 78 = .ok (.invokevirtual 106, 3) := by decide +kernel
theorem dX6_show_81 : decode cX6_show 81 = .ok (.ireturn, 1) := by decide +kernel
theorem dX6_out_0 : decode cX6_out 0 = .ok (.iload_n 1, 1) := by decide +kernel
theorem dX6_out_1 : decode cX6_out 1 = .ok (.ifCond .lt 11, 3) := by decide +kernel
theorem dX6_out_4 : decode cX6_out 4 = .ok (.iload_n 1, 1) := by decide +kernel
theorem dX6_out_5 : decode cX6_out 5 = .ok (.aload_n 0, 1) := by decide +kernel
theorem dX6_out_6 : decode cX6_out 6 = .ok (.getfield 320, 3) := by decide +kernel
theorem dX6_out_9 : decode cX6_out 9 = .ok (.if_icmp .lt 11, 3) := by decide +kernel
theorem dX6_out_12 : decode cX6_out 12 = .ok (.new 323, 3) := by decide +kernel
theorem dX6_out_15 : decode cX6_out 15 = .ok (.dup, 1) := by decide +kernel
theorem dX6_out_16 : decode cX6_out 16 = .ok (.invokespecial 325, 3) := by decide +kernel
theorem dX6_out_19 : decode cX6_out 19 = .ok (.athrow, 1) := by decide +kernel
theorem dX6_out_20 : decode cX6_out 20 = .ok (.aload_n 0, 1) := by decide +kernel
theorem dX6_out_21 : decode cX6_out 21 = .ok (.getfield 37, 3) := by decide +kernel
theorem dX6_out_24 : decode cX6_out 24 = .ok (.iload_n 1, 1) := by decide +kernel
theorem dX6_out_25 : decode cX6_out 25 = .ok (.baload, 1) := by decide +kernel
theorem dX6_out_26 : decode cX6_out 26 = .ok (.ireturn, 1) := by decide +kernel
theorem dX6_answer_0 : decode cX6_answer 0 = .ok (.aload_n 0, 1) := by decide +kernel
theorem dX6_answer_1 : decode cX6_answer 1 = .ok (.iconst 0, 1) := by decide +kernel
theorem dX6_answer_2 : decode cX6_answer 2 = .ok (.putfield 51, 3) := by decide +kernel
theorem dX6_answer_5 : decode cX6_answer 5 = .ok (.iload_n 1, 1) := by decide +kernel
theorem dX6_answer_6 : decode cX6_answer 6 = .ok (.ireturn, 1) := by decide +kernel
theorem dX6_refuse_0 : decode cX6_refuse 0 = .ok (.aload_n 0, 1) := by decide +kernel
theorem dX6_refuse_1 : decode cX6_refuse 1 = .ok (.iload_n 1, 1) := by decide +kernel
theorem dX6_refuse_2 : decode cX6_refuse 2 = .ok (.putfield 51, 3) := by decide +kernel
theorem dX6_refuse_5 : decode cX6_refuse 5 = .ok (.iconst (-1), 1) := by decide +kernel
theorem dX6_refuse_6 : decode cX6_refuse 6 = .ok (.ireturn, 1) := by decide +kernel
theorem dX6_grant_0 : decode cX6_grant 0 = .ok (.aload_n 0, 1) := by decide +kernel
theorem dX6_grant_1 : decode cX6_grant 1 = .ok (.iconst 0, 1) := by decide +kernel
theorem dX6_grant_2 : decode cX6_grant 2 = .ok (.putfield 51, 3) := by decide +kernel
theorem dX6_grant_5 : decode cX6_grant 5 = .ok (.iconst 1, 1) := by decide +kernel
theorem dX6_grant_6 : decode cX6_grant 6 = .ok (.ireturn, 1) := by decide +kernel
theorem dX6_deny_0 : decode cX6_deny 0 = .ok (.aload_n 0, 1) := by decide +kernel
theorem dX6_deny_1 : decode cX6_deny 1 = .ok (.iload_n 1, 1) := by decide +kernel
theorem dX6_deny_2 : decode cX6_deny 2 = .ok (.putfield 51, 3) := by decide +kernel
theorem dX6_deny_5 : decode cX6_deny 5 = .ok (.iconst 0, 1) := by decide +kernel
theorem dX6_deny_6 : decode cX6_deny 6 = .ok (.ireturn, 1) := by decide +kernel
set_option maxRecDepth 20000 in
theorem ggX6_changed_X3_forget : GoodIn wsX6_changed wsX3_forget := goodIn_r _ [6, 7, 8, 28, 29, 30, 31] (by decide +kernel) (by decide +kernel)
set_option maxRecDepth 20000 in
theorem gX6_changed_X3_forget : GoodIn wsX6_changed (wsV RX6 144 RX3 yX3_forget wsX3_forget) := goodIn_app (goodIn_of _ (by decide +kernel)) ggX6_changed_X3_forget
set_option maxRecDepth 20000 in
theorem ggX6_changed_X6_grant : GoodIn wsX6_changed wsX6_grant := goodIn_r _ [13, 14, 15, 16, 17, 18, 19, 20, 21, 22, 23, 24, 25, 26, 27] (by decide +kernel) (by decide +kernel)
set_option maxRecDepth 20000 in
theorem gX6_changed_X6_grant : GoodIn wsX6_changed (wsV RX6 205 RX6 yX6_grant wsX6_grant) := goodIn_app (goodIn_of _ (by decide +kernel)) ggX6_changed_X6_grant
theorem dX6_changed_0 : decode cX6_changed 0 = .ok (.aload_n 0, 1) := by decide +kernel
theorem dX6_changed_1 : decode cX6_changed 1 = .ok (.getfield 29, 3) := by decide +kernel
theorem dX6_changed_4 : decode cX6_changed 4 = .ok (.invokevirtual 144, 3) := by decide +kernel
theorem dX6_changed_7 : decode cX6_changed 7 = .ok (.aload_n 0, 1) := by decide +kernel
theorem dX6_changed_8 : decode cX6_changed 8 = .ok (.invokevirtual 205, 3) := by decide +kernel
theorem dX6_changed_11 : decode cX6_changed 11 = .ok (.ireturn, 1) := by decide +kernel
set_option maxRecDepth 20000 in
theorem ggX6_linesChanged_X2_wallBits : GoodIn wsX6_linesChanged wsX2_wallBits := goodIn_r _ [8, 9, 10, 11, 12, 7, 13, 14, 15, 16, 17, 18, 19, 72, 73, 74, 75] (by decide +kernel) (by decide +kernel)
set_option maxRecDepth 20000 in
theorem gX6_linesChanged_X2_wallBits : GoodIn wsX6_linesChanged (wsV RX6 326 RX2 yX2_wallBits wsX2_wallBits) := goodIn_app (goodIn_of _ (by decide +kernel)) ggX6_linesChanged_X2_wallBits
set_option maxRecDepth 20000 in
theorem ggX6_linesChanged_X0_wallRow : GoodIn wsX6_linesChanged wsX0_wallRow := goodIn_r _ [24, 25, 26, 27, 59, 60, 61, 62, 63, 64, 65, 66, 67, 68, 69, 70, 71] (by decide +kernel) (by decide +kernel)
set_option maxRecDepth 20000 in
theorem gX6_linesChanged_X0_wallRow : GoodIn wsX6_linesChanged (wsV RX6 329 RX0 yX0_wallRow wsX0_wallRow) := goodIn_app (goodIn_of _ (by decide +kernel)) ggX6_linesChanged_X0_wallRow
set_option maxRecDepth 20000 in
theorem ggX6_linesChanged_X6_changed : GoodIn wsX6_linesChanged wsX6_changed := goodIn_r _ [32, 33, 34, 35, 36, 37, 38, 39, 40, 41, 42, 43, 31, 44, 45, 46, 47, 48, 49, 50, 51, 52, 53, 54, 55, 56, 57, 58, 76, 77, 78, 79] (by decide +kernel) (by decide +kernel)
set_option maxRecDepth 20000 in
theorem gX6_linesChanged_X6_changed : GoodIn wsX6_linesChanged (wsV RX6 65 RX6 yX6_changed wsX6_changed) := goodIn_app (goodIn_of _ (by decide +kernel)) ggX6_linesChanged_X6_changed
theorem dX6_linesChanged_0 : decode cX6_linesChanged 0 = .ok (.aload_n 0, 1) := by decide +kernel
theorem dX6_linesChanged_1 : decode cX6_linesChanged 1 = .ok (.getfield 19, 3) := by decide +kernel
theorem dX6_linesChanged_4 : decode cX6_linesChanged 4 = .ok (.iload_n 1, 1) := by decide +kernel
theorem dX6_linesChanged_5 : decode cX6_linesChanged 5 = .ok (.aload_n 0, 1) := by decide +kernel
theorem dX6_linesChanged_6 : decode cX6_linesChanged 6 = .ok (.getfield 10, 3) := by decide +kernel
theorem dX6_linesChanged_9 : decode cX6_linesChanged 9 = .ok (.iload_n 1, 1) := by decide +kernel
theorem dX6_linesChanged_10 : decode cX6_linesChanged 10 = .ok (.aload_n 0, 1) := by decide +kernel
theorem dX6_linesChanged_11 : decode cX6_linesChanged 11 = .ok (.getfield 19, 3) := by decide +kernel
theorem dX6_linesChanged_14 : decode cX6_linesChanged 14 = .ok (.getfield 75, 3) := by decide +kernel
theorem dX6_linesChanged_17 : decode cX6_linesChanged 17 = .ok (.invokevirtual 326, 3) := by decide +kernel
theorem dX6_linesChanged_20 : decode cX6_linesChanged 20 = .ok (.invokevirtual 329, 3) := by decide +kernel
theorem dX6_linesChanged_23 : decode cX6_linesChanged 23 = .ok (.aload_n 0, 1) := by decide +kernel
theorem dX6_linesChanged_24 : decode cX6_linesChanged 24 = .ok (.invokevirtual 65, 3) := by decide +kernel
theorem dX6_linesChanged_27 : decode cX6_linesChanged 27 = .ok (.ireturn, 1) := by decide +kernel
theorem dX6_hasNoBasin_0 : decode cX6_hasNoBasin 0 = .ok (.aload_n 0, 1) := by decide +kernel
theorem dX6_hasNoBasin_1 : decode cX6_hasNoBasin 1 = .ok (.getfield 19, 3) := by decide +kernel
theorem dX6_hasNoBasin_4 : decode cX6_hasNoBasin 4 = .ok (.getfield 75, 3) := by decide +kernel
theorem dX6_hasNoBasin_7 : decode cX6_hasNoBasin 7 = .ok (.ifCond .ne 7, 3) := by decide +kernel
theorem dX6_hasNoBasin_10 : decode cX6_hasNoBasin 10 = .ok (.iconst 1, 1) := by decide +kernel
theorem dX6_hasNoBasin_11 : decode cX6_hasNoBasin 11 = .ok (.goto 4, 3) := by decide +kernel
theorem dX6_hasNoBasin_14 : decode cX6_hasNoBasin 14 = .ok (.iconst 0, 1) := by decide +kernel
theorem dX6_hasNoBasin_15 : decode cX6_hasNoBasin 15 = .ok (.ireturn, 1) := by decide +kernel
theorem dX6_isNoLine_0 : decode cX6_isNoLine 0 = .ok (.iload_n 1, 1) := by decide +kernel
theorem dX6_isNoLine_1 : decode cX6_isNoLine 1 = .ok (.ifCond .lt 14, 3) := by decide +kernel
theorem dX6_isNoLine_4 : decode cX6_isNoLine 4 = .ok (.iload_n 1, 1) := by decide +kernel
theorem dX6_isNoLine_5 : decode cX6_isNoLine 5 = .ok (.aload_n 0, 1) := by decide +kernel
theorem dX6_isNoLine_6 : decode cX6_isNoLine 6 = .ok (.getfield 19, 3) := by decide +kernel
theorem dX6_isNoLine_9 : decode cX6_isNoLine 9 = .ok (.getfield 180, 3) := by decide +kernel
theorem dX6_isNoLine_12 : decode cX6_isNoLine 12 = .ok (.if_icmp .lt 7, 3) := by decide +kernel
theorem dX6_isNoLine_15 : decode cX6_isNoLine 15 = .ok (.iconst 1, 1) := by decide +kernel
theorem dX6_isNoLine_16 : decode cX6_isNoLine 16 = .ok (.goto 4, 3) := by decide +kernel
theorem dX6_isNoLine_19 : decode cX6_isNoLine 19 = .ok (.iconst 0, 1) := by decide +kernel
theorem dX6_isNoLine_20 : decode cX6_isNoLine 20 = .ok (.ireturn, 1) := by decide +kernel
set_option maxRecDepth 20000 in
theorem ggX6_isNoField_X6_isNoLine : GoodIn wsX6_isNoField wsX6_isNoLine := goodIn_r _ [7, 1, 8, 9, 10, 11, 12, 13, 14, 15, 16, 17, 18, 19, 20, 21, 22, 23, 24, 25, 26, 27, 28, 29, 30, 31, 32, 33, 34] (by decide +kernel) (by decide +kernel)
set_option maxRecDepth 20000 in
theorem gX6_isNoField_X6_isNoLine : GoodIn wsX6_isNoField (wsV RX6 72 RX6 yX6_isNoLine wsX6_isNoLine) := goodIn_app (goodIn_of _ (by decide +kernel)) ggX6_isNoField_X6_isNoLine
theorem dX6_isNoField_0 : decode cX6_isNoField 0 = .ok (.iload_n 1, 1) := by decide +kernel
theorem dX6_isNoField_1 : decode cX6_isNoField 1 = .ok (.ifCond .lt 22, 3) := by decide +kernel
theorem dX6_isNoField_4 : decode cX6_isNoField 4 = .ok (.iload_n 1, 1) := by decide +kernel
theorem dX6_isNoField_5 : decode cX6_isNoField 5 = .ok (.aload_n 0, 1) := by decide +kernel
theorem dX6_isNoField_6 : decode cX6_isNoField 6 = .ok (.getfield 19, 3) := by decide +kernel
theorem dX6_isNoField_9 : decode cX6_isNoField 9 = .ok (.getfield 75, 3) := by decide +kernel
theorem dX6_isNoField_12 : decode cX6_isNoField 12 = .ok (.if_icmp .ge 11, 3) := by decide +kernel
theorem dX6_isNoField_15 : decode cX6_isNoField 15 = .ok (.aload_n 0, 1) := by decide +kernel
theorem dX6_isNoField_16 : decode cX6_isNoField 16 = .ok (.iload_n 2, 1) := by decide +kernel
theorem dX6_isNoField_17 : decode cX6_isNoField 17 = .ok (.invokevirtual 72, 3) := by decide +kernel
theorem dX6_isNoField_20 : decode cX6_isNoField 20 = .ok (.ifCond .eq 7, 3) := by decide +kernel
theorem dX6_isNoField_23 : decode cX6_isNoField 23 = .ok (.iconst 1, 1) := by decide +kernel
theorem dX6_isNoField_24 : decode cX6_isNoField 24 = .ok (.goto 4, 3) := by decide +kernel
theorem dX6_isNoField_27 : decode cX6_isNoField 27 = .ok (.iconst 0, 1) := by decide +kernel
theorem dX6_isNoField_28 : decode cX6_isNoField 28 = .ok (.ireturn, 1) := by decide +kernel
set_option maxRecDepth 20000 in
theorem ggX6_faultOfLine_X6_hasNoBasin : GoodIn wsX6_faultOfLine wsX6_hasNoBasin := goodIn_r _ [6, 7, 8, 20, 21, 22, 23, 24, 25, 26, 27, 28, 29, 30, 31, 32, 33, 34, 35, 36, 37, 38, 39, 40, 41, 42, 43, 44, 45] (by decide +kernel) (by decide +kernel)
set_option maxRecDepth 20000 in
theorem gX6_faultOfLine_X6_hasNoBasin : GoodIn wsX6_faultOfLine (wsV RX6 69 RX6 yX6_hasNoBasin wsX6_hasNoBasin) := goodIn_app (goodIn_of _ (by decide +kernel)) ggX6_faultOfLine_X6_hasNoBasin
set_option maxRecDepth 20000 in
theorem ggX6_faultOfLine_X6_isNoLine : GoodIn wsX6_faultOfLine wsX6_isNoLine := goodIn_r _ [12, 7, 13, 20, 21, 22, 23, 24, 25, 26, 27, 28, 29, 30, 31, 32, 33, 34, 35, 36, 37, 38, 39, 40, 41, 42, 43, 44, 45] (by decide +kernel) (by decide +kernel)
set_option maxRecDepth 20000 in
theorem gX6_faultOfLine_X6_isNoLine : GoodIn wsX6_faultOfLine (wsV RX6 72 RX6 yX6_isNoLine wsX6_isNoLine) := goodIn_app (goodIn_of _ (by decide +kernel)) ggX6_faultOfLine_X6_isNoLine
set_option maxRecDepth 20000 in
theorem ggX6_faultOfLine_X2_isMissing : GoodIn wsX6_faultOfLine wsX2_isMissing := goodIn_r _ [18, 19, 46, 47, 48, 49] (by decide +kernel) (by decide +kernel)
set_option maxRecDepth 20000 in
theorem gX6_faultOfLine_X2_isMissing : GoodIn wsX6_faultOfLine (wsV RX6 332 RX2 yX2_isMissing wsX2_isMissing) := goodIn_app (goodIn_of _ (by decide +kernel)) ggX6_faultOfLine_X2_isMissing
theorem dX6_faultOfLine_0 : decode cX6_faultOfLine 0 = .ok (.aload_n 0, 1) := by decide +kernel
theorem dX6_faultOfLine_1 : decode cX6_faultOfLine 1 = .ok (.invokevirtual 69, 3) := by decide +kernel
theorem dX6_faultOfLine_4 : decode cX6_faultOfLine 4 = .ok (.ifCond .eq 5, 3) := by decide +kernel
theorem dX6_faultOfLine_7 : decode cX6_faultOfLine 7 = .ok (.iconst 1, 1) := by decide +kernel
theorem dX6_faultOfLine_8 : decode cX6_faultOfLine 8 = .ok (.ireturn, 1) := by decide +kernel
theorem dX6_faultOfLine_9 : decode cX6_faultOfLine 9 = .ok (.aload_n 0, 1) := by decide +kernel
theorem dX6_faultOfLine_10 : decode cX6_faultOfLine 10 = .ok (.iload_n 1, 1) := by decide +kernel
theorem dX6_faultOfLine_11 : decode cX6_faultOfLine 11 = .ok (.invokevirtual 72, 3) := by decide +kernel
theorem dX6_faultOfLine_14 : decode cX6_faultOfLine 14 = .ok (.ifCond .eq 5, 3) := by decide +kernel
theorem dX6_faultOfLine_17 : decode cX6_faultOfLine 17 = .ok (.iconst 2, 1) := by decide +kernel
theorem dX6_faultOfLine_18 : decode cX6_faultOfLine 18 = .ok (.ireturn, 1) := by decide +kernel
theorem dX6_faultOfLine_19 : decode cX6_faultOfLine 19 = .ok (.aload_n 0, 1) := by decide +kernel
theorem dX6_faultOfLine_20 : decode cX6_faultOfLine 20 = .ok (.getfield 10, 3) := by decide +kernel
theorem dX6_faultOfLine_23 : decode cX6_faultOfLine 23 = .ok (.iload_n 1, 1) := by decide +kernel
theorem dX6_faultOfLine_24 : decode cX6_faultOfLine 24 = .ok (.invokevirtual 332, 3) := by decide +kernel
theorem dX6_faultOfLine_27 : decode cX6_faultOfLine 27 = .ok (.ifCond .eq 7, 3) := by decide +kernel
theorem dX6_faultOfLine_30 : decode cX6_faultOfLine 30 = .ok (.iconst 3, 1) := by decide +kernel
theorem dX6_faultOfLine_31 : decode cX6_faultOfLine 31 = .ok (.goto 4, 3) := by decide +kernel
theorem dX6_faultOfLine_34 : decode cX6_faultOfLine 34 = .ok (.iconst 0, 1) := by decide +kernel
theorem dX6_faultOfLine_35 : decode cX6_faultOfLine 35 = .ok (.ireturn, 1) := by decide +kernel
set_option maxRecDepth 20000 in
theorem ggX6_faultOfNumber_X6_faultOfLine : GoodIn wsX6_faultOfNumber wsX6_faultOfLine := goodIn_r _ [7, 1, 8, 9, 10, 6, 11, 12, 13, 14, 15, 16, 17, 18, 19, 20, 21, 22, 23, 24, 25, 26, 27, 28, 29, 30, 31, 32, 33, 34, 35, 36, 37, 42, 43, 44, 45, 46, 47, 48, 49, 50, 51, 52, 53, 54, 38, 39, 40, 41] (by decide +kernel) (by decide +kernel)
set_option maxRecDepth 20000 in
theorem gX6_faultOfNumber_X6_faultOfLine : GoodIn wsX6_faultOfNumber (wsV RX6 117 RX6 yX6_faultOfLine wsX6_faultOfLine) := goodIn_app (goodIn_of _ (by decide +kernel)) ggX6_faultOfNumber_X6_faultOfLine
theorem dX6_faultOfNumber_0 : decode cX6_faultOfNumber 0 = .ok (.aload_n 0, 1) := by decide +kernel
theorem dX6_faultOfNumber_1 : decode cX6_faultOfNumber 1 = .ok (.iload_n 1, 1) := by decide +kernel
theorem dX6_faultOfNumber_2 : decode cX6_faultOfNumber 2 = .ok (.invokevirtual 117, 3) := by decide +kernel
theorem dX6_faultOfNumber_5 : decode cX6_faultOfNumber 5 = .ok (.istore_n 3, 1) := by decide +kernel
theorem dX6_faultOfNumber_6 : decode cX6_faultOfNumber 6 = .ok (.iload_n 3, 1) := by decide +kernel
theorem dX6_faultOfNumber_7 : decode cX6_faultOfNumber 7 = .ok (.ifCond .eq 5, 3) := by decide +kernel
theorem dX6_faultOfNumber_10 : decode cX6_faultOfNumber 10 = .ok (.iload_n 3, 1) := by decide +kernel
theorem dX6_faultOfNumber_11 : decode cX6_faultOfNumber 11 = .ok (.ireturn, 1) := by decide +kernel
theorem dX6_faultOfNumber_12 : decode cX6_faultOfNumber 12 = .ok (.iload_n 2, 1) := by decide +kernel
theorem dX6_faultOfNumber_13 : decode cX6_faultOfNumber 13 = .ok (.ifCond .lt 16, 3) := by decide +kernel
theorem dX6_faultOfNumber_16 : decode cX6_faultOfNumber 16 = .ok (.iload_n 2, 1) := by decide +kernel
theorem dX6_faultOfNumber_17 : decode cX6_faultOfNumber 17 = .ok (.aload_n 0, 1) := by decide +kernel
theorem dX6_faultOfNumber_18 : decode cX6_faultOfNumber 18 = .ok (.getfield 10, 3) := by decide +kernel
theorem dX6_faultOfNumber_21 : decode cX6_faultOfNumber 21 = .ok (.getfield 335, 3) := by decide +kernel
theorem dX6_faultOfNumber_24 : decode cX6_faultOfNumber 24 = .ok (.iload_n 1, 1) := by decide +kernel
theorem dX6_faultOfNumber_25 : decode cX6_faultOfNumber 25 = .ok (.iaload, 1) := by decide +kernel
theorem dX6_faultOfNumber_26 : decode cX6_faultOfNumber 26 = .ok (.if_icmp .lt 7, 3) := by decide +kernel
theorem dX6_faultOfNumber_29 : decode cX6_faultOfNumber 29 = .ok (.iconst 4, 1) := by decide +kernel
theorem dX6_faultOfNumber_30 : decode cX6_faultOfNumber 30 = .ok (.goto 4, 3) := by decide +kernel
theorem dX6_faultOfNumber_33 : decode cX6_faultOfNumber 33 = .ok (.iconst 0, 1) := by decide +kernel
theorem dX6_faultOfNumber_34 : decode cX6_faultOfNumber 34 = .ok (.ireturn, 1) := by decide +kernel
set_option maxRecDepth 20000 in
theorem ggX6_faultOfCarry_X6_hasNoBasin : GoodIn wsX6_faultOfCarry wsX6_hasNoBasin := goodIn_r _ [7, 8, 9, 26, 27, 28, 29, 30, 31, 32, 33, 34, 35, 36, 37, 38, 43, 44, 45, 46, 47, 48, 49, 50, 51, 52, 53, 54, 55] (by decide +kernel) (by decide +kernel)
set_option maxRecDepth 20000 in
theorem gX6_faultOfCarry_X6_hasNoBasin : GoodIn wsX6_faultOfCarry (wsV RX6 69 RX6 yX6_hasNoBasin wsX6_hasNoBasin) := goodIn_app (goodIn_of _ (by decide +kernel)) ggX6_faultOfCarry_X6_hasNoBasin
set_option maxRecDepth 20000 in
theorem ggX6_faultOfCarry_X6_isNoLine : GoodIn wsX6_faultOfCarry wsX6_isNoLine := goodIn_r _ [13, 8, 14, 26, 27, 28, 29, 30, 31, 32, 33, 34, 35, 36, 37, 38, 43, 44, 45, 46, 47, 48, 49, 50, 51, 52, 53, 54, 55] (by decide +kernel) (by decide +kernel)
set_option maxRecDepth 20000 in
theorem gX6_faultOfCarry_X6_isNoLine : GoodIn wsX6_faultOfCarry (wsV RX6 72 RX6 yX6_isNoLine wsX6_isNoLine) := goodIn_app (goodIn_of _ (by decide +kernel)) ggX6_faultOfCarry_X6_isNoLine
set_option maxRecDepth 20000 in
theorem ggX6_faultOfCarry_X2_isMissing : GoodIn wsX6_faultOfCarry wsX2_isMissing := goodIn_r _ [19, 20, 39, 40, 41, 42] (by decide +kernel) (by decide +kernel)
set_option maxRecDepth 20000 in
theorem gX6_faultOfCarry_X2_isMissing : GoodIn wsX6_faultOfCarry (wsV RX6 332 RX2 yX2_isMissing wsX2_isMissing) := goodIn_app (goodIn_of _ (by decide +kernel)) ggX6_faultOfCarry_X2_isMissing
set_option maxRecDepth 20000 in
theorem ggX6_faultOfCarry_X2_holds : GoodIn wsX6_faultOfCarry wsX2_holds := goodIn_r _ [24, 25, 39, 40, 41, 42] (by decide +kernel) (by decide +kernel)
set_option maxRecDepth 20000 in
theorem gX6_faultOfCarry_X2_holds : GoodIn wsX6_faultOfCarry (wsV RX6 340 RX2 yX2_holds wsX2_holds) := goodIn_app (goodIn_of _ (by decide +kernel)) ggX6_faultOfCarry_X2_holds
theorem dX6_faultOfCarry_0 : decode cX6_faultOfCarry 0 = .ok (.aload_n 0, 1) := by decide +kernel
theorem dX6_faultOfCarry_1 : decode cX6_faultOfCarry 1 = .ok (.invokevirtual 69, 3) := by decide +kernel
theorem dX6_faultOfCarry_4 : decode cX6_faultOfCarry 4 = .ok (.ifCond .eq 5, 3) := by decide +kernel
theorem dX6_faultOfCarry_7 : decode cX6_faultOfCarry 7 = .ok (.iconst 1, 1) := by decide +kernel
theorem dX6_faultOfCarry_8 : decode cX6_faultOfCarry 8 = .ok (.ireturn, 1) := by decide +kernel
theorem dX6_faultOfCarry_9 : decode cX6_faultOfCarry 9 = .ok (.aload_n 0, 1) := by decide +kernel
theorem dX6_faultOfCarry_10 : decode cX6_faultOfCarry 10 = .ok (.iload_n 1, 1) := by decide +kernel
theorem dX6_faultOfCarry_11 : decode cX6_faultOfCarry 11 = .ok (.invokevirtual 72, 3) := by decide +kernel
theorem dX6_faultOfCarry_14 : decode cX6_faultOfCarry 14 = .ok (.ifCond .ne 11, 3) := by decide +kernel
theorem dX6_faultOfCarry_17 : decode cX6_faultOfCarry 17 = .ok (.aload_n 0, 1) := by decide +kernel
theorem dX6_faultOfCarry_18 : decode cX6_faultOfCarry 18 = .ok (.iload_n 3, 1) := by decide +kernel
theorem dX6_faultOfCarry_19 : decode cX6_faultOfCarry 19 = .ok (.invokevirtual 72, 3) := by decide +kernel
theorem dX6_faultOfCarry_22 : decode cX6_faultOfCarry 22 = .ok (.ifCond .eq 5, 3) := by decide +kernel
theorem dX6_faultOfCarry_25 : decode cX6_faultOfCarry 25 = .ok (.iconst 2, 1) := by decide +kernel
theorem dX6_faultOfCarry_26 : decode cX6_faultOfCarry 26 = .ok (.ireturn, 1) := by decide +kernel
theorem dX6_faultOfCarry_27 : decode cX6_faultOfCarry 27 = .ok (.aload_n 0, 1) := by decide +kernel
theorem dX6_faultOfCarry_28 : decode cX6_faultOfCarry 28 = .ok (.getfield 10, 3) := by decide +kernel
theorem dX6_faultOfCarry_31 : decode cX6_faultOfCarry 31 = .ok (.iload_n 1, 1) := by decide +kernel
theorem dX6_faultOfCarry_32 : decode cX6_faultOfCarry 32 = .ok (.invokevirtual 332, 3) := by decide +kernel
theorem dX6_faultOfCarry_35 : decode cX6_faultOfCarry 35 = .ok (.ifCond .ne 14, 3) := by decide +kernel
theorem dX6_faultOfCarry_38 : decode cX6_faultOfCarry 38 = .ok (.aload_n 0, 1) := by decide +kernel
theorem dX6_faultOfCarry_39 : decode cX6_faultOfCarry 39 = .ok (.getfield 10, 3) := by decide +kernel
theorem dX6_faultOfCarry_42 : decode cX6_faultOfCarry 42 = .ok (.iload_n 3, 1) := by decide +kernel
theorem dX6_faultOfCarry_43 : decode cX6_faultOfCarry 43 = .ok (.invokevirtual 332, 3) := by decide +kernel
theorem dX6_faultOfCarry_46 : decode cX6_faultOfCarry 46 = .ok (.ifCond .eq 5, 3) := by decide +kernel
theorem dX6_faultOfCarry_49 : decode cX6_faultOfCarry 49 = .ok (.iconst 3, 1) := by decide +kernel
theorem dX6_faultOfCarry_50 : decode cX6_faultOfCarry 50 = .ok (.ireturn, 1) := by decide +kernel
theorem dX6_faultOfCarry_51 : decode cX6_faultOfCarry 51 = .ok (.aload_n 0, 1) := by decide +kernel
theorem dX6_faultOfCarry_52 : decode cX6_faultOfCarry 52 = .ok (.getfield 10, 3) := by decide +kernel
theorem dX6_faultOfCarry_55 : decode cX6_faultOfCarry 55 = .ok (.getfield 337, 3) := by decide +kernel
theorem dX6_faultOfCarry_58 : decode cX6_faultOfCarry 58 = .ok (.iload_n 1, 1) := by decide +kernel
theorem dX6_faultOfCarry_59 : decode cX6_faultOfCarry 59 = .ok (.iaload, 1) := by decide +kernel
theorem dX6_faultOfCarry_60 : decode cX6_faultOfCarry 60 = .ok (.aload_n 0, 1) := by decide +kernel
theorem dX6_faultOfCarry_61 : decode cX6_faultOfCarry 61 = .ok (.getfield 10, 3) := by decide +kernel
theorem dX6_faultOfCarry_64 : decode cX6_faultOfCarry 64 = .ok (.getfield 337, 3) := by decide +kernel
theorem dX6_faultOfCarry_67 : decode cX6_faultOfCarry 67 = .ok (.iload_n 3, 1) := by decide +kernel
theorem dX6_faultOfCarry_68 : decode cX6_faultOfCarry 68 = .ok (.iaload, 1) := by decide +kernel
theorem dX6_faultOfCarry_69 : decode cX6_faultOfCarry 69 = .ok (.if_icmp .eq 5, 3) := by decide +kernel
theorem dX6_faultOfCarry_72 : decode cX6_faultOfCarry 72 = .ok (.iconst 5, 1) := by decide +kernel
theorem dX6_faultOfCarry_73 : decode cX6_faultOfCarry 73 = .ok (.ireturn, 1) := by decide +kernel
theorem dX6_faultOfCarry_74 : decode cX6_faultOfCarry 74 = .ok (.iload 5, 2) := by decide +kernel
theorem dX6_faultOfCarry_76 : decode cX6_faultOfCarry 76 = .ok (.ifCond .ge 6, 3) := by decide +kernel
theorem dX6_faultOfCarry_79 : decode cX6_faultOfCarry 79 = .ok (.bipush 6, 2) := by decide +kernel
theorem dX6_faultOfCarry_81 : decode cX6_faultOfCarry 81 = .ok (.ireturn, 1) := by decide +kernel
theorem dX6_faultOfCarry_82 : decode cX6_faultOfCarry 82 = .ok (.aload_n 0, 1) := by decide +kernel
theorem dX6_faultOfCarry_83 : decode cX6_faultOfCarry 83 = .ok (.getfield 10, 3) := by decide +kernel
theorem dX6_faultOfCarry_86 : decode cX6_faultOfCarry 86 = .ok (.iload_n 1, 1) := by decide +kernel
theorem dX6_faultOfCarry_87 : decode cX6_faultOfCarry 87 = .ok (.iload_n 2, 1) := by decide +kernel
theorem dX6_faultOfCarry_88 : decode cX6_faultOfCarry 88 = .ok (.iload 5, 2) := by decide +kernel
theorem dX6_faultOfCarry_90 : decode cX6_faultOfCarry 90 = .ok (.invokevirtual 340, 3) := by decide +kernel
theorem dX6_faultOfCarry_93 : decode cX6_faultOfCarry 93 = .ok (.ifCond .eq 22, 3) := by decide +kernel
theorem dX6_faultOfCarry_96 : decode cX6_faultOfCarry 96 = .ok (.aload_n 0, 1) := by decide +kernel
theorem dX6_faultOfCarry_97 : decode cX6_faultOfCarry 97 = .ok (.getfield 10, 3) := by decide +kernel
theorem dX6_faultOfCarry_100 : decode cX6_faultOfCarry 100 = .ok (.iload_n 3, 1) := by decide +kernel
theorem dX6_faultOfCarry_101 : decode cX6_faultOfCarry 101 = .ok (.iload 4, 2) := by decide +kernel
theorem dX6_faultOfCarry_103 : decode cX6_faultOfCarry 103 = .ok (.iload 5, 2) := by decide +kernel
theorem dX6_faultOfCarry_105 : decode cX6_faultOfCarry 105 = .ok (.invokevirtual 340, 3) := by decide +kernel
theorem dX6_faultOfCarry_108 : decode cX6_faultOfCarry 108 = .ok (.ifCond .eq 7, 3) := by decide +kernel
theorem dX6_faultOfCarry_111 : decode cX6_faultOfCarry 111 = .ok (.iconst 0, 1) := by decide +kernel
theorem dX6_faultOfCarry_112 : decode cX6_faultOfCarry 112 = .ok (.goto 4, 3) := by decide +kernel
theorem dX6_faultOfCarry_115 : decode cX6_faultOfCarry 115 = .ok (.iconst 4, 1) := by decide +kernel
theorem dX6_faultOfCarry_116 : decode cX6_faultOfCarry 116 = .ok (.ireturn, 1) := by decide +kernel
set_option maxRecDepth 20000 in
theorem ggX6_faultOfBarge_X6_hasNoBasin : GoodIn wsX6_faultOfBarge wsX6_hasNoBasin := goodIn_r _ [7, 1, 8, 9, 10, 11, 12, 13, 14, 15, 16, 17, 18, 19, 20, 21, 22, 23, 24, 25, 26, 27, 28, 29, 30, 31, 32, 33, 34] (by decide +kernel) (by decide +kernel)
set_option maxRecDepth 20000 in
theorem gX6_faultOfBarge_X6_hasNoBasin : GoodIn wsX6_faultOfBarge (wsV RX6 69 RX6 yX6_hasNoBasin wsX6_hasNoBasin) := goodIn_app (goodIn_of _ (by decide +kernel)) ggX6_faultOfBarge_X6_hasNoBasin
theorem dX6_faultOfBarge_0 : decode cX6_faultOfBarge 0 = .ok (.aload_n 0, 1) := by decide +kernel
theorem dX6_faultOfBarge_1 : decode cX6_faultOfBarge 1 = .ok (.invokevirtual 69, 3) := by decide +kernel
theorem dX6_faultOfBarge_4 : decode cX6_faultOfBarge 4 = .ok (.ifCond .eq 5, 3) := by decide +kernel
theorem dX6_faultOfBarge_7 : decode cX6_faultOfBarge 7 = .ok (.iconst 1, 1) := by decide +kernel
theorem dX6_faultOfBarge_8 : decode cX6_faultOfBarge 8 = .ok (.ireturn, 1) := by decide +kernel
theorem dX6_faultOfBarge_9 : decode cX6_faultOfBarge 9 = .ok (.iload_n 1, 1) := by decide +kernel
theorem dX6_faultOfBarge_10 : decode cX6_faultOfBarge 10 = .ok (.ifCond .lt 14, 3) := by decide +kernel
theorem dX6_faultOfBarge_13 : decode cX6_faultOfBarge 13 = .ok (.iload_n 1, 1) := by decide +kernel
theorem dX6_faultOfBarge_14 : decode cX6_faultOfBarge 14 = .ok (.aload_n 0, 1) := by decide +kernel
theorem dX6_faultOfBarge_15 : decode cX6_faultOfBarge 15 = .ok (.getfield 19, 3) := by decide +kernel
theorem dX6_faultOfBarge_18 : decode cX6_faultOfBarge 18 = .ok (.getfield 137, 3) := by decide +kernel
theorem dX6_faultOfBarge_21 : decode cX6_faultOfBarge 21 = .ok (.if_icmp .lt 7, 3) := by decide +kernel
theorem dX6_faultOfBarge_24 : decode cX6_faultOfBarge 24 = .ok (.iconst 2, 1) := by decide +kernel
theorem dX6_faultOfBarge_25 : decode cX6_faultOfBarge 25 = .ok (.goto 4, 3) := by decide +kernel
theorem dX6_faultOfBarge_28 : decode cX6_faultOfBarge 28 = .ok (.iconst 0, 1) := by decide +kernel
theorem dX6_faultOfBarge_29 : decode cX6_faultOfBarge 29 = .ok (.ireturn, 1) := by decide +kernel
set_option maxRecDepth 20000 in
theorem ggX6_faultOfSearch_X6_hasNoBasin : GoodIn wsX6_faultOfSearch wsX6_hasNoBasin := goodIn_r _ [6, 1, 7, 179, 180, 181, 182, 183, 184, 185, 186, 187, 188, 189, 190, 191, 192, 193, 194, 195, 196, 197, 198, 199, 200, 201, 202, 203, 204] (by decide +kernel) (by decide +kernel)
set_option maxRecDepth 20000 in
theorem gX6_faultOfSearch_X6_hasNoBasin : GoodIn wsX6_faultOfSearch (wsV RX6 69 RX6 yX6_hasNoBasin wsX6_hasNoBasin) := goodIn_app (goodIn_of _ (by decide +kernel)) ggX6_faultOfSearch_X6_hasNoBasin
set_option maxRecDepth 20000 in
theorem ggX6_faultOfSearch_X6_searcher : GoodIn wsX6_faultOfSearch wsX6_searcher := goodIn_r _ [11, 12, 13, 14, 15, 16, 17, 18, 19, 20, 21, 22, 23, 24, 25, 26, 27, 28, 29, 30, 31, 32, 33, 34, 35, 36, 37, 38, 39, 40, 41, 42, 43, 44, 45, 46, 179, 180, 181, 182, 183, 184, 185, 186, 187, 188, 189, 190, 191, 205, 206, 207, 208, 209, 210, 211, 212, 213, 214, 215, 216, 192, 193, 194, 195, 196, 197, 198, 199, 200, 201, 202, 203, 204] (by decide +kernel) (by decide +kernel)
set_option maxRecDepth 20000 in
theorem gX6_faultOfSearch_X6_searcher : GoodIn wsX6_faultOfSearch (wsV RX6 231 RX6 yX6_searcher wsX6_searcher) := goodIn_app (goodIn_of _ (by decide +kernel)) ggX6_faultOfSearch_X6_searcher
set_option maxRecDepth 20000 in
theorem ggX6_faultOfSearch_X5_explore : GoodIn wsX6_faultOfSearch wsX5_explore := goodIn_r _ [50, 24, 51, 52, 31, 53, 54, 55, 15, 56, 29, 30, 57, 58, 59, 23, 60, 61, 62, 63, 64, 65, 66, 67, 68, 69, 38, 39, 40, 41, 43, 44, 45, 46, 70, 71, 72, 73, 74, 75, 76, 77, 78, 79, 80, 81, 82, 83, 84, 85, 26, 27, 86, 87, 88, 89, 90, 91, 92, 93, 94, 95, 96, 97, 98, 99, 100, 101, 102, 103, 104, 105, 106, 107, 108, 109, 110, 111, 112, 113, 114, 115, 116, 117, 118, 119, 5, 120, 121, 122, 123, 124, 125, 126, 127, 128, 129, 130, 131, 132, 133, 134, 135, 136, 137, 138, 139, 140, 141, 142, 143, 144, 205, 206, 207, 208, 209, 210, 211, 212, 213, 214, 215, 216, 192, 193, 194, 195, 196, 197, 198, 199, 200, 201, 202, 203, 204] (by decide +kernel) (by decide +kernel)
set_option maxRecDepth 20000 in
theorem gX6_faultOfSearch_X5_explore : GoodIn wsX6_faultOfSearch (wsV RX6 266 RX5 yX5_explore wsX5_explore) := goodIn_app (goodIn_of _ (by decide +kernel)) ggX6_faultOfSearch_X5_explore
set_option maxRecDepth 20000 in
theorem ggX6_faultOfSearch_X5_measure : GoodIn wsX6_faultOfSearch wsX5_measure := goodIn_r _ [148, 149, 51, 24, 32, 33, 31, 100, 101, 102, 15, 103, 104, 74, 26, 27, 75, 105, 106, 107, 108, 23, 109, 46, 39, 150, 151, 152, 153, 63, 154, 155, 156, 157, 38, 41, 158, 159, 160, 161, 92, 93, 94, 95, 96, 97, 98, 99, 110, 111, 112, 113, 114, 115, 116, 117, 43, 44, 45, 64, 65, 118, 119, 5, 120, 121, 122, 123, 124, 61, 62, 125, 126, 127, 128, 129, 130, 162, 163, 164, 165, 29, 131, 132, 133, 134, 135, 136, 137, 138, 139, 140, 76, 77, 78, 141, 142, 143, 144, 79, 80, 81, 86, 87, 88, 89, 90, 91, 205, 206, 207, 208, 209, 210, 211, 212, 213, 214, 215, 216, 192, 193, 194, 195, 196, 197, 198, 199, 200, 201, 202, 203, 204] (by decide +kernel) (by decide +kernel)
set_option maxRecDepth 20000 in
theorem gX6_faultOfSearch_X5_measure : GoodIn wsX6_faultOfSearch (wsV RX6 343 RX5 yX5_measure wsX5_measure) := goodIn_app (goodIn_of _ (by decide +kernel)) ggX6_faultOfSearch_X5_measure
set_option maxRecDepth 20000 in
theorem ggX6_faultOfSearch_X5_farthest : GoodIn wsX6_faultOfSearch wsX5_farthest := goodIn_r _ [169, 170, 171, 172, 15, 173, 51, 32, 174, 175, 176, 177, 205, 206, 207, 208, 209, 210, 211, 212, 213, 214, 215, 216] (by decide +kernel) (by decide +kernel)
set_option maxRecDepth 20000 in
theorem gX6_faultOfSearch_X5_farthest : GoodIn wsX6_faultOfSearch (wsV RX6 273 RX5 yX5_farthest wsX5_farthest) := goodIn_app (goodIn_of _ (by decide +kernel)) ggX6_faultOfSearch_X5_farthest
set_option maxRecDepth 20000 in
theorem ggX6_faultOfSearch_X5_farOf : GoodIn wsX6_faultOfSearch wsX5_farOf := goodIn_r _ [177, 51, 32, 205, 206, 207, 208, 209, 210, 211, 212, 213, 214, 215, 216] (by decide +kernel) (by decide +kernel)
set_option maxRecDepth 20000 in
theorem gX6_faultOfSearch_X5_farOf : GoodIn wsX6_faultOfSearch (wsV RX6 347 RX5 yX5_farOf wsX5_farOf) := goodIn_app (goodIn_of _ (by decide +kernel)) ggX6_faultOfSearch_X5_farOf
theorem dX6_faultOfSearch_0 : decode cX6_faultOfSearch 0 = .ok (.aload_n 0, 1) := by decide +kernel
theorem dX6_faultOfSearch_1 : decode cX6_faultOfSearch 1 = .ok (.invokevirtual 69, 3) := by decide +kernel
theorem dX6_faultOfSearch_4 : decode cX6_faultOfSearch 4 = .ok (.ifCond .eq 5, 3) := by decide +kernel
theorem dX6_faultOfSearch_7 : decode cX6_faultOfSearch 7 = .ok (.iconst 1, 1) := by decide +kernel
theorem dX6_faultOfSearch_8 : decode cX6_faultOfSearch 8 = .ok (.ireturn, 1) := by decide +kernel
theorem dX6_faultOfSearch_9 : decode cX6_faultOfSearch 9 = .ok (.aload_n 0, 1) := by decide +kernel
theorem dX6_faultOfSearch_10 : decode cX6_faultOfSearch 10 = .ok (.invokevirtual 231, 3) := by decide +kernel
theorem dX6_faultOfSearch_13 : decode cX6_faultOfSearch 13 = .ok (.astore_n 3, 1) := by decide +kernel
theorem dX6_faultOfSearch_14 : decode cX6_faultOfSearch 14 = .ok (.aload_n 3, 1) := by decide +kernel
theorem dX6_faultOfSearch_15 : decode cX6_faultOfSearch 15 = .ok (.aload_n 0, 1) := by decide +kernel
theorem dX6_faultOfSearch_16 : decode cX6_faultOfSearch 16 = .ok (.getfield 19, 3) := by decide +kernel
theorem dX6_faultOfSearch_19 : decode cX6_faultOfSearch 19 = .ok (.invokevirtual 266, 3) := by decide +kernel
theorem dX6_faultOfSearch_22 : decode cX6_faultOfSearch 22 = .ok (.ifCond .ne 6, 3) := by decide +kernel
theorem dX6_faultOfSearch_25 : decode cX6_faultOfSearch 25 = .ok (.bipush 10, 2) := by decide +kernel
theorem dX6_faultOfSearch_27 : decode cX6_faultOfSearch 27 = .ok (.ireturn, 1) := by decide +kernel
theorem dX6_faultOfSearch_28 : decode cX6_faultOfSearch 28 = .ok (.aload_n 3, 1) := by decide +kernel
theorem dX6_faultOfSearch_29 : decode cX6_faultOfSearch 29 = .ok (.iload_n 1, 1) := by decide +kernel
theorem dX6_faultOfSearch_30 : decode cX6_faultOfSearch 30 = .ok (.invokevirtual 343, 3) := by decide +kernel
theorem dX6_faultOfSearch_33 : decode cX6_faultOfSearch 33 = .ok (.iload_n 2, 1) := by decide +kernel
theorem dX6_faultOfSearch_34 : decode cX6_faultOfSearch 34 = .ok (.ifCond .eq 10, 3) := by decide +kernel
theorem dX6_faultOfSearch_37 : decode cX6_faultOfSearch 37 = .ok (.aload_n 3, 1) := by decide +kernel
theorem dX6_faultOfSearch_38 : decode cX6_faultOfSearch 38 = .ok (.invokevirtual 273, 3) := by decide +kernel
theorem dX6_faultOfSearch_41 : decode cX6_faultOfSearch 41 = .ok (.goto 8, 3) := by decide +kernel
theorem dX6_faultOfSearch_44 : decode cX6_faultOfSearch 44 = .ok (.aload_n 3, 1) := by decide +kernel
theorem dX6_faultOfSearch_45 : decode cX6_faultOfSearch 45 = .ok (.iconst 0, 1) := by decide +kernel
theorem dX6_faultOfSearch_46 : decode cX6_faultOfSearch 46 = .ok (.invokevirtual 347, 3) := by decide +kernel
theorem dX6_faultOfSearch_49 : decode cX6_faultOfSearch 49 = .ok (.istore 4, 2) := by decide +kernel
theorem dX6_faultOfSearch_51 : decode cX6_faultOfSearch 51 = .ok (.iload 4, 2) := by decide +kernel
theorem dX6_faultOfSearch_53 : decode cX6_faultOfSearch 53 = .ok (.ifCond .ge 8, 3) := by decide +kernel
theorem dX6_faultOfSearch_56 : decode cX6_faultOfSearch 56 = .ok (.bipush 11, 2) := by decide +kernel
theorem dX6_faultOfSearch_58 : decode cX6_faultOfSearch 58 = .ok (.goto 4, 3) := by decide +kernel
theorem dX6_faultOfSearch_61 : decode cX6_faultOfSearch 61 = .ok (.iconst 0, 1) := by decide +kernel
theorem dX6_faultOfSearch_62 : decode cX6_faultOfSearch 62 = .ok (.ireturn, 1) := by decide +kernel
theorem dX6_isBound_0 : decode cX6_isBound 0 = .ok (.iload_n 0, 1) := by decide +kernel
theorem dX6_isBound_1 : decode cX6_isBound 1 = .ok (.iconst 1, 1) := by decide +kernel
theorem dX6_isBound_2 : decode cX6_isBound 2 = .ok (.if_icmp .eq 8, 3) := by decide +kernel
theorem dX6_isBound_5 : decode cX6_isBound 5 = .ok (.iload_n 0, 1) := by decide +kernel
theorem dX6_isBound_6 : decode cX6_isBound 6 = .ok (.iconst 5, 1) := by decide +kernel
theorem dX6_isBound_7 : decode cX6_isBound 7 = .ok (.if_icmp .ne 7, 3) := by decide +kernel
theorem dX6_isBound_10 : decode cX6_isBound 10 = .ok (.iconst 1, 1) := by decide +kernel
theorem dX6_isBound_11 : decode cX6_isBound 11 = .ok (.goto 4, 3) := by decide +kernel
theorem dX6_isBound_14 : decode cX6_isBound 14 = .ok (.iconst 0, 1) := by decide +kernel
theorem dX6_isBound_15 : decode cX6_isBound 15 = .ok (.ireturn, 1) := by decide +kernel
theorem dX6_isLengthOf_0 : decode cX6_isLengthOf 0 = .ok (.iload_n 0, 1) := by decide +kernel
theorem dX6_isLengthOf_1 : decode cX6_isLengthOf 1 = .ok (.tableswitch 73 1 5 #[35, 51, 62, 51, 35], 35) := by decide +kernel
theorem dX6_isLengthOf_36 : decode cX6_isLengthOf 36 = .ok (.iload_n 1, 1) := by decide +kernel
theorem dX6_isLengthOf_37 : decode cX6_isLengthOf 37 = .ok (.iconst 2, 1) := by decide +kernel
theorem dX6_isLengthOf_38 : decode cX6_isLengthOf 38 = .ok (.if_icmp .lt 12, 3) := by decide +kernel
theorem dX6_isLengthOf_41 : decode cX6_isLengthOf 41 = .ok (.iload_n 1, 1) := by decide +kernel
theorem dX6_isLengthOf_42 : decode cX6_isLengthOf 42 = .ok (.iconst 4, 1) := by decide +kernel
theorem dX6_isLengthOf_43 : decode cX6_isLengthOf 43 = .ok (.if_icmp .gt 7, 3) := by decide +kernel
theorem dX6_isLengthOf_46 : decode cX6_isLengthOf 46 = .ok (.iconst 1, 1) := by decide +kernel
theorem dX6_isLengthOf_47 : decode cX6_isLengthOf 47 = .ok (.goto 4, 3) := by decide +kernel
theorem dX6_isLengthOf_50 : decode cX6_isLengthOf 50 = .ok (.iconst 0, 1) := by decide +kernel
theorem dX6_isLengthOf_51 : decode cX6_isLengthOf 51 = .ok (.ireturn, 1) := by decide +kernel
theorem dX6_isLengthOf_52 : decode cX6_isLengthOf 52 = .ok (.iload_n 1, 1) := by decide +kernel
theorem dX6_isLengthOf_53 : decode cX6_isLengthOf 53 = .ok (.iconst 1, 1) := by decide +kernel
theorem dX6_isLengthOf_54 : decode cX6_isLengthOf 54 = .ok (.if_icmp .ne 7, 3) := by decide +kernel
theorem dX6_isLengthOf_57 : decode cX6_isLengthOf 57 = .ok (.iconst 1, 1) := by decide +kernel
theorem dX6_isLengthOf_58 : decode cX6_isLengthOf 58 = .ok (.goto 4, 3) := by decide +kernel
theorem dX6_isLengthOf_61 : decode cX6_isLengthOf 61 = .ok (.iconst 0, 1) := by decide +kernel
theorem dX6_isLengthOf_62 : decode cX6_isLengthOf 62 = .ok (.ireturn, 1) := by decide +kernel
theorem dX6_isLengthOf_63 : decode cX6_isLengthOf 63 = .ok (.iload_n 1, 1) := by decide +kernel
theorem dX6_isLengthOf_64 : decode cX6_isLengthOf 64 = .ok (.iconst 2, 1) := by decide +kernel
theorem dX6_isLengthOf_65 : decode cX6_isLengthOf 65 = .ok (.if_icmp .ne 7, 3) := by decide +kernel
theorem dX6_isLengthOf_68 : decode cX6_isLengthOf 68 = .ok (.iconst 1, 1) := by decide +kernel
theorem dX6_isLengthOf_69 : decode cX6_isLengthOf 69 = .ok (.goto 4, 3) := by decide +kernel
theorem dX6_isLengthOf_72 : decode cX6_isLengthOf 72 = .ok (.iconst 0, 1) := by decide +kernel
theorem dX6_isLengthOf_73 : decode cX6_isLengthOf 73 = .ok (.ireturn, 1) := by decide +kernel
theorem dX6_isLengthOf_74 : decode cX6_isLengthOf 74 = .ok (.iconst 0, 1) := by decide +kernel
theorem dX6_isLengthOf_75 : decode cX6_isLengthOf 75 = .ok (.ireturn, 1) := by decide +kernel
theorem dX6_moveOf_0 : decode cX6_moveOf 0 = .ok (.iload_n 0, 1) := by decide +kernel
theorem dX6_moveOf_1 : decode cX6_moveOf 1 = .ok (.iconst 5, 1) := by decide +kernel
theorem dX6_moveOf_2 : decode cX6_moveOf 2 = .ok (.ishl, 1) := by decide +kernel
theorem dX6_moveOf_3 : decode cX6_moveOf 3 = .ok (.iload_n 1, 1) := by decide +kernel
theorem dX6_moveOf_4 : decode cX6_moveOf 4 = .ok (.iconst 3, 1) := by decide +kernel
theorem dX6_moveOf_5 : decode cX6_moveOf 5 = .ok (.ishl, 1) := by decide +kernel
theorem dX6_moveOf_6 : decode cX6_moveOf 6 = .ok (.ior, 1) := by decide +kernel
theorem dX6_moveOf_7 : decode cX6_moveOf 7 = .ok (.iload_n 2, 1) := by decide +kernel
theorem dX6_moveOf_8 : decode cX6_moveOf 8 = .ok (.ior, 1) := by decide +kernel
theorem dX6_moveOf_9 : decode cX6_moveOf 9 = .ok (.ireturn, 1) := by decide +kernel
theorem dX6_bargeOf_0 : decode cX6_bargeOf 0 = .ok (.iload_n 0, 1) := by decide +kernel
theorem dX6_bargeOf_1 : decode cX6_bargeOf 1 = .ok (.iconst 5, 1) := by decide +kernel
theorem dX6_bargeOf_2 : decode cX6_bargeOf 2 = .ok (.ishr, 1) := by decide +kernel
theorem dX6_bargeOf_3 : decode cX6_bargeOf 3 = .ok (.ireturn, 1) := by decide +kernel
theorem dX6_directionOf_0 : decode cX6_directionOf 0 = .ok (.iload_n 0, 1) := by decide +kernel
theorem dX6_directionOf_1 : decode cX6_directionOf 1 = .ok (.iconst 3, 1) := by decide +kernel
theorem dX6_directionOf_2 : decode cX6_directionOf 2 = .ok (.ishr, 1) := by decide +kernel
theorem dX6_directionOf_3 : decode cX6_directionOf 3 = .ok (.iconst 3, 1) := by decide +kernel
theorem dX6_directionOf_4 : decode cX6_directionOf 4 = .ok (.iand, 1) := by decide +kernel
theorem dX6_directionOf_5 : decode cX6_directionOf 5 = .ok (.ireturn, 1) := by decide +kernel
theorem dX6_stepsOf_0 : decode cX6_stepsOf 0 = .ok (.iload_n 0, 1) := by decide +kernel
theorem dX6_stepsOf_1 : decode cX6_stepsOf 1 = .ok (.bipush 7, 2) := by decide +kernel
theorem dX6_stepsOf_3 : decode cX6_stepsOf 3 = .ok (.iand, 1) := by decide +kernel
theorem dX6_stepsOf_4 : decode cX6_stepsOf 4 = .ok (.ireturn, 1) := by decide +kernel
set_option maxRecDepth 20000 in
theorem ggX6_slides_X0_stepsFrom : GoodIn wsX6_slides wsX0_stepsFrom := goodIn_r _ [7, 8, 9, 10, 11, 6, 12, 13, 14, 15, 16, 17, 18, 19, 20, 21, 22, 23, 24, 25, 26, 27, 28, 29, 30, 31, 32, 33, 34, 35, 36, 66, 67, 68, 69, 70, 71, 72, 73, 74, 75, 76, 77, 78] (by decide +kernel) (by decide +kernel)
set_option maxRecDepth 20000 in
theorem gX6_slides_X0_stepsFrom : GoodIn wsX6_slides (wsV RX6 195 RX0 yX0_stepsFrom wsX0_stepsFrom) := goodIn_app (goodIn_of _ (by decide +kernel)) ggX6_slides_X0_stepsFrom
set_option maxRecDepth 20000 in
theorem ggX6_slides_X0_shift : GoodIn wsX6_slides wsX0_shift := goodIn_r _ [40, 19, 20, 8, 30, 31, 32, 6, 33, 17, 66, 67, 68, 69, 70, 71, 72, 73, 74, 75, 76, 77, 78] (by decide +kernel) (by decide +kernel)
set_option maxRecDepth 20000 in
theorem gX6_slides_X0_shift : GoodIn wsX6_slides (wsV RX6 221 RX0 yX0_shift wsX0_shift) := goodIn_app (goodIn_of _ (by decide +kernel)) ggX6_slides_X0_shift
set_option maxRecDepth 20000 in
theorem ggX6_slides_X6_moveOf : GoodIn wsX6_slides wsX6_moveOf := goodIn_r _ [43] (by decide +kernel) (by decide +kernel)
set_option maxRecDepth 20000 in
theorem gX6_slides_X6_moveOf : GoodIn wsX6_slides (va_wsS RX6 350 yX6_moveOf wsX6_moveOf) := goodIn_app (goodIn_of _ (by decide +kernel)) ggX6_slides_X6_moveOf
set_option maxRecDepth 20000 in
theorem ggX6_slides_X3_note : GoodIn wsX6_slides wsX3_note := goodIn_r _ [48, 49, 50, 51, 52, 79, 80, 81, 82] (by decide +kernel) (by decide +kernel)
set_option maxRecDepth 20000 in
theorem gX6_slides_X3_note : GoodIn wsX6_slides (wsV RX6 354 RX3 yX3_note wsX3_note) := goodIn_app (goodIn_of _ (by decide +kernel)) ggX6_slides_X3_note
theorem dX6_slides_0 : decode cX6_slides 0 = .ok (.aload_n 0, 1) := by decide +kernel
theorem dX6_slides_1 : decode cX6_slides 1 = .ok (.getfield 19, 3) := by decide +kernel
theorem dX6_slides_4 : decode cX6_slides 4 = .ok (.iload_n 1, 1) := by decide +kernel
theorem dX6_slides_5 : decode cX6_slides 5 = .ok (.iload_n 2, 1) := by decide +kernel
theorem dX6_slides_6 : decode cX6_slides 6 = .ok (.iconst 0, 1) := by decide +kernel
theorem dX6_slides_7 : decode cX6_slides 7 = .ok (.invokevirtual 195, 3) := by decide +kernel
theorem dX6_slides_10 : decode cX6_slides 10 = .ok (.iload_n 3, 1) := by decide +kernel
theorem dX6_slides_11 : decode cX6_slides 11 = .ok (.if_icmp .ge 5, 3) := by decide +kernel
theorem dX6_slides_14 : decode cX6_slides 14 = .ok (.iconst 0, 1) := by decide +kernel
theorem dX6_slides_15 : decode cX6_slides 15 = .ok (.ireturn, 1) := by decide +kernel
theorem dX6_slides_16 : decode cX6_slides 16 = .ok (.aload_n 0, 1) := by decide +kernel
theorem dX6_slides_17 : decode cX6_slides 17 = .ok (.getfield 19, 3) := by decide +kernel
theorem dX6_slides_20 : decode cX6_slides 20 = .ok (.iload_n 1, 1) := by decide +kernel
theorem dX6_slides_21 : decode cX6_slides 21 = .ok (.iload_n 2, 1) := by decide +kernel
theorem dX6_slides_22 : decode cX6_slides 22 = .ok (.iload_n 3, 1) := by decide +kernel
theorem dX6_slides_23 : decode cX6_slides 23 = .ok (.invokevirtual 221, 3) := by decide +kernel
theorem dX6_slides_26 : decode cX6_slides 26 = .ok (.aload_n 0, 1) := by decide +kernel
theorem dX6_slides_27 : decode cX6_slides 27 = .ok (.getfield 29, 3) := by decide +kernel
theorem dX6_slides_30 : decode cX6_slides 30 = .ok (.iload_n 1, 1) := by decide +kernel
theorem dX6_slides_31 : decode cX6_slides 31 = .ok (.iload_n 2, 1) := by decide +kernel
theorem dX6_slides_32 : decode cX6_slides 32 = .ok (.iload_n 3, 1) := by decide +kernel
theorem dX6_slides_33 : decode cX6_slides 33 = .ok (.invokestatic 350, 3) := by decide +kernel
theorem dX6_slides_36 : decode cX6_slides 36 = .ok (.invokevirtual 354, 3) := by decide +kernel
theorem dX6_slides_39 : decode cX6_slides 39 = .ok (.iconst 1, 1) := by decide +kernel
theorem dX6_slides_40 : decode cX6_slides 40 = .ok (.ireturn, 1) := by decide +kernel
set_option maxRecDepth 20000 in
theorem ggX6_tellWhy_X0_stepsFrom : GoodIn wsX6_tellWhy wsX0_stepsFrom := goodIn_r _ [11, 12, 13, 14, 15, 10, 16, 17, 18, 19, 20, 21, 22, 23, 24, 25, 26, 27, 28, 29, 30, 31, 32, 33, 34, 35, 36, 37, 38, 39, 40, 64, 65, 66, 67, 68, 69, 70, 71, 72, 73, 74, 75, 76] (by decide +kernel) (by decide +kernel)
set_option maxRecDepth 20000 in
theorem gX6_tellWhy_X0_stepsFrom : GoodIn wsX6_tellWhy (wsV RX6 195 RX0 yX0_stepsFrom wsX0_stepsFrom) := goodIn_app (goodIn_of _ (by decide +kernel)) ggX6_tellWhy_X0_stepsFrom
set_option maxRecDepth 20000 in
theorem ggX6_tellWhy_X0_hindrance : GoodIn wsX6_tellWhy wsX0_hindrance := goodIn_r _ [16, 17, 18, 19, 20, 21, 22, 23, 24, 25, 26, 27, 28, 29, 30, 10, 31, 32, 33, 34, 35, 36, 37, 12, 38, 39, 40, 64, 65, 66, 67, 68, 69, 70, 71, 72, 73, 74, 75, 76] (by decide +kernel) (by decide +kernel)
set_option maxRecDepth 20000 in
theorem gX6_tellWhy_X0_hindrance : GoodIn wsX6_tellWhy (wsV RX6 363 RX0 yX0_hindrance wsX0_hindrance) := goodIn_app (goodIn_of _ (by decide +kernel)) ggX6_tellWhy_X0_hindrance
set_option maxRecDepth 20000 in
theorem ggX6_tellWhy_X0_hinderer : GoodIn wsX6_tellWhy wsX0_hinderer := goodIn_r _ [45, 21, 46, 47, 48, 10, 49, 50, 34, 35, 36, 37, 12, 38, 39, 40, 64, 65, 66, 67, 68, 69, 70, 71, 72, 73, 74, 75, 76] (by decide +kernel) (by decide +kernel)
set_option maxRecDepth 20000 in
theorem gX6_tellWhy_X0_hinderer : GoodIn wsX6_tellWhy (wsV RX6 367 RX0 yX0_hinderer wsX0_hinderer) := goodIn_app (goodIn_of _ (by decide +kernel)) ggX6_tellWhy_X0_hinderer
theorem dX6_tellWhy_0 : decode cX6_tellWhy 0 = .ok (.aload_n 0, 1) := by decide +kernel
theorem dX6_tellWhy_1 : decode cX6_tellWhy 1 = .ok (.getfield 19, 3) := by decide +kernel
theorem dX6_tellWhy_4 : decode cX6_tellWhy 4 = .ok (.iload_n 1, 1) := by decide +kernel
theorem dX6_tellWhy_5 : decode cX6_tellWhy 5 = .ok (.iload_n 2, 1) := by decide +kernel
theorem dX6_tellWhy_6 : decode cX6_tellWhy 6 = .ok (.iconst 0, 1) := by decide +kernel
theorem dX6_tellWhy_7 : decode cX6_tellWhy 7 = .ok (.invokevirtual 195, 3) := by decide +kernel
theorem dX6_tellWhy_10 : decode cX6_tellWhy 10 = .ok (.istore_n 3, 1) := by decide +kernel
theorem dX6_tellWhy_11 : decode cX6_tellWhy 11 = .ok (.aload_n 0, 1) := by decide +kernel
theorem dX6_tellWhy_12 : decode cX6_tellWhy 12 = .ok (.getfield 19, 3) := by decide +kernel
theorem dX6_tellWhy_15 : decode cX6_tellWhy 15 = .ok (.getfield 357, 3) := by decide +kernel
theorem dX6_tellWhy_18 : decode cX6_tellWhy 18 = .ok (.iload_n 1, 1) := by decide +kernel
theorem dX6_tellWhy_19 : decode cX6_tellWhy 19 = .ok (.iaload, 1) := by decide +kernel
theorem dX6_tellWhy_20 : decode cX6_tellWhy 20 = .ok (.iload_n 3, 1) := by decide +kernel
theorem dX6_tellWhy_21 : decode cX6_tellWhy 21 = .ok (.getstatic 360, 3) := by decide +kernel
theorem dX6_tellWhy_24 : decode cX6_tellWhy 24 = .ok (.iload_n 2, 1) := by decide +kernel
theorem dX6_tellWhy_25 : decode cX6_tellWhy 25 = .ok (.iaload, 1) := by decide +kernel
theorem dX6_tellWhy_26 : decode cX6_tellWhy 26 = .ok (.imul, 1) := by decide +kernel
theorem dX6_tellWhy_27 : decode cX6_tellWhy 27 = .ok (.iadd, 1) := by decide +kernel
theorem dX6_tellWhy_28 : decode cX6_tellWhy 28 = .ok (.istore 4, 2) := by decide +kernel
theorem dX6_tellWhy_30 : decode cX6_tellWhy 30 = .ok (.aload_n 0, 1) := by decide +kernel
theorem dX6_tellWhy_31 : decode cX6_tellWhy 31 = .ok (.iload_n 3, 1) := by decide +kernel
theorem dX6_tellWhy_32 : decode cX6_tellWhy 32 = .ok (.iconst 1, 1) := by decide +kernel
theorem dX6_tellWhy_33 : decode cX6_tellWhy 33 = .ok (.iadd, 1) := by decide +kernel
theorem dX6_tellWhy_34 : decode cX6_tellWhy 34 = .ok (.putfield 41, 3) := by decide +kernel
theorem dX6_tellWhy_37 : decode cX6_tellWhy 37 = .ok (.aload_n 0, 1) := by decide +kernel
theorem dX6_tellWhy_38 : decode cX6_tellWhy 38 = .ok (.aload_n 0, 1) := by decide +kernel
theorem dX6_tellWhy_39 : decode cX6_tellWhy 39 = .ok (.getfield 19, 3) := by decide +kernel
theorem dX6_tellWhy_42 : decode cX6_tellWhy 42 = .ok (.iload_n 1, 1) := by decide +kernel
theorem dX6_tellWhy_43 : decode cX6_tellWhy 43 = .ok (.iload 4, 2) := by decide +kernel
theorem dX6_tellWhy_45 : decode cX6_tellWhy 45 = .ok (.iload_n 2, 1) := by decide +kernel
theorem dX6_tellWhy_46 : decode cX6_tellWhy 46 = .ok (.iconst 0, 1) := by decide +kernel
theorem dX6_tellWhy_47 : decode cX6_tellWhy 47 = .ok (.invokevirtual 363, 3) := by decide +kernel
theorem dX6_tellWhy_50 : decode cX6_tellWhy 50 = .ok (.putfield 45, 3) := by decide +kernel
theorem dX6_tellWhy_53 : decode cX6_tellWhy 53 = .ok (.aload_n 0, 1) := by decide +kernel
theorem dX6_tellWhy_54 : decode cX6_tellWhy 54 = .ok (.aload_n 0, 1) := by decide +kernel
theorem dX6_tellWhy_55 : decode cX6_tellWhy 55 = .ok (.getfield 19, 3) := by decide +kernel
theorem dX6_tellWhy_58 : decode cX6_tellWhy 58 = .ok (.iload_n 1, 1) := by decide +kernel
theorem dX6_tellWhy_59 : decode cX6_tellWhy 59 = .ok (.iload 4, 2) := by decide +kernel
theorem dX6_tellWhy_61 : decode cX6_tellWhy 61 = .ok (.iload_n 2, 1) := by decide +kernel
theorem dX6_tellWhy_62 : decode cX6_tellWhy 62 = .ok (.aload_n 0, 1) := by decide +kernel
theorem dX6_tellWhy_63 : decode cX6_tellWhy 63 = .ok (.getfield 45, 3) := by decide +kernel
theorem dX6_tellWhy_66 : decode cX6_tellWhy 66 = .ok (.invokevirtual 367, 3) := by decide +kernel
theorem dX6_tellWhy_69 : decode cX6_tellWhy 69 = .ok (.putfield 48, 3) := by decide +kernel
theorem dX6_tellWhy_72 : decode cX6_tellWhy 72 = .ok (.return_, 1) := by decide +kernel
set_option maxRecDepth 20000 in
theorem ggX6_searcher_X5_init : GoodIn wsX6_searcher wsX5_init := goodIn_r _ [6, 7, 8, 9, 10, 11, 12, 13, 14, 15, 16, 17, 18, 19, 20, 21, 22, 23, 24, 25, 26, 27, 28, 29, 30, 31, 32, 33, 34, 35, 61, 62, 63, 64, 65, 66, 67, 68, 69, 70, 71, 72, 73, 49, 50, 51, 52, 53, 54, 55, 56, 57, 58, 59, 60] (by decide +kernel) (by decide +kernel)
set_option maxRecDepth 20000 in
theorem gX6_searcher_X5_init_n375 : GoodIn wsX6_searcher (wsX5_init) := ggX6_searcher_X5_init
theorem dX6_searcher_0 : decode cX6_searcher 0 = .ok (.aload_n 0, 1) := by decide +kernel
theorem dX6_searcher_1 : decode cX6_searcher 1 = .ok (.getfield 371, 3) := by decide +kernel
theorem dX6_searcher_4 : decode cX6_searcher 4 = .ok (.ifnonnull 14, 3) := by decide +kernel
theorem dX6_searcher_7 : decode cX6_searcher 7 = .ok (.aload_n 0, 1) := by decide +kernel
theorem dX6_searcher_8 : decode cX6_searcher 8 = .ok (.new 240, 3) := by decide +kernel
theorem dX6_searcher_11 : decode cX6_searcher 11 = .ok (.dup, 1) := by decide +kernel
theorem dX6_searcher_12 : decode cX6_searcher 12 = .ok (.invokespecial 375, 3) := by decide +kernel
theorem dX6_searcher_15 : decode cX6_searcher 15 = .ok (.putfield 371, 3) := by decide +kernel
theorem dX6_searcher_18 : decode cX6_searcher 18 = .ok (.aload_n 0, 1) := by decide +kernel
theorem dX6_searcher_19 : decode cX6_searcher 19 = .ok (.getfield 371, 3) := by decide +kernel
theorem dX6_searcher_22 : decode cX6_searcher 22 = .ok (.areturn, 1) := by decide +kernel
set_option maxRecDepth 20000 in
theorem ggX6_planToKeep_X4_init : GoodIn wsX6_planToKeep wsX4_init := goodIn_r _ [6, 7, 8, 9, 10, 11, 25, 26] (by decide +kernel) (by decide +kernel)
set_option maxRecDepth 20000 in
theorem gX6_planToKeep_X4_init_n376 : GoodIn wsX6_planToKeep (wsX4_init) := ggX6_planToKeep_X4_init
theorem dX6_planToKeep_0 : decode cX6_planToKeep 0 = .ok (.aload_n 0, 1) := by decide +kernel
theorem dX6_planToKeep_1 : decode cX6_planToKeep 1 = .ok (.getfield 245, 3) := by decide +kernel
theorem dX6_planToKeep_4 : decode cX6_planToKeep 4 = .ok (.ifnonnull 14, 3) := by decide +kernel
theorem dX6_planToKeep_7 : decode cX6_planToKeep 7 = .ok (.aload_n 0, 1) := by decide +kernel
theorem dX6_planToKeep_8 : decode cX6_planToKeep 8 = .ok (.new 250, 3) := by decide +kernel
theorem dX6_planToKeep_11 : decode cX6_planToKeep 11 = .ok (.dup, 1) := by decide +kernel
theorem dX6_planToKeep_12 : decode cX6_planToKeep 12 = .ok (.invokespecial 376, 3) := by decide +kernel
theorem dX6_planToKeep_15 : decode cX6_planToKeep 15 = .ok (.putfield 245, 3) := by decide +kernel
theorem dX6_planToKeep_18 : decode cX6_planToKeep 18 = .ok (.aload_n 0, 1) := by decide +kernel
theorem dX6_planToKeep_19 : decode cX6_planToKeep 19 = .ok (.getfield 245, 3) := by decide +kernel
theorem dX6_planToKeep_22 : decode cX6_planToKeep 22 = .ok (.areturn, 1) := by decide +kernel
set_option maxRecDepth 20000 in
theorem ggX6_staysAsHard_X6_searcher : GoodIn wsX6_staysAsHard wsX6_searcher := goodIn_r _ [6, 7, 8, 9, 10, 11, 12, 13, 14, 15, 16, 17, 18, 19, 20, 21, 22, 23, 24, 25, 26, 27, 28, 29, 30, 31, 32, 33, 34, 35, 36, 37, 38, 39, 40, 41, 173, 174, 175, 176, 177, 178, 179, 180, 181, 182, 183, 184, 185, 186, 187, 188, 189, 190, 191, 192, 193, 194, 195, 196, 197, 198, 199, 200, 201, 202, 203, 204, 205, 206, 207, 208, 209, 210] (by decide +kernel) (by decide +kernel)
set_option maxRecDepth 20000 in
theorem gX6_staysAsHard_X6_searcher : GoodIn wsX6_staysAsHard (wsV RX6 231 RX6 yX6_searcher wsX6_searcher) := goodIn_app (goodIn_of _ (by decide +kernel)) ggX6_staysAsHard_X6_searcher
set_option maxRecDepth 20000 in
theorem ggX6_staysAsHard_X5_explore : GoodIn wsX6_staysAsHard wsX5_explore := goodIn_r _ [45, 19, 46, 47, 26, 48, 49, 50, 10, 51, 24, 25, 52, 53, 54, 18, 55, 56, 57, 58, 59, 60, 61, 62, 63, 64, 33, 34, 35, 36, 38, 39, 40, 41, 65, 66, 67, 68, 69, 70, 71, 72, 73, 74, 75, 76, 77, 78, 79, 80, 21, 22, 81, 82, 83, 84, 85, 86, 87, 88, 89, 90, 91, 92, 93, 94, 95, 96, 97, 98, 99, 100, 101, 102, 103, 104, 105, 106, 107, 108, 109, 110, 111, 112, 113, 114, 5, 115, 116, 117, 118, 119, 120, 121, 122, 123, 124, 125, 126, 127, 128, 129, 130, 131, 132, 133, 134, 135, 136, 137, 138, 139, 186, 187, 188, 189, 190, 191, 192, 193, 194, 195, 196, 197, 198, 199, 200, 201, 202, 203, 204, 205, 206, 207, 208, 209, 210] (by decide +kernel) (by decide +kernel)
set_option maxRecDepth 20000 in
theorem gX6_staysAsHard_X5_explore : GoodIn wsX6_staysAsHard (wsV RX6 266 RX5 yX5_explore wsX5_explore) := goodIn_app (goodIn_of _ (by decide +kernel)) ggX6_staysAsHard_X5_explore
set_option maxRecDepth 20000 in
theorem ggX6_staysAsHard_X5_measure : GoodIn wsX6_staysAsHard wsX5_measure := goodIn_r _ [143, 144, 46, 19, 27, 28, 26, 95, 96, 97, 10, 98, 99, 69, 21, 22, 70, 100, 101, 102, 103, 18, 104, 41, 34, 145, 146, 147, 148, 58, 149, 150, 151, 152, 33, 36, 153, 154, 155, 156, 87, 88, 89, 90, 91, 92, 93, 94, 105, 106, 107, 108, 109, 110, 111, 112, 38, 39, 40, 59, 60, 113, 114, 5, 115, 116, 117, 118, 119, 56, 57, 120, 121, 122, 123, 124, 125, 157, 158, 159, 160, 24, 126, 127, 128, 129, 130, 131, 132, 133, 134, 135, 71, 72, 73, 136, 137, 138, 139, 74, 75, 76, 81, 82, 83, 84, 85, 86, 186, 187, 188, 189, 190, 191, 192, 193, 194, 195, 196, 197, 198, 199, 200, 201, 202, 203, 204, 205, 206, 207, 208, 209, 210] (by decide +kernel) (by decide +kernel)
set_option maxRecDepth 20000 in
theorem gX6_staysAsHard_X5_measure : GoodIn wsX6_staysAsHard (wsV RX6 343 RX5 yX5_measure wsX5_measure) := goodIn_app (goodIn_of _ (by decide +kernel)) ggX6_staysAsHard_X5_measure
set_option maxRecDepth 20000 in
theorem ggX6_staysAsHard_X5_farthest : GoodIn wsX6_staysAsHard wsX5_farthest := goodIn_r _ [164, 165, 166, 167, 10, 168, 46, 27, 169, 170, 171, 172, 186, 187, 188, 189, 190, 191, 192, 193, 194, 195, 196, 197] (by decide +kernel) (by decide +kernel)
set_option maxRecDepth 20000 in
theorem gX6_staysAsHard_X5_farthest : GoodIn wsX6_staysAsHard (wsV RX6 273 RX5 yX5_farthest wsX5_farthest) := goodIn_app (goodIn_of _ (by decide +kernel)) ggX6_staysAsHard_X5_farthest
theorem dX6_staysAsHard_0 : decode cX6_staysAsHard 0 = .ok (.aload_n 0, 1) := by decide +kernel
theorem dX6_staysAsHard_1 : decode cX6_staysAsHard 1 = .ok (.invokevirtual 231, 3) := by decide +kernel
theorem dX6_staysAsHard_4 : decode cX6_staysAsHard 4 = .ok (.astore_n 2, 1) := by decide +kernel
theorem dX6_staysAsHard_5 : decode cX6_staysAsHard 5 = .ok (.aload_n 2, 1) := by decide +kernel
theorem dX6_staysAsHard_6 : decode cX6_staysAsHard 6 = .ok (.aload_n 0, 1) := by decide +kernel
theorem dX6_staysAsHard_7 : decode cX6_staysAsHard 7 = .ok (.getfield 23, 3) := by decide +kernel
theorem dX6_staysAsHard_10 : decode cX6_staysAsHard 10 = .ok (.invokevirtual 266, 3) := by decide +kernel
theorem dX6_staysAsHard_13 : decode cX6_staysAsHard 13 = .ok (.ifCond .ne 5, 3) := by decide +kernel
theorem dX6_staysAsHard_16 : decode cX6_staysAsHard 16 = .ok (.iconst 0, 1) := by decide +kernel
theorem dX6_staysAsHard_17 : decode cX6_staysAsHard 17 = .ok (.ireturn, 1) := by decide +kernel
theorem dX6_staysAsHard_18 : decode cX6_staysAsHard 18 = .ok (.aload_n 2, 1) := by decide +kernel
theorem dX6_staysAsHard_19 : decode cX6_staysAsHard 19 = .ok (.iconst 0, 1) := by decide +kernel
theorem dX6_staysAsHard_20 : decode cX6_staysAsHard 20 = .ok (.invokevirtual 343, 3) := by decide +kernel
theorem dX6_staysAsHard_23 : decode cX6_staysAsHard 23 = .ok (.aload_n 2, 1) := by decide +kernel
theorem dX6_staysAsHard_24 : decode cX6_staysAsHard 24 = .ok (.invokevirtual 273, 3) := by decide +kernel
theorem dX6_staysAsHard_27 : decode cX6_staysAsHard 27 = .ok (.iload_n 1, 1) := by decide +kernel
theorem dX6_staysAsHard_28 : decode cX6_staysAsHard 28 = .ok (.if_icmp .lt 7, 3) := by decide +kernel
theorem dX6_staysAsHard_31 : decode cX6_staysAsHard 31 = .ok (.iconst 1, 1) := by decide +kernel
theorem dX6_staysAsHard_32 : decode cX6_staysAsHard 32 = .ok (.goto 4, 3) := by decide +kernel
theorem dX6_staysAsHard_35 : decode cX6_staysAsHard 35 = .ok (.iconst 0, 1) := by decide +kernel
theorem dX6_staysAsHard_36 : decode cX6_staysAsHard 36 = .ok (.ireturn, 1) := by decide +kernel
theorem dJ13_bitCount_95d88_0 : decode cJ13_bitCount_95d88 0 = .ok (.lload_n 0, 1) := by decide +kernel
theorem dJ13_bitCount_95d88_1 : decode cJ13_bitCount_95d88 1 = .ok (.lload_n 0, 1) := by decide +kernel
theorem dJ13_bitCount_95d88_2 : decode cJ13_bitCount_95d88 2 = .ok (.iconst 1, 1) := by decide +kernel
theorem dJ13_bitCount_95d88_3 : decode cJ13_bitCount_95d88 3 = .ok (.lushr, 1) := by decide +kernel
theorem dJ13_bitCount_95d88_4 : decode cJ13_bitCount_95d88 4 = .ok (.ldc2_w 314, 3) := by decide +kernel
theorem dJ13_bitCount_95d88_7 : decode cJ13_bitCount_95d88 7 = .ok (.land, 1) := by decide +kernel
theorem dJ13_bitCount_95d88_8 : decode cJ13_bitCount_95d88 8 = .ok (.lsub, 1) := by decide +kernel
theorem dJ13_bitCount_95d88_9 : decode cJ13_bitCount_95d88 9 = .ok (.lstore_n 0, 1) := by decide +kernel
theorem dJ13_bitCount_95d88_10 : decode cJ13_bitCount_95d88 10 = .ok (.lload_n 0, 1) := by decide +kernel
theorem dJ13_bitCount_95d88_11 : decode cJ13_bitCount_95d88 11 = .ok (.ldc2_w 316, 3) := by decide +kernel
theorem dJ13_bitCount_95d88_14 : decode cJ13_bitCount_95d88 14 = .ok (.land, 1) := by decide +kernel
theorem dJ13_bitCount_95d88_15 : decode cJ13_bitCount_95d88 15 = .ok (.lload_n 0, 1) := by decide +kernel
theorem dJ13_bitCount_95d88_16 : decode cJ13_bitCount_95d88 16 = .ok (.iconst 2, 1) := by decide +kernel
theorem dJ13_bitCount_95d88_17 : decode cJ13_bitCount_95d88 17 = .ok (.lushr, 1) := by decide +kernel
theorem dJ13_bitCount_95d88_18 : decode cJ13_bitCount_95d88 18 = .ok (.ldc2_w 316, 3) := by decide +kernel
theorem dJ13_bitCount_95d88_21 : decode cJ13_bitCount_95d88 21 = .ok (.land, 1) := by decide +kernel
theorem dJ13_bitCount_95d88_22 : decode cJ13_bitCount_95d88 22 = .ok (.ladd, 1) := by decide +kernel
theorem dJ13_bitCount_95d88_23 : decode cJ13_bitCount_95d88 23 = .ok (.lstore_n 0, 1) := by decide +kernel
theorem dJ13_bitCount_95d88_24 : decode cJ13_bitCount_95d88 24 = .ok (.lload_n 0, 1) := by decide +kernel
theorem dJ13_bitCount_95d88_25 : decode cJ13_bitCount_95d88 25 = .ok (.lload_n 0, 1) := by decide +kernel
theorem dJ13_bitCount_95d88_26 : decode cJ13_bitCount_95d88 26 = .ok (.iconst 4, 1) := by decide +kernel
theorem dJ13_bitCount_95d88_27 : decode cJ13_bitCount_95d88 27 = .ok (.lushr, 1) := by decide +kernel
theorem dJ13_bitCount_95d88_28 : decode cJ13_bitCount_95d88 28 = .ok (.ladd, 1) := by decide +kernel
theorem dJ13_bitCount_95d88_29 : decode cJ13_bitCount_95d88 29 = .ok (.ldc2_w 318, 3) := by decide +kernel
theorem dJ13_bitCount_95d88_32 : decode cJ13_bitCount_95d88 32 = .ok (.land, 1) := by decide +kernel
theorem dJ13_bitCount_95d88_33 : decode cJ13_bitCount_95d88 33 = .ok (.lstore_n 0, 1) := by decide +kernel
theorem dJ13_bitCount_95d88_34 : decode cJ13_bitCount_95d88 34 = .ok (.lload_n 0, 1) := by decide +kernel
theorem dJ13_bitCount_95d88_35 : decode cJ13_bitCount_95d88 35 = .ok (.lload_n 0, 1) := by decide +kernel
theorem dJ13_bitCount_95d88_36 : decode cJ13_bitCount_95d88 36 = .ok (.bipush 8, 2) := by decide +kernel
theorem dJ13_bitCount_95d88_38 : decode cJ13_bitCount_95d88 38 = .ok (.lushr, 1) := by decide +kernel
theorem dJ13_bitCount_95d88_39 : decode cJ13_bitCount_95d88 39 = .ok (.ladd, 1) := by decide +kernel
theorem dJ13_bitCount_95d88_40 : decode cJ13_bitCount_95d88 40 = .ok (.lstore_n 0, 1) := by decide +kernel
theorem dJ13_bitCount_95d88_41 : decode cJ13_bitCount_95d88 41 = .ok (.lload_n 0, 1) := by decide +kernel
theorem dJ13_bitCount_95d88_42 : decode cJ13_bitCount_95d88 42 = .ok (.lload_n 0, 1) := by decide +kernel
theorem dJ13_bitCount_95d88_43 : decode cJ13_bitCount_95d88 43 = .ok (.bipush 16, 2) := by decide +kernel
theorem dJ13_bitCount_95d88_45 : decode cJ13_bitCount_95d88 45 = .ok (.lushr, 1) := by decide +kernel
theorem dJ13_bitCount_95d88_46 : decode cJ13_bitCount_95d88 46 = .ok (.ladd, 1) := by decide +kernel
theorem dJ13_bitCount_95d88_47 : decode cJ13_bitCount_95d88 47 = .ok (.lstore_n 0, 1) := by decide +kernel
theorem dJ13_bitCount_95d88_48 : decode cJ13_bitCount_95d88 48 = .ok (.lload_n 0, 1) := by decide +kernel
theorem dJ13_bitCount_95d88_49 : decode cJ13_bitCount_95d88 49 = .ok (.lload_n 0, 1) := by decide +kernel
theorem dJ13_bitCount_95d88_50 : decode cJ13_bitCount_95d88 50 = .ok (.bipush 32, 2) := by decide +kernel
theorem dJ13_bitCount_95d88_52 : decode cJ13_bitCount_95d88 52 = .ok (.lushr, 1) := by decide +kernel
theorem dJ13_bitCount_95d88_53 : decode cJ13_bitCount_95d88 53 = .ok (.ladd, 1) := by decide +kernel
theorem dJ13_bitCount_95d88_54 : decode cJ13_bitCount_95d88 54 = .ok (.lstore_n 0, 1) := by decide +kernel
theorem dJ13_bitCount_95d88_55 : decode cJ13_bitCount_95d88 55 = .ok (.lload_n 0, 1) := by decide +kernel
theorem dJ13_bitCount_95d88_56 : decode cJ13_bitCount_95d88 56 = .ok (.l2i, 1) := by decide +kernel
theorem dJ13_bitCount_95d88_57 : decode cJ13_bitCount_95d88 57 = .ok (.bipush 127, 2) := by decide +kernel
theorem dJ13_bitCount_95d88_59 : decode cJ13_bitCount_95d88 59 = .ok (.iand, 1) := by decide +kernel
theorem dJ13_bitCount_95d88_60 : decode cJ13_bitCount_95d88 60 = .ok (.ireturn, 1) := by decide +kernel
theorem dJ9_max_7cf53_0 : decode cJ9_max_7cf53 0 = .ok (.iload_n 0, 1) := by decide +kernel
theorem dJ9_max_7cf53_1 : decode cJ9_max_7cf53 1 = .ok (.iload_n 1, 1) := by decide +kernel
theorem dJ9_max_7cf53_2 : decode cJ9_max_7cf53 2 = .ok (.if_icmp .lt 7, 3) := by decide +kernel
theorem dJ9_max_7cf53_5 : decode cJ9_max_7cf53 5 = .ok (.iload_n 0, 1) := by decide +kernel
theorem dJ9_max_7cf53_6 : decode cJ9_max_7cf53 6 = .ok (.goto 4, 3) := by decide +kernel
theorem dJ9_max_7cf53_9 : decode cJ9_max_7cf53 9 = .ok (.iload_n 1, 1) := by decide +kernel
theorem dJ9_max_7cf53_10 : decode cJ9_max_7cf53 10 = .ok (.ireturn, 1) := by decide +kernel
theorem dJ9_min_7cf53_0 : decode cJ9_min_7cf53 0 = .ok (.iload_n 0, 1) := by decide +kernel
theorem dJ9_min_7cf53_1 : decode cJ9_min_7cf53 1 = .ok (.iload_n 1, 1) := by decide +kernel
theorem dJ9_min_7cf53_2 : decode cJ9_min_7cf53 2 = .ok (.if_icmp .gt 7, 3) := by decide +kernel
theorem dJ9_min_7cf53_5 : decode cJ9_min_7cf53 5 = .ok (.iload_n 0, 1) := by decide +kernel
theorem dJ9_min_7cf53_6 : decode cJ9_min_7cf53 6 = .ok (.goto 4, 3) := by decide +kernel
theorem dJ9_min_7cf53_9 : decode cJ9_min_7cf53 9 = .ok (.iload_n 1, 1) := by decide +kernel
theorem dJ9_min_7cf53_10 : decode cJ9_min_7cf53 10 = .ok (.ireturn, 1) := by decide +kernel
