theorem dX0_init_0 : decode cX0_init 0 = .ok (.aload_n 0, 1) := by decide +kernel
theorem dX0_init_1 : decode cX0_init 1 = .ok (.invokespecial 3, 3) := by decide +kernel
theorem dX0_init_4 : decode cX0_init 4 = .ok (.aload_n 0, 1) := by decide +kernel
theorem dX0_init_5 : decode cX0_init 5 = .ok (.bipush 12, 2) := by decide +kernel
theorem dX0_init_7 : decode cX0_init 7 = .ok (.newarray .int, 2) := by decide +kernel
theorem dX0_init_9 : decode cX0_init 9 = .ok (.putfield 9, 3) := by decide +kernel
theorem dX0_init_12 : decode cX0_init 12 = .ok (.aload_n 0, 1) := by decide +kernel
theorem dX0_init_13 : decode cX0_init 13 = .ok (.bipush 12, 2) := by decide +kernel
theorem dX0_init_15 : decode cX0_init 15 = .ok (.newarray .int, 2) := by decide +kernel
theorem dX0_init_17 : decode cX0_init 17 = .ok (.putfield 15, 3) := by decide +kernel
theorem dX0_init_20 : decode cX0_init 20 = .ok (.aload_n 0, 1) := by decide +kernel
theorem dX0_init_21 : decode cX0_init 21 = .ok (.bipush 12, 2) := by decide +kernel
theorem dX0_init_23 : decode cX0_init 23 = .ok (.newarray .int, 2) := by decide +kernel
theorem dX0_init_25 : decode cX0_init 25 = .ok (.putfield 18, 3) := by decide +kernel
theorem dX0_init_28 : decode cX0_init 28 = .ok (.aload_n 0, 1) := by decide +kernel
theorem dX0_init_29 : decode cX0_init 29 = .ok (.bipush 12, 2) := by decide +kernel
theorem dX0_init_31 : decode cX0_init 31 = .ok (.newarray .int, 2) := by decide +kernel
theorem dX0_init_33 : decode cX0_init 33 = .ok (.putfield 21, 3) := by decide +kernel
theorem dX0_init_36 : decode cX0_init 36 = .ok (.aload_n 0, 1) := by decide +kernel
theorem dX0_init_37 : decode cX0_init 37 = .ok (.bipush 12, 2) := by decide +kernel
theorem dX0_init_39 : decode cX0_init 39 = .ok (.newarray .boolean, 2) := by decide +kernel
theorem dX0_init_41 : decode cX0_init 41 = .ok (.putfield 24, 3) := by decide +kernel
theorem dX0_init_44 : decode cX0_init 44 = .ok (.aload_n 0, 1) := by decide +kernel
theorem dX0_init_45 : decode cX0_init 45 = .ok (.bipush 12, 2) := by decide +kernel
theorem dX0_init_47 : decode cX0_init 47 = .ok (.newarray .int, 2) := by decide +kernel
theorem dX0_init_49 : decode cX0_init 49 = .ok (.putfield 28, 3) := by decide +kernel
theorem dX0_init_52 : decode cX0_init 52 = .ok (.aload_n 0, 1) := by decide +kernel
theorem dX0_init_53 : decode cX0_init 53 = .ok (.bipush 12, 2) := by decide +kernel
theorem dX0_init_55 : decode cX0_init 55 = .ok (.newarray .int, 2) := by decide +kernel
theorem dX0_init_57 : decode cX0_init 57 = .ok (.putfield 31, 3) := by decide +kernel
theorem dX0_init_60 : decode cX0_init 60 = .ok (.aload_n 0, 1) := by decide +kernel
theorem dX0_init_61 : decode cX0_init 61 = .ok (.bipush 12, 2) := by decide +kernel
theorem dX0_init_63 : decode cX0_init 63 = .ok (.newarray .long, 2) := by decide +kernel
theorem dX0_init_65 : decode cX0_init 65 = .ok (.putfield 34, 3) := by decide +kernel
theorem dX0_init_68 : decode cX0_init 68 = .ok (.return_, 1) := by decide +kernel
set_option maxRecDepth 20000 in
theorem mc_X0_empty_X00 : mjIn wsX0_empty wsX00 := fun w h => (List.mem_cons_of_mem _ (List.mem_append_right _ h))
set_option maxRecDepth 20000 in
theorem ggX0_empty_X0_dropAll : GoodIn wsX0_empty wsX0_dropAll := mj_good (mj_cons (List.mem_of_getElem? (i := 8) rfl) (mj_app (mj_cons (List.mem_of_getElem? (i := 9) rfl) (mj_cons (List.mem_of_getElem? (i := 10) rfl) mj_nil)) mc_X0_empty_X00)) (by decide +kernel)
set_option maxRecDepth 20000 in
theorem gX0_empty_X0_dropAll : GoodIn wsX0_empty (wsV RX0 49 RX0 yX0_dropAll wsX0_dropAll) := goodIn_app (mj_good (mj_cons (List.mem_of_getElem? (i := 4) rfl) (mj_cons (List.mem_of_getElem? (i := 5) rfl) (mj_cons (List.mem_of_getElem? (i := 6) rfl) (mj_cons (List.mem_of_getElem? (i := 7) rfl) mj_nil)))) (by decide +kernel)) ggX0_empty_X0_dropAll
theorem dX0_empty_0 : decode cX0_empty 0 = .ok (.aload_n 0, 1) := by decide +kernel
theorem dX0_empty_1 : decode cX0_empty 1 = .ok (.iload_n 1, 1) := by decide +kernel
theorem dX0_empty_2 : decode cX0_empty 2 = .ok (.putfield 38, 3) := by decide +kernel
theorem dX0_empty_5 : decode cX0_empty 5 = .ok (.aload_n 0, 1) := by decide +kernel
theorem dX0_empty_6 : decode cX0_empty 6 = .ok (.iload_n 2, 1) := by decide +kernel
theorem dX0_empty_7 : decode cX0_empty 7 = .ok (.putfield 42, 3) := by decide +kernel
theorem dX0_empty_10 : decode cX0_empty 10 = .ok (.aload_n 0, 1) := by decide +kernel
theorem dX0_empty_11 : decode cX0_empty 11 = .ok (.lconst 0, 1) := by decide +kernel
theorem dX0_empty_12 : decode cX0_empty 12 = .ok (.putfield 45, 3) := by decide +kernel
theorem dX0_empty_15 : decode cX0_empty 15 = .ok (.aload_n 0, 1) := by decide +kernel
theorem dX0_empty_16 : decode cX0_empty 16 = .ok (.invokevirtual 49, 3) := by decide +kernel
theorem dX0_empty_19 : decode cX0_empty 19 = .ok (.return_, 1) := by decide +kernel
theorem dX0_dropAll_0 : decode cX0_dropAll 0 = .ok (.aload_n 0, 1) := by decide +kernel
theorem dX0_dropAll_1 : decode cX0_dropAll 1 = .ok (.iconst 0, 1) := by decide +kernel
theorem dX0_dropAll_2 : decode cX0_dropAll 2 = .ok (.putfield 52, 3) := by decide +kernel
theorem dX0_dropAll_5 : decode cX0_dropAll 5 = .ok (.aload_n 0, 1) := by decide +kernel
theorem dX0_dropAll_6 : decode cX0_dropAll 6 = .ok (.lconst 0, 1) := by decide +kernel
theorem dX0_dropAll_7 : decode cX0_dropAll 7 = .ok (.putfield 55, 3) := by decide +kernel
theorem dX0_dropAll_10 : decode cX0_dropAll 10 = .ok (.return_, 1) := by decide +kernel
set_option maxRecDepth 20000 in
theorem mc_X0_copyFrom_X00 : mjIn wsX0_copyFrom wsX00 := fun w h => (List.mem_cons_of_mem _ (List.mem_append_right _ h))
set_option maxRecDepth 20000 in
theorem ggX0_copyFrom_X0_copyBarge : GoodIn wsX0_copyFrom wsX0_copyBarge := mj_good (mj_cons (List.mem_of_getElem? (i := 10) rfl) (mj_app (mj_cons (List.mem_of_getElem? (i := 11) rfl) (mj_cons (List.mem_of_getElem? (i := 12) rfl) (mj_cons (List.mem_of_getElem? (i := 13) rfl) (mj_cons (List.mem_of_getElem? (i := 14) rfl) (mj_cons (List.mem_of_getElem? (i := 15) rfl) (mj_cons (List.mem_of_getElem? (i := 16) rfl) (mj_cons (List.mem_of_getElem? (i := 17) rfl) (mj_cons (List.mem_of_getElem? (i := 18) rfl) mj_nil)))))))) mc_X0_copyFrom_X00)) (by decide +kernel)
set_option maxRecDepth 20000 in
theorem gX0_copyFrom_X0_copyBarge : GoodIn wsX0_copyFrom (wsV RX0 58 RX0 yX0_copyBarge wsX0_copyBarge) := goodIn_app (mj_good (mj_cons (List.mem_of_getElem? (i := 6) rfl) (mj_cons (List.mem_of_getElem? (i := 7) rfl) (mj_cons (List.mem_of_getElem? (i := 8) rfl) (mj_cons (List.mem_of_getElem? (i := 9) rfl) mj_nil)))) (by decide +kernel)) ggX0_copyFrom_X0_copyBarge
theorem dX0_copyFrom_0 : decode cX0_copyFrom 0 = .ok (.aload_n 0, 1) := by decide +kernel
theorem dX0_copyFrom_1 : decode cX0_copyFrom 1 = .ok (.aload_n 1, 1) := by decide +kernel
theorem dX0_copyFrom_2 : decode cX0_copyFrom 2 = .ok (.getfield 38, 3) := by decide +kernel
theorem dX0_copyFrom_5 : decode cX0_copyFrom 5 = .ok (.putfield 38, 3) := by decide +kernel
theorem dX0_copyFrom_8 : decode cX0_copyFrom 8 = .ok (.aload_n 0, 1) := by decide +kernel
theorem dX0_copyFrom_9 : decode cX0_copyFrom 9 = .ok (.aload_n 1, 1) := by decide +kernel
theorem dX0_copyFrom_10 : decode cX0_copyFrom 10 = .ok (.getfield 42, 3) := by decide +kernel
theorem dX0_copyFrom_13 : decode cX0_copyFrom 13 = .ok (.putfield 42, 3) := by decide +kernel
theorem dX0_copyFrom_16 : decode cX0_copyFrom 16 = .ok (.aload_n 0, 1) := by decide +kernel
theorem dX0_copyFrom_17 : decode cX0_copyFrom 17 = .ok (.aload_n 1, 1) := by decide +kernel
theorem dX0_copyFrom_18 : decode cX0_copyFrom 18 = .ok (.getfield 52, 3) := by decide +kernel
theorem dX0_copyFrom_21 : decode cX0_copyFrom 21 = .ok (.putfield 52, 3) := by decide +kernel
theorem dX0_copyFrom_24 : decode cX0_copyFrom 24 = .ok (.aload_n 0, 1) := by decide +kernel
theorem dX0_copyFrom_25 : decode cX0_copyFrom 25 = .ok (.aload_n 1, 1) := by decide +kernel
theorem dX0_copyFrom_26 : decode cX0_copyFrom 26 = .ok (.getfield 45, 3) := by decide +kernel
theorem dX0_copyFrom_29 : decode cX0_copyFrom 29 = .ok (.putfield 45, 3) := by decide +kernel
theorem dX0_copyFrom_32 : decode cX0_copyFrom 32 = .ok (.aload_n 0, 1) := by decide +kernel
theorem dX0_copyFrom_33 : decode cX0_copyFrom 33 = .ok (.aload_n 1, 1) := by decide +kernel
theorem dX0_copyFrom_34 : decode cX0_copyFrom 34 = .ok (.getfield 55, 3) := by decide +kernel
theorem dX0_copyFrom_37 : decode cX0_copyFrom 37 = .ok (.putfield 55, 3) := by decide +kernel
theorem dX0_copyFrom_40 : decode cX0_copyFrom 40 = .ok (.iconst 0, 1) := by decide +kernel
theorem dX0_copyFrom_41 : decode cX0_copyFrom 41 = .ok (.istore_n 2, 1) := by decide +kernel
theorem dX0_copyFrom_42 : decode cX0_copyFrom 42 = .ok (.iload_n 2, 1) := by decide +kernel
theorem dX0_copyFrom_43 : decode cX0_copyFrom 43 = .ok (.aload_n 0, 1) := by decide +kernel
theorem dX0_copyFrom_44 : decode cX0_copyFrom 44 = .ok (.getfield 52, 3) := by decide +kernel
theorem dX0_copyFrom_47 : decode cX0_copyFrom 47 = .ok (.if_icmp .ge 16, 3) := by decide +kernel
theorem dX0_copyFrom_50 : decode cX0_copyFrom 50 = .ok (.aload_n 0, 1) := by decide +kernel
theorem dX0_copyFrom_51 : decode cX0_copyFrom 51 = .ok (.aload_n 1, 1) := by decide +kernel
theorem dX0_copyFrom_52 : decode cX0_copyFrom 52 = .ok (.iload_n 2, 1) := by decide +kernel
theorem dX0_copyFrom_53 : decode cX0_copyFrom 53 = .ok (.iload_n 2, 1) := by decide +kernel
theorem dX0_copyFrom_54 : decode cX0_copyFrom 54 = .ok (.invokevirtual 58, 3) := by decide +kernel
theorem dX0_copyFrom_57 : decode cX0_copyFrom 57 = .ok (.iinc 2 1, 3) := by decide +kernel
theorem dX0_copyFrom_60 : decode cX0_copyFrom 60 = .ok (.goto (-18), 3) := by decide +kernel
theorem dX0_copyFrom_63 : decode cX0_copyFrom 63 = .ok (.return_, 1) := by decide +kernel
theorem dX0_copyBarge_0 : decode cX0_copyBarge 0 = .ok (.aload_n 0, 1) := by decide +kernel
theorem dX0_copyBarge_1 : decode cX0_copyBarge 1 = .ok (.getfield 9, 3) := by decide +kernel
theorem dX0_copyBarge_4 : decode cX0_copyBarge 4 = .ok (.iload_n 3, 1) := by decide +kernel
theorem dX0_copyBarge_5 : decode cX0_copyBarge 5 = .ok (.aload_n 1, 1) := by decide +kernel
theorem dX0_copyBarge_6 : decode cX0_copyBarge 6 = .ok (.getfield 9, 3) := by decide +kernel
theorem dX0_copyBarge_9 : decode cX0_copyBarge 9 = .ok (.iload_n 2, 1) := by decide +kernel
theorem dX0_copyBarge_10 : decode cX0_copyBarge 10 = .ok (.iaload, 1) := by decide +kernel
theorem dX0_copyBarge_11 : decode cX0_copyBarge 11 = .ok (.iastore, 1) := by decide +kernel
theorem dX0_copyBarge_12 : decode cX0_copyBarge 12 = .ok (.aload_n 0, 1) := by decide +kernel
theorem dX0_copyBarge_13 : decode cX0_copyBarge 13 = .ok (.getfield 15, 3) := by decide +kernel
theorem dX0_copyBarge_16 : decode cX0_copyBarge 16 = .ok (.iload_n 3, 1) := by decide +kernel
theorem dX0_copyBarge_17 : decode cX0_copyBarge 17 = .ok (.aload_n 1, 1) := by decide +kernel
theorem dX0_copyBarge_18 : decode cX0_copyBarge 18 = .ok (.getfield 15, 3) := by decide +kernel
theorem dX0_copyBarge_21 : decode cX0_copyBarge 21 = .ok (.iload_n 2, 1) := by decide +kernel
theorem dX0_copyBarge_22 : decode cX0_copyBarge 22 = .ok (.iaload, 1) := by decide +kernel
theorem dX0_copyBarge_23 : decode cX0_copyBarge 23 = .ok (.iastore, 1) := by decide +kernel
theorem dX0_copyBarge_24 : decode cX0_copyBarge 24 = .ok (.aload_n 0, 1) := by decide +kernel
theorem dX0_copyBarge_25 : decode cX0_copyBarge 25 = .ok (.getfield 18, 3) := by decide +kernel
theorem dX0_copyBarge_28 : decode cX0_copyBarge 28 = .ok (.iload_n 3, 1) := by decide +kernel
theorem dX0_copyBarge_29 : decode cX0_copyBarge 29 = .ok (.aload_n 1, 1) := by decide +kernel
theorem dX0_copyBarge_30 : decode cX0_copyBarge 30 = .ok (.getfield 18, 3) := by decide +kernel
theorem dX0_copyBarge_33 : decode cX0_copyBarge 33 = .ok (.iload_n 2, 1) := by decide +kernel
theorem dX0_copyBarge_34 : decode cX0_copyBarge 34 = .ok (.iaload, 1) := by decide +kernel
theorem dX0_copyBarge_35 : decode cX0_copyBarge 35 = .ok (.iastore, 1) := by decide +kernel
theorem dX0_copyBarge_36 : decode cX0_copyBarge 36 = .ok (.aload_n 0, 1) := by decide +kernel
theorem dX0_copyBarge_37 : decode cX0_copyBarge 37 = .ok (.getfield 21, 3) := by decide +kernel
theorem dX0_copyBarge_40 : decode cX0_copyBarge 40 = .ok (.iload_n 3, 1) := by decide +kernel
theorem dX0_copyBarge_41 : decode cX0_copyBarge 41 = .ok (.aload_n 1, 1) := by decide +kernel
theorem dX0_copyBarge_42 : decode cX0_copyBarge 42 = .ok (.getfield 21, 3) := by decide +kernel
theorem dX0_copyBarge_45 : decode cX0_copyBarge 45 = .ok (.iload_n 2, 1) := by decide +kernel
theorem dX0_copyBarge_46 : decode cX0_copyBarge 46 = .ok (.iaload, 1) := by decide +kernel
theorem dX0_copyBarge_47 : decode cX0_copyBarge 47 = .ok (.iastore, 1) := by decide +kernel
theorem dX0_copyBarge_48 : decode cX0_copyBarge 48 = .ok (.aload_n 0, 1) := by decide +kernel
theorem dX0_copyBarge_49 : decode cX0_copyBarge 49 = .ok (.getfield 24, 3) := by decide +kernel
theorem dX0_copyBarge_52 : decode cX0_copyBarge 52 = .ok (.iload_n 3, 1) := by decide +kernel
theorem dX0_copyBarge_53 : decode cX0_copyBarge 53 = .ok (.aload_n 1, 1) := by decide +kernel
theorem dX0_copyBarge_54 : decode cX0_copyBarge 54 = .ok (.getfield 24, 3) := by decide +kernel
theorem dX0_copyBarge_57 : decode cX0_copyBarge 57 = .ok (.iload_n 2, 1) := by decide +kernel
theorem dX0_copyBarge_58 : decode cX0_copyBarge 58 = .ok (.baload, 1) := by decide +kernel
theorem dX0_copyBarge_59 : decode cX0_copyBarge 59 = .ok (.bastore, 1) := by decide +kernel
theorem dX0_copyBarge_60 : decode cX0_copyBarge 60 = .ok (.aload_n 0, 1) := by decide +kernel
theorem dX0_copyBarge_61 : decode cX0_copyBarge 61 = .ok (.getfield 28, 3) := by decide +kernel
theorem dX0_copyBarge_64 : decode cX0_copyBarge 64 = .ok (.iload_n 3, 1) := by decide +kernel
theorem dX0_copyBarge_65 : decode cX0_copyBarge 65 = .ok (.aload_n 1, 1) := by decide +kernel
theorem dX0_copyBarge_66 : decode cX0_copyBarge 66 = .ok (.getfield 28, 3) := by decide +kernel
theorem dX0_copyBarge_69 : decode cX0_copyBarge 69 = .ok (.iload_n 2, 1) := by decide +kernel
theorem dX0_copyBarge_70 : decode cX0_copyBarge 70 = .ok (.iaload, 1) := by decide +kernel
theorem dX0_copyBarge_71 : decode cX0_copyBarge 71 = .ok (.iastore, 1) := by decide +kernel
theorem dX0_copyBarge_72 : decode cX0_copyBarge 72 = .ok (.aload_n 0, 1) := by decide +kernel
theorem dX0_copyBarge_73 : decode cX0_copyBarge 73 = .ok (.getfield 31, 3) := by decide +kernel
theorem dX0_copyBarge_76 : decode cX0_copyBarge 76 = .ok (.iload_n 3, 1) := by decide +kernel
theorem dX0_copyBarge_77 : decode cX0_copyBarge 77 = .ok (.aload_n 1, 1) := by decide +kernel
theorem dX0_copyBarge_78 : decode cX0_copyBarge 78 = .ok (.getfield 31, 3) := by decide +kernel
theorem dX0_copyBarge_81 : decode cX0_copyBarge 81 = .ok (.iload_n 2, 1) := by decide +kernel
theorem dX0_copyBarge_82 : decode cX0_copyBarge 82 = .ok (.iaload, 1) := by decide +kernel
theorem dX0_copyBarge_83 : decode cX0_copyBarge 83 = .ok (.iastore, 1) := by decide +kernel
theorem dX0_copyBarge_84 : decode cX0_copyBarge 84 = .ok (.aload_n 0, 1) := by decide +kernel
theorem dX0_copyBarge_85 : decode cX0_copyBarge 85 = .ok (.getfield 34, 3) := by decide +kernel
theorem dX0_copyBarge_88 : decode cX0_copyBarge 88 = .ok (.iload_n 3, 1) := by decide +kernel
theorem dX0_copyBarge_89 : decode cX0_copyBarge 89 = .ok (.aload_n 1, 1) := by decide +kernel
theorem dX0_copyBarge_90 : decode cX0_copyBarge 90 = .ok (.getfield 34, 3) := by decide +kernel
theorem dX0_copyBarge_93 : decode cX0_copyBarge 93 = .ok (.iload_n 2, 1) := by decide +kernel
theorem dX0_copyBarge_94 : decode cX0_copyBarge 94 = .ok (.laload, 1) := by decide +kernel
theorem dX0_copyBarge_95 : decode cX0_copyBarge 95 = .ok (.lastore, 1) := by decide +kernel
theorem dX0_copyBarge_96 : decode cX0_copyBarge 96 = .ok (.return_, 1) := by decide +kernel
theorem dX0_wallRow_0 : decode cX0_wallRow 0 = .ok (.aload_n 0, 1) := by decide +kernel
theorem dX0_wallRow_1 : decode cX0_wallRow 1 = .ok (.aload_n 0, 1) := by decide +kernel
theorem dX0_wallRow_2 : decode cX0_wallRow 2 = .ok (.getfield 45, 3) := by decide +kernel
theorem dX0_wallRow_5 : decode cX0_wallRow 5 = .ok (.ldc2_w 62, 3) := by decide +kernel
theorem dX0_wallRow_8 : decode cX0_wallRow 8 = .ok (.bipush 8, 2) := by decide +kernel
theorem dX0_wallRow_10 : decode cX0_wallRow 10 = .ok (.iload_n 1, 1) := by decide +kernel
theorem dX0_wallRow_11 : decode cX0_wallRow 11 = .ok (.imul, 1) := by decide +kernel
theorem dX0_wallRow_12 : decode cX0_wallRow 12 = .ok (.lshl, 1) := by decide +kernel
theorem dX0_wallRow_13 : decode cX0_wallRow 13 = .ok (.ldc2_w 64, 3) := by decide +kernel
theorem dX0_wallRow_16 : decode cX0_wallRow 16 = .ok (.lxor, 1) := by decide +kernel
theorem dX0_wallRow_17 : decode cX0_wallRow 17 = .ok (.land, 1) := by decide +kernel
theorem dX0_wallRow_18 : decode cX0_wallRow 18 = .ok (.iload_n 2, 1) := by decide +kernel
theorem dX0_wallRow_19 : decode cX0_wallRow 19 = .ok (.i2l, 1) := by decide +kernel
theorem dX0_wallRow_20 : decode cX0_wallRow 20 = .ok (.bipush 8, 2) := by decide +kernel
theorem dX0_wallRow_22 : decode cX0_wallRow 22 = .ok (.iload_n 1, 1) := by decide +kernel
theorem dX0_wallRow_23 : decode cX0_wallRow 23 = .ok (.imul, 1) := by decide +kernel
theorem dX0_wallRow_24 : decode cX0_wallRow 24 = .ok (.lshl, 1) := by decide +kernel
theorem dX0_wallRow_25 : decode cX0_wallRow 25 = .ok (.lor, 1) := by decide +kernel
theorem dX0_wallRow_26 : decode cX0_wallRow 26 = .ok (.putfield 45, 3) := by decide +kernel
theorem dX0_wallRow_29 : decode cX0_wallRow 29 = .ok (.return_, 1) := by decide +kernel
theorem dX0_isWall_0 : decode cX0_isWall 0 = .ok (.aload_n 0, 1) := by decide +kernel
theorem dX0_isWall_1 : decode cX0_isWall 1 = .ok (.getfield 45, 3) := by decide +kernel
theorem dX0_isWall_4 : decode cX0_isWall 4 = .ok (.bipush 8, 2) := by decide +kernel
theorem dX0_isWall_6 : decode cX0_isWall 6 = .ok (.iload_n 2, 1) := by decide +kernel
theorem dX0_isWall_7 : decode cX0_isWall 7 = .ok (.imul, 1) := by decide +kernel
theorem dX0_isWall_8 : decode cX0_isWall 8 = .ok (.iload_n 1, 1) := by decide +kernel
theorem dX0_isWall_9 : decode cX0_isWall 9 = .ok (.iadd, 1) := by decide +kernel
theorem dX0_isWall_10 : decode cX0_isWall 10 = .ok (.lushr, 1) := by decide +kernel
theorem dX0_isWall_11 : decode cX0_isWall 11 = .ok (.lconst 1, 1) := by decide +kernel
theorem dX0_isWall_12 : decode cX0_isWall 12 = .ok (.land, 1) := by decide +kernel
theorem dX0_isWall_13 : decode cX0_isWall 13 = .ok (.lconst 0, 1) := by decide +kernel
theorem dX0_isWall_14 : decode cX0_isWall 14 = .ok (.lcmp, 1) := by decide +kernel
theorem dX0_isWall_15 : decode cX0_isWall 15 = .ok (.ifCond .eq 7, 3) := by decide +kernel
theorem dX0_isWall_18 : decode cX0_isWall 18 = .ok (.iconst 1, 1) := by decide +kernel
theorem dX0_isWall_19 : decode cX0_isWall 19 = .ok (.goto 4, 3) := by decide +kernel
theorem dX0_isWall_22 : decode cX0_isWall 22 = .ok (.iconst 0, 1) := by decide +kernel
theorem dX0_isWall_23 : decode cX0_isWall 23 = .ok (.ireturn, 1) := by decide +kernel
theorem dX0_isTaken_0 : decode cX0_isTaken 0 = .ok (.iload_n 1, 1) := by decide +kernel
theorem dX0_isTaken_1 : decode cX0_isTaken 1 = .ok (.aload_n 0, 1) := by decide +kernel
theorem dX0_isTaken_2 : decode cX0_isTaken 2 = .ok (.getfield 38, 3) := by decide +kernel
theorem dX0_isTaken_5 : decode cX0_isTaken 5 = .ok (.if_icmp .ge 25, 3) := by decide +kernel
theorem dX0_isTaken_8 : decode cX0_isTaken 8 = .ok (.aload_n 0, 1) := by decide +kernel
theorem dX0_isTaken_9 : decode cX0_isTaken 9 = .ok (.getfield 55, 3) := by decide +kernel
theorem dX0_isTaken_12 : decode cX0_isTaken 12 = .ok (.bipush 8, 2) := by decide +kernel
theorem dX0_isTaken_14 : decode cX0_isTaken 14 = .ok (.iload_n 2, 1) := by decide +kernel
theorem dX0_isTaken_15 : decode cX0_isTaken 15 = .ok (.imul, 1) := by decide +kernel
theorem dX0_isTaken_16 : decode cX0_isTaken 16 = .ok (.iload_n 1, 1) := by decide +kernel
theorem dX0_isTaken_17 : decode cX0_isTaken 17 = .ok (.iadd, 1) := by decide +kernel
theorem dX0_isTaken_18 : decode cX0_isTaken 18 = .ok (.lushr, 1) := by decide +kernel
theorem dX0_isTaken_19 : decode cX0_isTaken 19 = .ok (.lconst 1, 1) := by decide +kernel
theorem dX0_isTaken_20 : decode cX0_isTaken 20 = .ok (.land, 1) := by decide +kernel
theorem dX0_isTaken_21 : decode cX0_isTaken 21 = .ok (.lconst 0, 1) := by decide +kernel
theorem dX0_isTaken_22 : decode cX0_isTaken 22 = .ok (.lcmp, 1) := by decide +kernel
theorem dX0_isTaken_23 : decode cX0_isTaken 23 = .ok (.ifCond .eq 7, 3) := by decide +kernel
theorem dX0_isTaken_26 : decode cX0_isTaken 26 = .ok (.iconst 1, 1) := by decide +kernel
theorem dX0_isTaken_27 : decode cX0_isTaken 27 = .ok (.goto 4, 3) := by decide +kernel
theorem dX0_isTaken_30 : decode cX0_isTaken 30 = .ok (.iconst 0, 1) := by decide +kernel
theorem dX0_isTaken_31 : decode cX0_isTaken 31 = .ok (.ireturn, 1) := by decide +kernel
set_option maxRecDepth 20000 in
theorem mc_X0_signAt_X00 : mjIn wsX0_signAt wsX00 := fun w h => (List.mem_cons_of_mem _ (List.mem_append_right _ h))
set_option maxRecDepth 20000 in
theorem ggX0_signAt_X0_isWall : GoodIn wsX0_signAt wsX0_isWall := mj_good (mj_cons (List.mem_of_getElem? (i := 5) rfl) (mj_app (mj_cons (List.mem_of_getElem? (i := 6) rfl) mj_nil) mc_X0_signAt_X00)) (by decide +kernel)
set_option maxRecDepth 20000 in
theorem gX0_signAt_X0_isWall : GoodIn wsX0_signAt (wsV RX0 66 RX0 yX0_isWall wsX0_isWall) := goodIn_app (mj_good (mj_cons (List.mem_of_getElem? (i := 1) rfl) (mj_cons (List.mem_of_getElem? (i := 2) rfl) (mj_cons (List.mem_of_getElem? (i := 3) rfl) (mj_cons (List.mem_of_getElem? (i := 4) rfl) mj_nil)))) (by decide +kernel)) ggX0_signAt_X0_isWall
set_option maxRecDepth 20000 in
theorem ggX0_signAt_X0_firstIn : GoodIn wsX0_signAt wsX0_firstIn := mj_good (mj_cons (List.mem_of_getElem? (i := 10) rfl) (mj_app (mj_cons (List.mem_of_getElem? (i := 11) rfl) (mj_cons (List.mem_of_getElem? (i := 12) rfl) (mj_cons (List.mem_of_getElem? (i := 13) rfl) (mj_cons (List.mem_of_getElem? (i := 14) rfl) (mj_cons (List.mem_of_getElem? (i := 4) rfl) (mj_cons (List.mem_of_getElem? (i := 15) rfl) (mj_cons (List.mem_of_getElem? (i := 16) rfl) (mj_cons (List.mem_of_getElem? (i := 17) rfl) mj_nil)))))))) mc_X0_signAt_X00)) (by decide +kernel)
set_option maxRecDepth 20000 in
theorem gX0_signAt_X0_firstIn : GoodIn wsX0_signAt (wsV RX0 70 RX0 yX0_firstIn wsX0_firstIn) := goodIn_app (mj_good (mj_cons (List.mem_of_getElem? (i := 7) rfl) (mj_cons (List.mem_of_getElem? (i := 8) rfl) (mj_cons (List.mem_of_getElem? (i := 9) rfl) (mj_cons (List.mem_of_getElem? (i := 4) rfl) mj_nil)))) (by decide +kernel)) ggX0_signAt_X0_firstIn
theorem dX0_signAt_0 : decode cX0_signAt 0 = .ok (.aload_n 0, 1) := by decide +kernel
theorem dX0_signAt_1 : decode cX0_signAt 1 = .ok (.iload_n 1, 1) := by decide +kernel
theorem dX0_signAt_2 : decode cX0_signAt 2 = .ok (.iload_n 2, 1) := by decide +kernel
theorem dX0_signAt_3 : decode cX0_signAt 3 = .ok (.invokevirtual 66, 3) := by decide +kernel
theorem dX0_signAt_6 : decode cX0_signAt 6 = .ok (.ifCond .eq 6, 3) := by decide +kernel
theorem dX0_signAt_9 : decode cX0_signAt 9 = .ok (.bipush (-2), 2) := by decide +kernel
theorem dX0_signAt_11 : decode cX0_signAt 11 = .ok (.ireturn, 1) := by decide +kernel
theorem dX0_signAt_12 : decode cX0_signAt 12 = .ok (.aload_n 0, 1) := by decide +kernel
theorem dX0_signAt_13 : decode cX0_signAt 13 = .ok (.lconst 1, 1) := by decide +kernel
theorem dX0_signAt_14 : decode cX0_signAt 14 = .ok (.bipush 8, 2) := by decide +kernel
theorem dX0_signAt_16 : decode cX0_signAt 16 = .ok (.iload_n 2, 1) := by decide +kernel
theorem dX0_signAt_17 : decode cX0_signAt 17 = .ok (.imul, 1) := by decide +kernel
theorem dX0_signAt_18 : decode cX0_signAt 18 = .ok (.iload_n 1, 1) := by decide +kernel
theorem dX0_signAt_19 : decode cX0_signAt 19 = .ok (.iadd, 1) := by decide +kernel
theorem dX0_signAt_20 : decode cX0_signAt 20 = .ok (.lshl, 1) := by decide +kernel
theorem dX0_signAt_21 : decode cX0_signAt 21 = .ok (.iconst (-1), 1) := by decide +kernel
theorem dX0_signAt_22 : decode cX0_signAt 22 = .ok (.invokevirtual 70, 3) := by decide +kernel
theorem dX0_signAt_25 : decode cX0_signAt 25 = .ok (.istore_n 3, 1) := by decide +kernel
theorem dX0_signAt_26 : decode cX0_signAt 26 = .ok (.iload_n 3, 1) := by decide +kernel
theorem dX0_signAt_27 : decode cX0_signAt 27 = .ok (.ifCond .ge 8, 3) := by decide +kernel
theorem dX0_signAt_30 : decode cX0_signAt 30 = .ok (.bipush (-3), 2) := by decide +kernel
theorem dX0_signAt_32 : decode cX0_signAt 32 = .ok (.goto 4, 3) := by decide +kernel
theorem dX0_signAt_35 : decode cX0_signAt 35 = .ok (.iload_n 3, 1) := by decide +kernel
theorem dX0_signAt_36 : decode cX0_signAt 36 = .ok (.ireturn, 1) := by decide +kernel
set_option maxRecDepth 20000 in
theorem mc_X0_letterAt_X00 : mjIn wsX0_letterAt wsX00 := fun w h => (List.mem_cons_of_mem _ (List.mem_append_right _ h))
set_option maxRecDepth 20000 in
theorem ggX0_letterAt_X0_signAt : GoodIn wsX0_letterAt wsX0_signAt := mj_good (mj_cons (List.mem_of_getElem? (i := 6) rfl) (mj_app (mj_cons (List.mem_of_getElem? (i := 7) rfl) (mj_cons (List.mem_of_getElem? (i := 8) rfl) (mj_cons (List.mem_of_getElem? (i := 9) rfl) (mj_cons (List.mem_of_getElem? (i := 5) rfl) (mj_cons (List.mem_of_getElem? (i := 10) rfl) (mj_cons (List.mem_of_getElem? (i := 11) rfl) (mj_cons (List.mem_of_getElem? (i := 12) rfl) (mj_cons (List.mem_of_getElem? (i := 13) rfl) (mj_cons (List.mem_of_getElem? (i := 14) rfl) (mj_cons (List.mem_of_getElem? (i := 15) rfl) (mj_cons (List.mem_of_getElem? (i := 16) rfl) (mj_cons (List.mem_of_getElem? (i := 17) rfl) (mj_cons (List.mem_of_getElem? (i := 18) rfl) (mj_cons (List.mem_of_getElem? (i := 19) rfl) (mj_cons (List.mem_of_getElem? (i := 20) rfl) (mj_cons (List.mem_of_getElem? (i := 21) rfl) (mj_cons (List.mem_of_getElem? (i := 22) rfl) mj_nil))))))))))))))))) mc_X0_letterAt_X00)) (by decide +kernel)
set_option maxRecDepth 20000 in
theorem gX0_letterAt_X0_signAt : GoodIn wsX0_letterAt (wsV RX0 74 RX0 yX0_signAt wsX0_signAt) := goodIn_app (mj_good (mj_cons (List.mem_of_getElem? (i := 2) rfl) (mj_cons (List.mem_of_getElem? (i := 3) rfl) (mj_cons (List.mem_of_getElem? (i := 4) rfl) (mj_cons (List.mem_of_getElem? (i := 5) rfl) mj_nil)))) (by decide +kernel)) ggX0_letterAt_X0_signAt
theorem dX0_letterAt_0 : decode cX0_letterAt 0 = .ok (.aload_n 0, 1) := by decide +kernel
theorem dX0_letterAt_1 : decode cX0_letterAt 1 = .ok (.iload_n 1, 1) := by decide +kernel
theorem dX0_letterAt_2 : decode cX0_letterAt 2 = .ok (.iload_n 2, 1) := by decide +kernel
theorem dX0_letterAt_3 : decode cX0_letterAt 3 = .ok (.invokevirtual 74, 3) := by decide +kernel
theorem dX0_letterAt_6 : decode cX0_letterAt 6 = .ok (.istore_n 3, 1) := by decide +kernel
theorem dX0_letterAt_7 : decode cX0_letterAt 7 = .ok (.iload_n 3, 1) := by decide +kernel
theorem dX0_letterAt_8 : decode cX0_letterAt 8 = .ok (.ifCond .ge 17, 3) := by decide +kernel
theorem dX0_letterAt_11 : decode cX0_letterAt 11 = .ok (.iload_n 3, 1) := by decide +kernel
theorem dX0_letterAt_12 : decode cX0_letterAt 12 = .ok (.bipush (-2), 2) := by decide +kernel
theorem dX0_letterAt_14 : decode cX0_letterAt 14 = .ok (.if_icmp .ne 8, 3) := by decide +kernel
theorem dX0_letterAt_17 : decode cX0_letterAt 17 = .ok (.bipush 35, 2) := by decide +kernel
theorem dX0_letterAt_19 : decode cX0_letterAt 19 = .ok (.goto 5, 3) := by decide +kernel
theorem dX0_letterAt_22 : decode cX0_letterAt 22 = .ok (.bipush 46, 2) := by decide +kernel
theorem dX0_letterAt_24 : decode cX0_letterAt 24 = .ok (.ireturn, 1) := by decide +kernel
theorem dX0_letterAt_25 : decode cX0_letterAt 25 = .ok (.aload_n 0, 1) := by decide +kernel
theorem dX0_letterAt_26 : decode cX0_letterAt 26 = .ok (.getfield 9, 3) := by decide +kernel
theorem dX0_letterAt_29 : decode cX0_letterAt 29 = .ok (.iload_n 3, 1) := by decide +kernel
theorem dX0_letterAt_30 : decode cX0_letterAt 30 = .ok (.iaload, 1) := by decide +kernel
theorem dX0_letterAt_31 : decode cX0_letterAt 31 = .ok (.iconst 5, 1) := by decide +kernel
theorem dX0_letterAt_32 : decode cX0_letterAt 32 = .ok (.if_icmp .ne 8, 3) := by decide +kernel
theorem dX0_letterAt_35 : decode cX0_letterAt 35 = .ok (.bipush 65, 2) := by decide +kernel
theorem dX0_letterAt_37 : decode cX0_letterAt 37 = .ok (.goto 5, 3) := by decide +kernel
theorem dX0_letterAt_40 : decode cX0_letterAt 40 = .ok (.bipush 97, 2) := by decide +kernel
theorem dX0_letterAt_42 : decode cX0_letterAt 42 = .ok (.iload_n 3, 1) := by decide +kernel
theorem dX0_letterAt_43 : decode cX0_letterAt 43 = .ok (.iadd, 1) := by decide +kernel
theorem dX0_letterAt_44 : decode cX0_letterAt 44 = .ok (.ireturn, 1) := by decide +kernel
set_option maxRecDepth 20000 in
theorem mc_X0_firstIn_X00 : mjIn wsX0_firstIn wsX00 := fun w h => (List.mem_cons_of_mem _ (List.mem_append_right _ h))
set_option maxRecDepth 20000 in
theorem ggX0_firstIn_X0_fieldsOf : GoodIn wsX0_firstIn wsX0_fieldsOf := mj_good (mj_cons (List.mem_of_getElem? (i := 6) rfl) (mj_app (mj_cons (List.mem_of_getElem? (i := 7) rfl) (mj_cons (List.mem_of_getElem? (i := 8) rfl) mj_nil)) mc_X0_firstIn_X00)) (by decide +kernel)
set_option maxRecDepth 20000 in
theorem gX0_firstIn_X0_fieldsOf : GoodIn wsX0_firstIn (wsV RX0 78 RX0 yX0_fieldsOf wsX0_fieldsOf) := goodIn_app (mj_good (mj_cons (List.mem_of_getElem? (i := 2) rfl) (mj_cons (List.mem_of_getElem? (i := 3) rfl) (mj_cons (List.mem_of_getElem? (i := 4) rfl) (mj_cons (List.mem_of_getElem? (i := 5) rfl) mj_nil)))) (by decide +kernel)) ggX0_firstIn_X0_fieldsOf
theorem dX0_firstIn_0 : decode cX0_firstIn 0 = .ok (.iconst 0, 1) := by decide +kernel
theorem dX0_firstIn_1 : decode cX0_firstIn 1 = .ok (.istore 4, 2) := by decide +kernel
theorem dX0_firstIn_3 : decode cX0_firstIn 3 = .ok (.iload 4, 2) := by decide +kernel
theorem dX0_firstIn_5 : decode cX0_firstIn 5 = .ok (.aload_n 0, 1) := by decide +kernel
theorem dX0_firstIn_6 : decode cX0_firstIn 6 = .ok (.getfield 52, 3) := by decide +kernel
theorem dX0_firstIn_9 : decode cX0_firstIn 9 = .ok (.if_icmp .ge 31, 3) := by decide +kernel
theorem dX0_firstIn_12 : decode cX0_firstIn 12 = .ok (.iload 4, 2) := by decide +kernel
theorem dX0_firstIn_14 : decode cX0_firstIn 14 = .ok (.iload_n 3, 1) := by decide +kernel
theorem dX0_firstIn_15 : decode cX0_firstIn 15 = .ok (.if_icmp .eq 19, 3) := by decide +kernel
theorem dX0_firstIn_18 : decode cX0_firstIn 18 = .ok (.aload_n 0, 1) := by decide +kernel
theorem dX0_firstIn_19 : decode cX0_firstIn 19 = .ok (.iload 4, 2) := by decide +kernel
theorem dX0_firstIn_21 : decode cX0_firstIn 21 = .ok (.invokevirtual 78, 3) := by decide +kernel
theorem dX0_firstIn_24 : decode cX0_firstIn 24 = .ok (.lload_n 1, 1) := by decide +kernel
theorem dX0_firstIn_25 : decode cX0_firstIn 25 = .ok (.land, 1) := by decide +kernel
theorem dX0_firstIn_26 : decode cX0_firstIn 26 = .ok (.lconst 0, 1) := by decide +kernel
theorem dX0_firstIn_27 : decode cX0_firstIn 27 = .ok (.lcmp, 1) := by decide +kernel
theorem dX0_firstIn_28 : decode cX0_firstIn 28 = .ok (.ifCond .eq 6, 3) := by decide +kernel
theorem dX0_firstIn_31 : decode cX0_firstIn 31 = .ok (.iload 4, 2) := by decide +kernel
theorem dX0_firstIn_33 : decode cX0_firstIn 33 = .ok (.ireturn, 1) := by decide +kernel
theorem dX0_firstIn_34 : decode cX0_firstIn 34 = .ok (.iinc 4 1, 3) := by decide +kernel
theorem dX0_firstIn_37 : decode cX0_firstIn 37 = .ok (.goto (-34), 3) := by decide +kernel
theorem dX0_firstIn_40 : decode cX0_firstIn 40 = .ok (.iconst (-1), 1) := by decide +kernel
theorem dX0_firstIn_41 : decode cX0_firstIn 41 = .ok (.ireturn, 1) := by decide +kernel
theorem dX0_fieldsOf_0 : decode cX0_fieldsOf 0 = .ok (.aload_n 0, 1) := by decide +kernel
theorem dX0_fieldsOf_1 : decode cX0_fieldsOf 1 = .ok (.getfield 34, 3) := by decide +kernel
theorem dX0_fieldsOf_4 : decode cX0_fieldsOf 4 = .ok (.iload_n 1, 1) := by decide +kernel
theorem dX0_fieldsOf_5 : decode cX0_fieldsOf 5 = .ok (.laload, 1) := by decide +kernel
theorem dX0_fieldsOf_6 : decode cX0_fieldsOf 6 = .ok (.aload_n 0, 1) := by decide +kernel
theorem dX0_fieldsOf_7 : decode cX0_fieldsOf 7 = .ok (.getfield 15, 3) := by decide +kernel
theorem dX0_fieldsOf_10 : decode cX0_fieldsOf 10 = .ok (.iload_n 1, 1) := by decide +kernel
theorem dX0_fieldsOf_11 : decode cX0_fieldsOf 11 = .ok (.iaload, 1) := by decide +kernel
theorem dX0_fieldsOf_12 : decode cX0_fieldsOf 12 = .ok (.lshl, 1) := by decide +kernel
theorem dX0_fieldsOf_13 : decode cX0_fieldsOf 13 = .ok (.lreturn, 1) := by decide +kernel
theorem dX0_wideOf_0 : decode cX0_wideOf 0 = .ok (.iload_n 1, 1) := by decide +kernel
theorem dX0_wideOf_1 : decode cX0_wideOf 1 = .ok (.ifCond .eq 7, 3) := by decide +kernel
theorem dX0_wideOf_4 : decode cX0_wideOf 4 = .ok (.iconst 1, 1) := by decide +kernel
theorem dX0_wideOf_5 : decode cX0_wideOf 5 = .ok (.goto 4, 3) := by decide +kernel
theorem dX0_wideOf_8 : decode cX0_wideOf 8 = .ok (.iload_n 0, 1) := by decide +kernel
theorem dX0_wideOf_9 : decode cX0_wideOf 9 = .ok (.ireturn, 1) := by decide +kernel
theorem dX0_highOf_0 : decode cX0_highOf 0 = .ok (.iload_n 2, 1) := by decide +kernel
theorem dX0_highOf_1 : decode cX0_highOf 1 = .ok (.ifCond .ne 8, 3) := by decide +kernel
theorem dX0_highOf_4 : decode cX0_highOf 4 = .ok (.iload_n 0, 1) := by decide +kernel
theorem dX0_highOf_5 : decode cX0_highOf 5 = .ok (.iconst 3, 1) := by decide +kernel
theorem dX0_highOf_6 : decode cX0_highOf 6 = .ok (.if_icmp .ne 7, 3) := by decide +kernel
theorem dX0_highOf_9 : decode cX0_highOf 9 = .ok (.iload_n 1, 1) := by decide +kernel
theorem dX0_highOf_10 : decode cX0_highOf 10 = .ok (.goto 4, 3) := by decide +kernel
theorem dX0_highOf_13 : decode cX0_highOf 13 = .ok (.iconst 1, 1) := by decide +kernel
theorem dX0_highOf_14 : decode cX0_highOf 14 = .ok (.ireturn, 1) := by decide +kernel
theorem dX0_shapeOf_0 : decode cX0_shapeOf 0 = .ok (.lconst 1, 1) := by decide +kernel
theorem dX0_shapeOf_1 : decode cX0_shapeOf 1 = .ok (.iload_n 0, 1) := by decide +kernel
theorem dX0_shapeOf_2 : decode cX0_shapeOf 2 = .ok (.lshl, 1) := by decide +kernel
theorem dX0_shapeOf_3 : decode cX0_shapeOf 3 = .ok (.lconst 1, 1) := by decide +kernel
theorem dX0_shapeOf_4 : decode cX0_shapeOf 4 = .ok (.lsub, 1) := by decide +kernel
theorem dX0_shapeOf_5 : decode cX0_shapeOf 5 = .ok (.lstore_n 2, 1) := by decide +kernel
theorem dX0_shapeOf_6 : decode cX0_shapeOf 6 = .ok (.lconst 0, 1) := by decide +kernel
theorem dX0_shapeOf_7 : decode cX0_shapeOf 7 = .ok (.lstore 4, 2) := by decide +kernel
theorem dX0_shapeOf_9 : decode cX0_shapeOf 9 = .ok (.iconst 0, 1) := by decide +kernel
theorem dX0_shapeOf_10 : decode cX0_shapeOf 10 = .ok (.istore 6, 2) := by decide +kernel
theorem dX0_shapeOf_12 : decode cX0_shapeOf 12 = .ok (.iload 6, 2) := by decide +kernel
theorem dX0_shapeOf_14 : decode cX0_shapeOf 14 = .ok (.iload_n 1, 1) := by decide +kernel
theorem dX0_shapeOf_15 : decode cX0_shapeOf 15 = .ok (.if_icmp .ge 21, 3) := by decide +kernel
theorem dX0_shapeOf_18 : decode cX0_shapeOf 18 = .ok (.lload 4, 2) := by decide +kernel
theorem dX0_shapeOf_20 : decode cX0_shapeOf 20 = .ok (.lload_n 2, 1) := by decide +kernel
theorem dX0_shapeOf_21 : decode cX0_shapeOf 21 = .ok (.bipush 8, 2) := by decide +kernel
theorem dX0_shapeOf_23 : decode cX0_shapeOf 23 = .ok (.iload 6, 2) := by decide +kernel
theorem dX0_shapeOf_25 : decode cX0_shapeOf 25 = .ok (.imul, 1) := by decide +kernel
theorem dX0_shapeOf_26 : decode cX0_shapeOf 26 = .ok (.lshl, 1) := by decide +kernel
theorem dX0_shapeOf_27 : decode cX0_shapeOf 27 = .ok (.lor, 1) := by decide +kernel
theorem dX0_shapeOf_28 : decode cX0_shapeOf 28 = .ok (.lstore 4, 2) := by decide +kernel
theorem dX0_shapeOf_30 : decode cX0_shapeOf 30 = .ok (.iinc 6 1, 3) := by decide +kernel
theorem dX0_shapeOf_33 : decode cX0_shapeOf 33 = .ok (.goto (-21), 3) := by decide +kernel
theorem dX0_shapeOf_36 : decode cX0_shapeOf 36 = .ok (.lload 4, 2) := by decide +kernel
theorem dX0_shapeOf_38 : decode cX0_shapeOf 38 = .ok (.lreturn, 1) := by decide +kernel
theorem dX0_isInside_0 : decode cX0_isInside 0 = .ok (.iload_n 1, 1) := by decide +kernel
theorem dX0_isInside_1 : decode cX0_isInside 1 = .ok (.ifCond .lt 32, 3) := by decide +kernel
theorem dX0_isInside_4 : decode cX0_isInside 4 = .ok (.iload_n 1, 1) := by decide +kernel
theorem dX0_isInside_5 : decode cX0_isInside 5 = .ok (.aload_n 0, 1) := by decide +kernel
theorem dX0_isInside_6 : decode cX0_isInside 6 = .ok (.getfield 38, 3) := by decide +kernel
theorem dX0_isInside_9 : decode cX0_isInside 9 = .ok (.iload_n 3, 1) := by decide +kernel
theorem dX0_isInside_10 : decode cX0_isInside 10 = .ok (.isub, 1) := by decide +kernel
theorem dX0_isInside_11 : decode cX0_isInside 11 = .ok (.if_icmp .gt 22, 3) := by decide +kernel
theorem dX0_isInside_14 : decode cX0_isInside 14 = .ok (.iload_n 2, 1) := by decide +kernel
theorem dX0_isInside_15 : decode cX0_isInside 15 = .ok (.ifCond .lt 18, 3) := by decide +kernel
theorem dX0_isInside_18 : decode cX0_isInside 18 = .ok (.iload_n 2, 1) := by decide +kernel
theorem dX0_isInside_19 : decode cX0_isInside 19 = .ok (.aload_n 0, 1) := by decide +kernel
theorem dX0_isInside_20 : decode cX0_isInside 20 = .ok (.getfield 42, 3) := by decide +kernel
theorem dX0_isInside_23 : decode cX0_isInside 23 = .ok (.iload 4, 2) := by decide +kernel
theorem dX0_isInside_25 : decode cX0_isInside 25 = .ok (.isub, 1) := by decide +kernel
theorem dX0_isInside_26 : decode cX0_isInside 26 = .ok (.if_icmp .gt 7, 3) := by decide +kernel
theorem dX0_isInside_29 : decode cX0_isInside 29 = .ok (.iconst 1, 1) := by decide +kernel
theorem dX0_isInside_30 : decode cX0_isInside 30 = .ok (.goto 4, 3) := by decide +kernel
theorem dX0_isInside_33 : decode cX0_isInside 33 = .ok (.iconst 0, 1) := by decide +kernel
theorem dX0_isInside_34 : decode cX0_isInside 34 = .ok (.ireturn, 1) := by decide +kernel
set_option maxRecDepth 20000 in
theorem ggX0_fits_X0_wideOf : GoodIn wsX0_fits wsX0_wideOf := mj_good (mj_cons (List.mem_of_getElem? (i := 6) rfl) mj_nil) (by decide +kernel)
set_option maxRecDepth 20000 in
theorem gX0_fits_X0_wideOf : GoodIn wsX0_fits (va_wsS RX0 82 yX0_wideOf wsX0_wideOf) := goodIn_app (mj_good (mj_cons (List.mem_of_getElem? (i := 3) rfl) (mj_cons (List.mem_of_getElem? (i := 4) rfl) (mj_cons (List.mem_of_getElem? (i := 5) rfl) mj_nil))) (by decide +kernel)) ggX0_fits_X0_wideOf
set_option maxRecDepth 20000 in
theorem ggX0_fits_X0_highOf : GoodIn wsX0_fits wsX0_highOf := mj_good (mj_cons (List.mem_of_getElem? (i := 9) rfl) mj_nil) (by decide +kernel)
set_option maxRecDepth 20000 in
theorem gX0_fits_X0_highOf : GoodIn wsX0_fits (va_wsS RX0 86 yX0_highOf wsX0_highOf) := goodIn_app (mj_good (mj_cons (List.mem_of_getElem? (i := 7) rfl) (mj_cons (List.mem_of_getElem? (i := 8) rfl) (mj_cons (List.mem_of_getElem? (i := 5) rfl) mj_nil))) (by decide +kernel)) ggX0_fits_X0_highOf
set_option maxRecDepth 20000 in
theorem mc_X0_fits_X00 : mjIn wsX0_fits wsX00 := fun w h => (List.mem_cons_of_mem _ (List.mem_append_right _ h))
set_option maxRecDepth 20000 in
theorem ggX0_fits_X0_isInside : GoodIn wsX0_fits wsX0_isInside := mj_good (mj_cons (List.mem_of_getElem? (i := 13) rfl) (mj_app (mj_cons (List.mem_of_getElem? (i := 14) rfl) (mj_cons (List.mem_of_getElem? (i := 15) rfl) mj_nil)) mc_X0_fits_X00)) (by decide +kernel)
set_option maxRecDepth 20000 in
theorem gX0_fits_X0_isInside : GoodIn wsX0_fits (wsV RX0 90 RX0 yX0_isInside wsX0_isInside) := goodIn_app (mj_good (mj_cons (List.mem_of_getElem? (i := 10) rfl) (mj_cons (List.mem_of_getElem? (i := 11) rfl) (mj_cons (List.mem_of_getElem? (i := 12) rfl) (mj_cons (List.mem_of_getElem? (i := 5) rfl) mj_nil)))) (by decide +kernel)) ggX0_fits_X0_isInside
set_option maxRecDepth 20000 in
theorem ggX0_fits_X0_shapeOf : GoodIn wsX0_fits wsX0_shapeOf := mj_good (mj_cons (List.mem_of_getElem? (i := 18) rfl) mj_nil) (by decide +kernel)
set_option maxRecDepth 20000 in
theorem gX0_fits_X0_shapeOf : GoodIn wsX0_fits (va_wsS RX0 94 yX0_shapeOf wsX0_shapeOf) := goodIn_app (mj_good (mj_cons (List.mem_of_getElem? (i := 16) rfl) (mj_cons (List.mem_of_getElem? (i := 17) rfl) (mj_cons (List.mem_of_getElem? (i := 5) rfl) mj_nil))) (by decide +kernel)) ggX0_fits_X0_shapeOf
theorem dX0_fits_0 : decode cX0_fits 0 = .ok (.iload 4, 2) := by decide +kernel
theorem dX0_fits_2 : decode cX0_fits 2 = .ok (.iload 5, 2) := by decide +kernel
theorem dX0_fits_4 : decode cX0_fits 4 = .ok (.invokestatic 82, 3) := by decide +kernel
theorem dX0_fits_7 : decode cX0_fits 7 = .ok (.istore 6, 2) := by decide +kernel
theorem dX0_fits_9 : decode cX0_fits 9 = .ok (.iload_n 1, 1) := by decide +kernel
theorem dX0_fits_10 : decode cX0_fits 10 = .ok (.iload 4, 2) := by decide +kernel
theorem dX0_fits_12 : decode cX0_fits 12 = .ok (.iload 5, 2) := by decide +kernel
theorem dX0_fits_14 : decode cX0_fits 14 = .ok (.invokestatic 86, 3) := by decide +kernel
theorem dX0_fits_17 : decode cX0_fits 17 = .ok (.istore 7, 2) := by decide +kernel
theorem dX0_fits_19 : decode cX0_fits 19 = .ok (.aload_n 0, 1) := by decide +kernel
theorem dX0_fits_20 : decode cX0_fits 20 = .ok (.iload_n 2, 1) := by decide +kernel
theorem dX0_fits_21 : decode cX0_fits 21 = .ok (.iload_n 3, 1) := by decide +kernel
theorem dX0_fits_22 : decode cX0_fits 22 = .ok (.iload 6, 2) := by decide +kernel
theorem dX0_fits_24 : decode cX0_fits 24 = .ok (.iload 7, 2) := by decide +kernel
theorem dX0_fits_26 : decode cX0_fits 26 = .ok (.invokevirtual 90, 3) := by decide +kernel
theorem dX0_fits_29 : decode cX0_fits 29 = .ok (.ifCond .eq 36, 3) := by decide +kernel
theorem dX0_fits_32 : decode cX0_fits 32 = .ok (.iload 6, 2) := by decide +kernel
theorem dX0_fits_34 : decode cX0_fits 34 = .ok (.iload 7, 2) := by decide +kernel
theorem dX0_fits_36 : decode cX0_fits 36 = .ok (.invokestatic 94, 3) := by decide +kernel
theorem dX0_fits_39 : decode cX0_fits 39 = .ok (.bipush 8, 2) := by decide +kernel
theorem dX0_fits_41 : decode cX0_fits 41 = .ok (.iload_n 3, 1) := by decide +kernel
theorem dX0_fits_42 : decode cX0_fits 42 = .ok (.imul, 1) := by decide +kernel
theorem dX0_fits_43 : decode cX0_fits 43 = .ok (.iload_n 2, 1) := by decide +kernel
theorem dX0_fits_44 : decode cX0_fits 44 = .ok (.iadd, 1) := by decide +kernel
theorem dX0_fits_45 : decode cX0_fits 45 = .ok (.lshl, 1) := by decide +kernel
theorem dX0_fits_46 : decode cX0_fits 46 = .ok (.aload_n 0, 1) := by decide +kernel
theorem dX0_fits_47 : decode cX0_fits 47 = .ok (.getfield 45, 3) := by decide +kernel
theorem dX0_fits_50 : decode cX0_fits 50 = .ok (.aload_n 0, 1) := by decide +kernel
theorem dX0_fits_51 : decode cX0_fits 51 = .ok (.getfield 55, 3) := by decide +kernel
theorem dX0_fits_54 : decode cX0_fits 54 = .ok (.lor, 1) := by decide +kernel
theorem dX0_fits_55 : decode cX0_fits 55 = .ok (.land, 1) := by decide +kernel
theorem dX0_fits_56 : decode cX0_fits 56 = .ok (.lconst 0, 1) := by decide +kernel
theorem dX0_fits_57 : decode cX0_fits 57 = .ok (.lcmp, 1) := by decide +kernel
theorem dX0_fits_58 : decode cX0_fits 58 = .ok (.ifCond .ne 7, 3) := by decide +kernel
theorem dX0_fits_61 : decode cX0_fits 61 = .ok (.iconst 1, 1) := by decide +kernel
theorem dX0_fits_62 : decode cX0_fits 62 = .ok (.goto 4, 3) := by decide +kernel
theorem dX0_fits_65 : decode cX0_fits 65 = .ok (.iconst 0, 1) := by decide +kernel
theorem dX0_fits_66 : decode cX0_fits 66 = .ok (.ireturn, 1) := by decide +kernel
set_option maxRecDepth 20000 in
theorem mc_X0_add_X0_add_r1 : mjIn wsX0_add wsX0_add_r1 := fun w h => (List.mem_cons_of_mem _ (List.mem_append_left _ (List.mem_append_left _ h)))
set_option maxRecDepth 20000 in
theorem mc_X0_add_X00 : mjIn wsX0_add wsX00 := fun w h => (List.mem_cons_of_mem _ (List.mem_append_right _ h))
set_option maxRecDepth 20000 in
theorem ggX0_add_X0_form : GoodIn wsX0_add wsX0_form := mj_good (mj_cons (mc_X0_add_X0_add_r1 _ (List.mem_of_getElem? (i := 11) rfl)) (mj_app (mj_cons (mc_X0_add_X0_add_r1 _ (List.mem_of_getElem? (i := 12) rfl)) (mj_cons (mc_X0_add_X0_add_r1 _ (List.mem_of_getElem? (i := 3) rfl)) (mj_cons (mc_X0_add_X0_add_r1 _ (List.mem_of_getElem? (i := 5) rfl)) (mj_cons (mc_X0_add_X0_add_r1 _ (List.mem_of_getElem? (i := 13) rfl)) (mj_cons (mc_X0_add_X0_add_r1 _ (List.mem_of_getElem? (i := 1) rfl)) (mj_cons (mc_X0_add_X0_add_r1 _ (List.mem_of_getElem? (i := 14) rfl)) (mj_cons (mc_X0_add_X0_add_r1 _ (List.mem_of_getElem? (i := 15) rfl)) (mj_cons (mc_X0_add_X0_add_r1 _ (List.mem_of_getElem? (i := 16) rfl)) (mj_cons (mc_X0_add_X0_add_r1 _ (List.mem_of_getElem? (i := 10) rfl)) (mj_cons (mc_X0_add_X0_add_r1 _ (List.mem_of_getElem? (i := 17) rfl)) (mj_cons (mc_X0_add_X0_add_r1 _ (List.mem_of_getElem? (i := 18) rfl)) (mj_cons (mc_X0_add_X0_add_r1 _ (List.mem_of_getElem? (i := 19) rfl)) (mj_cons (mc_X0_add_X0_add_r1 _ (List.mem_of_getElem? (i := 20) rfl)) (mj_cons (mc_X0_add_X0_add_r1 _ (List.mem_of_getElem? (i := 21) rfl)) (mj_cons (mc_X0_add_X0_add_r1 _ (List.mem_of_getElem? (i := 22) rfl)) (mj_cons (mc_X0_add_X0_add_r1 _ (List.mem_of_getElem? (i := 23) rfl)) mj_nil)))))))))))))))) mc_X0_add_X00)) (by decide +kernel)
set_option maxRecDepth 20000 in
theorem gX0_add_X0_form : GoodIn wsX0_add (wsV RX0 98 RX0 yX0_form wsX0_form) := goodIn_app (mj_good (mj_cons (mc_X0_add_X0_add_r1 _ (List.mem_of_getElem? (i := 7) rfl)) (mj_cons (mc_X0_add_X0_add_r1 _ (List.mem_of_getElem? (i := 8) rfl)) (mj_cons (mc_X0_add_X0_add_r1 _ (List.mem_of_getElem? (i := 9) rfl)) (mj_cons (mc_X0_add_X0_add_r1 _ (List.mem_of_getElem? (i := 10) rfl)) mj_nil)))) (by decide +kernel)) ggX0_add_X0_form
set_option maxRecDepth 20000 in
theorem mc_X0_add_X0_add_r2 : mjIn wsX0_add wsX0_add_r2 := fun w h => (List.mem_cons_of_mem _ (List.mem_append_left _ (List.mem_append_right _ h)))
set_option maxRecDepth 20000 in
theorem ggX0_add_X0_fieldsOf : GoodIn wsX0_add wsX0_fieldsOf := mj_good (mj_cons (mc_X0_add_X0_add_r2 _ (List.mem_of_getElem? (i := 3) rfl)) (mj_app (mj_cons (mc_X0_add_X0_add_r1 _ (List.mem_of_getElem? (i := 14) rfl)) (mj_cons (mc_X0_add_X0_add_r1 _ (List.mem_of_getElem? (i := 2) rfl)) mj_nil)) mc_X0_add_X00)) (by decide +kernel)
set_option maxRecDepth 20000 in
theorem gX0_add_X0_fieldsOf : GoodIn wsX0_add (wsV RX0 78 RX0 yX0_fieldsOf wsX0_fieldsOf) := goodIn_app (mj_good (mj_cons (mc_X0_add_X0_add_r2 _ (List.mem_of_getElem? (i := 0) rfl)) (mj_cons (mc_X0_add_X0_add_r2 _ (List.mem_of_getElem? (i := 1) rfl)) (mj_cons (mc_X0_add_X0_add_r2 _ (List.mem_of_getElem? (i := 2) rfl)) (mj_cons (mc_X0_add_X0_add_r1 _ (List.mem_of_getElem? (i := 10) rfl)) mj_nil)))) (by decide +kernel)) ggX0_add_X0_fieldsOf
theorem dX0_add_0 : decode cX0_add 0 = .ok (.aload_n 0, 1) := by decide +kernel
theorem dX0_add_1 : decode cX0_add 1 = .ok (.getfield 52, 3) := by decide +kernel
theorem dX0_add_4 : decode cX0_add 4 = .ok (.bipush 12, 2) := by decide +kernel
theorem dX0_add_6 : decode cX0_add 6 = .ok (.if_icmp .lt 4, 3) := by decide +kernel
theorem dX0_add_9 : decode cX0_add 9 = .ok (.return_, 1) := by decide +kernel
theorem dX0_add_10 : decode cX0_add 10 = .ok (.aload_n 0, 1) := by decide +kernel
theorem dX0_add_11 : decode cX0_add 11 = .ok (.getfield 9, 3) := by decide +kernel
theorem dX0_add_14 : decode cX0_add 14 = .ok (.aload_n 0, 1) := by decide +kernel
theorem dX0_add_15 : decode cX0_add 15 = .ok (.getfield 52, 3) := by decide +kernel
theorem dX0_add_18 : decode cX0_add 18 = .ok (.iload_n 1, 1) := by decide +kernel
theorem dX0_add_19 : decode cX0_add 19 = .ok (.iastore, 1) := by decide +kernel
theorem dX0_add_20 : decode cX0_add 20 = .ok (.aload_n 0, 1) := by decide +kernel
theorem dX0_add_21 : decode cX0_add 21 = .ok (.getfield 15, 3) := by decide +kernel
theorem dX0_add_24 : decode cX0_add 24 = .ok (.aload_n 0, 1) := by decide +kernel
theorem dX0_add_25 : decode cX0_add 25 = .ok (.getfield 52, 3) := by decide +kernel
theorem dX0_add_28 : decode cX0_add 28 = .ok (.iload_n 2, 1) := by decide +kernel
theorem dX0_add_29 : decode cX0_add 29 = .ok (.iastore, 1) := by decide +kernel
theorem dX0_add_30 : decode cX0_add 30 = .ok (.aload_n 0, 1) := by decide +kernel
theorem dX0_add_31 : decode cX0_add 31 = .ok (.getfield 18, 3) := by decide +kernel
theorem dX0_add_34 : decode cX0_add 34 = .ok (.aload_n 0, 1) := by decide +kernel
theorem dX0_add_35 : decode cX0_add 35 = .ok (.getfield 52, 3) := by decide +kernel
theorem dX0_add_38 : decode cX0_add 38 = .ok (.iload_n 3, 1) := by decide +kernel
theorem dX0_add_39 : decode cX0_add 39 = .ok (.iastore, 1) := by decide +kernel
theorem dX0_add_40 : decode cX0_add 40 = .ok (.aload_n 0, 1) := by decide +kernel
theorem dX0_add_41 : decode cX0_add 41 = .ok (.getfield 21, 3) := by decide +kernel
theorem dX0_add_44 : decode cX0_add 44 = .ok (.aload_n 0, 1) := by decide +kernel
theorem dX0_add_45 : decode cX0_add 45 = .ok (.getfield 52, 3) := by decide +kernel
theorem dX0_add_48 : decode cX0_add 48 = .ok (.iload_n 2, 1) := by decide +kernel
theorem dX0_add_49 : decode cX0_add 49 = .ok (.iastore, 1) := by decide +kernel
theorem dX0_add_50 : decode cX0_add 50 = .ok (.aload_n 0, 1) := by decide +kernel
theorem dX0_add_51 : decode cX0_add 51 = .ok (.getfield 24, 3) := by decide +kernel
theorem dX0_add_54 : decode cX0_add 54 = .ok (.aload_n 0, 1) := by decide +kernel
theorem dX0_add_55 : decode cX0_add 55 = .ok (.getfield 52, 3) := by decide +kernel
theorem dX0_add_58 : decode cX0_add 58 = .ok (.iload 4, 2) := by decide +kernel
theorem dX0_add_60 : decode cX0_add 60 = .ok (.bastore, 1) := by decide +kernel
theorem dX0_add_61 : decode cX0_add 61 = .ok (.aload_n 0, 1) := by decide +kernel
theorem dX0_add_62 : decode cX0_add 62 = .ok (.aload_n 0, 1) := by decide +kernel
theorem dX0_add_63 : decode cX0_add 63 = .ok (.getfield 52, 3) := by decide +kernel
theorem dX0_add_66 : decode cX0_add 66 = .ok (.invokevirtual 98, 3) := by decide +kernel
theorem dX0_add_69 : decode cX0_add 69 = .ok (.aload_n 0, 1) := by decide +kernel
theorem dX0_add_70 : decode cX0_add 70 = .ok (.dup, 1) := by decide +kernel
theorem dX0_add_71 : decode cX0_add 71 = .ok (.getfield 55, 3) := by decide +kernel
theorem dX0_add_74 : decode cX0_add 74 = .ok (.aload_n 0, 1) := by decide +kernel
theorem dX0_add_75 : decode cX0_add 75 = .ok (.aload_n 0, 1) := by decide +kernel
theorem dX0_add_76 : decode cX0_add 76 = .ok (.getfield 52, 3) := by decide +kernel
theorem dX0_add_79 : decode cX0_add 79 = .ok (.invokevirtual 78, 3) := by decide +kernel
theorem dX0_add_82 : decode cX0_add 82 = .ok (.lor, 1) := by decide +kernel
theorem dX0_add_83 : decode cX0_add 83 = .ok (.putfield 55, 3) := by decide +kernel
theorem dX0_add_86 : decode cX0_add 86 = .ok (.aload_n 0, 1) := by decide +kernel
theorem dX0_add_87 : decode cX0_add 87 = .ok (.dup, 1) := by decide +kernel
theorem dX0_add_88 : decode cX0_add 88 = .ok (.getfield 52, 3) := by decide +kernel
theorem dX0_add_91 : decode cX0_add 91 = .ok (.iconst 1, 1) := by decide +kernel
theorem dX0_add_92 : decode cX0_add 92 = .ok (.iadd, 1) := by decide +kernel
theorem dX0_add_93 : decode cX0_add 93 = .ok (.putfield 52, 3) := by decide +kernel
theorem dX0_add_96 : decode cX0_add 96 = .ok (.return_, 1) := by decide +kernel
set_option maxRecDepth 20000 in
theorem ggX0_form_X0_wideOf : GoodIn wsX0_form wsX0_wideOf := mj_good (mj_cons (List.mem_of_getElem? (i := 10) rfl) mj_nil) (by decide +kernel)
set_option maxRecDepth 20000 in
theorem gX0_form_X0_wideOf : GoodIn wsX0_form (va_wsS RX0 82 yX0_wideOf wsX0_wideOf) := goodIn_app (mj_good (mj_cons (List.mem_of_getElem? (i := 7) rfl) (mj_cons (List.mem_of_getElem? (i := 8) rfl) (mj_cons (List.mem_of_getElem? (i := 9) rfl) mj_nil))) (by decide +kernel)) ggX0_form_X0_wideOf
set_option maxRecDepth 20000 in
theorem ggX0_form_X0_highOf : GoodIn wsX0_form wsX0_highOf := mj_good (mj_cons (List.mem_of_getElem? (i := 13) rfl) mj_nil) (by decide +kernel)
set_option maxRecDepth 20000 in
theorem gX0_form_X0_highOf : GoodIn wsX0_form (va_wsS RX0 86 yX0_highOf wsX0_highOf) := goodIn_app (mj_good (mj_cons (List.mem_of_getElem? (i := 11) rfl) (mj_cons (List.mem_of_getElem? (i := 12) rfl) (mj_cons (List.mem_of_getElem? (i := 9) rfl) mj_nil))) (by decide +kernel)) ggX0_form_X0_highOf
set_option maxRecDepth 20000 in
theorem ggX0_form_X0_shapeOf : GoodIn wsX0_form wsX0_shapeOf := mj_good (mj_cons (List.mem_of_getElem? (i := 16) rfl) mj_nil) (by decide +kernel)
set_option maxRecDepth 20000 in
theorem gX0_form_X0_shapeOf : GoodIn wsX0_form (va_wsS RX0 94 yX0_shapeOf wsX0_shapeOf) := goodIn_app (mj_good (mj_cons (List.mem_of_getElem? (i := 14) rfl) (mj_cons (List.mem_of_getElem? (i := 15) rfl) (mj_cons (List.mem_of_getElem? (i := 9) rfl) mj_nil))) (by decide +kernel)) ggX0_form_X0_shapeOf
theorem dX0_form_0 : decode cX0_form 0 = .ok (.aload_n 0, 1) := by decide +kernel
theorem dX0_form_1 : decode cX0_form 1 = .ok (.getfield 28, 3) := by decide +kernel
theorem dX0_form_4 : decode cX0_form 4 = .ok (.iload_n 1, 1) := by decide +kernel
theorem dX0_form_5 : decode cX0_form 5 = .ok (.aload_n 0, 1) := by decide +kernel
theorem dX0_form_6 : decode cX0_form 6 = .ok (.getfield 18, 3) := by decide +kernel
theorem dX0_form_9 : decode cX0_form 9 = .ok (.iload_n 1, 1) := by decide +kernel
theorem dX0_form_10 : decode cX0_form 10 = .ok (.iaload, 1) := by decide +kernel
theorem dX0_form_11 : decode cX0_form 11 = .ok (.aload_n 0, 1) := by decide +kernel
theorem dX0_form_12 : decode cX0_form 12 = .ok (.getfield 24, 3) := by decide +kernel
theorem dX0_form_15 : decode cX0_form 15 = .ok (.iload_n 1, 1) := by decide +kernel
theorem dX0_form_16 : decode cX0_form 16 = .ok (.baload, 1) := by decide +kernel
theorem dX0_form_17 : decode cX0_form 17 = .ok (.invokestatic 82, 3) := by decide +kernel
theorem dX0_form_20 : decode cX0_form 20 = .ok (.iastore, 1) := by decide +kernel
theorem dX0_form_21 : decode cX0_form 21 = .ok (.aload_n 0, 1) := by decide +kernel
theorem dX0_form_22 : decode cX0_form 22 = .ok (.getfield 31, 3) := by decide +kernel
theorem dX0_form_25 : decode cX0_form 25 = .ok (.iload_n 1, 1) := by decide +kernel
theorem dX0_form_26 : decode cX0_form 26 = .ok (.aload_n 0, 1) := by decide +kernel
theorem dX0_form_27 : decode cX0_form 27 = .ok (.getfield 9, 3) := by decide +kernel
theorem dX0_form_30 : decode cX0_form 30 = .ok (.iload_n 1, 1) := by decide +kernel
theorem dX0_form_31 : decode cX0_form 31 = .ok (.iaload, 1) := by decide +kernel
theorem dX0_form_32 : decode cX0_form 32 = .ok (.aload_n 0, 1) := by decide +kernel
theorem dX0_form_33 : decode cX0_form 33 = .ok (.getfield 18, 3) := by decide +kernel
theorem dX0_form_36 : decode cX0_form 36 = .ok (.iload_n 1, 1) := by decide +kernel
theorem dX0_form_37 : decode cX0_form 37 = .ok (.iaload, 1) := by decide +kernel
theorem dX0_form_38 : decode cX0_form 38 = .ok (.aload_n 0, 1) := by decide +kernel
theorem dX0_form_39 : decode cX0_form 39 = .ok (.getfield 24, 3) := by decide +kernel
theorem dX0_form_42 : decode cX0_form 42 = .ok (.iload_n 1, 1) := by decide +kernel
theorem dX0_form_43 : decode cX0_form 43 = .ok (.baload, 1) := by decide +kernel
theorem dX0_form_44 : decode cX0_form 44 = .ok (.invokestatic 86, 3) := by decide +kernel
theorem dX0_form_47 : decode cX0_form 47 = .ok (.iastore, 1) := by decide +kernel
theorem dX0_form_48 : decode cX0_form 48 = .ok (.aload_n 0, 1) := by decide +kernel
theorem dX0_form_49 : decode cX0_form 49 = .ok (.getfield 34, 3) := by decide +kernel
theorem dX0_form_52 : decode cX0_form 52 = .ok (.iload_n 1, 1) := by decide +kernel
theorem dX0_form_53 : decode cX0_form 53 = .ok (.aload_n 0, 1) := by decide +kernel
theorem dX0_form_54 : decode cX0_form 54 = .ok (.getfield 28, 3) := by decide +kernel
theorem dX0_form_57 : decode cX0_form 57 = .ok (.iload_n 1, 1) := by decide +kernel
theorem dX0_form_58 : decode cX0_form 58 = .ok (.iaload, 1) := by decide +kernel
theorem dX0_form_59 : decode cX0_form 59 = .ok (.aload_n 0, 1) := by decide +kernel
theorem dX0_form_60 : decode cX0_form 60 = .ok (.getfield 31, 3) := by decide +kernel
theorem dX0_form_63 : decode cX0_form 63 = .ok (.iload_n 1, 1) := by decide +kernel
theorem dX0_form_64 : decode cX0_form 64 = .ok (.iaload, 1) := by decide +kernel
theorem dX0_form_65 : decode cX0_form 65 = .ok (.invokestatic 94, 3) := by decide +kernel
theorem dX0_form_68 : decode cX0_form 68 = .ok (.lastore, 1) := by decide +kernel
theorem dX0_form_69 : decode cX0_form 69 = .ok (.return_, 1) := by decide +kernel
set_option maxRecDepth 20000 in
theorem mc_X0_drop_X00 : mjIn wsX0_drop wsX00 := fun w h => (List.mem_cons_of_mem _ (List.mem_append_right _ h))
set_option maxRecDepth 20000 in
theorem ggX0_drop_X0_fieldsOf : GoodIn wsX0_drop wsX0_fieldsOf := mj_good (mj_cons (List.mem_of_getElem? (i := 8) rfl) (mj_app (mj_cons (List.mem_of_getElem? (i := 9) rfl) (mj_cons (List.mem_of_getElem? (i := 10) rfl) mj_nil)) mc_X0_drop_X00)) (by decide +kernel)
set_option maxRecDepth 20000 in
theorem gX0_drop_X0_fieldsOf : GoodIn wsX0_drop (wsV RX0 78 RX0 yX0_fieldsOf wsX0_fieldsOf) := goodIn_app (mj_good (mj_cons (List.mem_of_getElem? (i := 4) rfl) (mj_cons (List.mem_of_getElem? (i := 5) rfl) (mj_cons (List.mem_of_getElem? (i := 6) rfl) (mj_cons (List.mem_of_getElem? (i := 7) rfl) mj_nil)))) (by decide +kernel)) ggX0_drop_X0_fieldsOf
set_option maxRecDepth 20000 in
theorem ggX0_drop_X0_copyBarge : GoodIn wsX0_drop wsX0_copyBarge := mj_good (mj_cons (List.mem_of_getElem? (i := 14) rfl) (mj_app (mj_cons (List.mem_of_getElem? (i := 15) rfl) (mj_cons (List.mem_of_getElem? (i := 10) rfl) (mj_cons (List.mem_of_getElem? (i := 16) rfl) (mj_cons (List.mem_of_getElem? (i := 17) rfl) (mj_cons (List.mem_of_getElem? (i := 18) rfl) (mj_cons (List.mem_of_getElem? (i := 19) rfl) (mj_cons (List.mem_of_getElem? (i := 20) rfl) (mj_cons (List.mem_of_getElem? (i := 9) rfl) mj_nil)))))))) mc_X0_drop_X00)) (by decide +kernel)
set_option maxRecDepth 20000 in
theorem gX0_drop_X0_copyBarge : GoodIn wsX0_drop (wsV RX0 58 RX0 yX0_copyBarge wsX0_copyBarge) := goodIn_app (mj_good (mj_cons (List.mem_of_getElem? (i := 11) rfl) (mj_cons (List.mem_of_getElem? (i := 12) rfl) (mj_cons (List.mem_of_getElem? (i := 13) rfl) (mj_cons (List.mem_of_getElem? (i := 7) rfl) mj_nil)))) (by decide +kernel)) ggX0_drop_X0_copyBarge
theorem dX0_drop_0 : decode cX0_drop 0 = .ok (.aload_n 0, 1) := by decide +kernel
theorem dX0_drop_1 : decode cX0_drop 1 = .ok (.dup, 1) := by decide +kernel
theorem dX0_drop_2 : decode cX0_drop 2 = .ok (.getfield 55, 3) := by decide +kernel
theorem dX0_drop_5 : decode cX0_drop 5 = .ok (.aload_n 0, 1) := by decide +kernel
theorem dX0_drop_6 : decode cX0_drop 6 = .ok (.iload_n 1, 1) := by decide +kernel
theorem dX0_drop_7 : decode cX0_drop 7 = .ok (.invokevirtual 78, 3) := by decide +kernel
theorem dX0_drop_10 : decode cX0_drop 10 = .ok (.ldc2_w 64, 3) := by decide +kernel
theorem dX0_drop_13 : decode cX0_drop 13 = .ok (.lxor, 1) := by decide +kernel
theorem dX0_drop_14 : decode cX0_drop 14 = .ok (.land, 1) := by decide +kernel
theorem dX0_drop_15 : decode cX0_drop 15 = .ok (.putfield 55, 3) := by decide +kernel
theorem dX0_drop_18 : decode cX0_drop 18 = .ok (.iload_n 1, 1) := by decide +kernel
theorem dX0_drop_19 : decode cX0_drop 19 = .ok (.iconst 1, 1) := by decide +kernel
theorem dX0_drop_20 : decode cX0_drop 20 = .ok (.iadd, 1) := by decide +kernel
theorem dX0_drop_21 : decode cX0_drop 21 = .ok (.istore_n 2, 1) := by decide +kernel
theorem dX0_drop_22 : decode cX0_drop 22 = .ok (.iload_n 2, 1) := by decide +kernel
theorem dX0_drop_23 : decode cX0_drop 23 = .ok (.aload_n 0, 1) := by decide +kernel
theorem dX0_drop_24 : decode cX0_drop 24 = .ok (.getfield 52, 3) := by decide +kernel
theorem dX0_drop_27 : decode cX0_drop 27 = .ok (.if_icmp .ge 18, 3) := by decide +kernel
theorem dX0_drop_30 : decode cX0_drop 30 = .ok (.aload_n 0, 1) := by decide +kernel
theorem dX0_drop_31 : decode cX0_drop 31 = .ok (.aload_n 0, 1) := by decide +kernel
theorem dX0_drop_32 : decode cX0_drop 32 = .ok (.iload_n 2, 1) := by decide +kernel
theorem dX0_drop_33 : decode cX0_drop 33 = .ok (.iload_n 2, 1) := by decide +kernel
theorem dX0_drop_34 : decode cX0_drop 34 = .ok (.iconst 1, 1) := by decide +kernel
theorem dX0_drop_35 : decode cX0_drop 35 = .ok (.isub, 1) := by decide +kernel
theorem dX0_drop_36 : decode cX0_drop 36 = .ok (.invokevirtual 58, 3) := by decide +kernel
theorem dX0_drop_39 : decode cX0_drop 39 = .ok (.iinc 2 1, 3) := by decide +kernel
theorem dX0_drop_42 : decode cX0_drop 42 = .ok (.goto (-20), 3) := by decide +kernel
theorem dX0_drop_45 : decode cX0_drop 45 = .ok (.aload_n 0, 1) := by decide +kernel
theorem dX0_drop_46 : decode cX0_drop 46 = .ok (.dup, 1) := by decide +kernel
theorem dX0_drop_47 : decode cX0_drop 47 = .ok (.getfield 52, 3) := by decide +kernel
theorem dX0_drop_50 : decode cX0_drop 50 = .ok (.iconst 1, 1) := by decide +kernel
theorem dX0_drop_51 : decode cX0_drop 51 = .ok (.isub, 1) := by decide +kernel
theorem dX0_drop_52 : decode cX0_drop 52 = .ok (.putfield 52, 3) := by decide +kernel
theorem dX0_drop_55 : decode cX0_drop 55 = .ok (.return_, 1) := by decide +kernel
theorem dX0_detail_0 : decode cX0_detail 0 = .ok (.iload_n 2, 1) := by decide +kernel
theorem dX0_detail_1 : decode cX0_detail 1 = .ok (.tableswitch 97 0 5 #[39, 46, 56, 65, 72, 87], 39) := by decide +kernel
theorem dX0_detail_40 : decode cX0_detail 40 = .ok (.aload_n 0, 1) := by decide +kernel
theorem dX0_detail_41 : decode cX0_detail 41 = .ok (.getfield 9, 3) := by decide +kernel
theorem dX0_detail_44 : decode cX0_detail 44 = .ok (.iload_n 1, 1) := by decide +kernel
theorem dX0_detail_45 : decode cX0_detail 45 = .ok (.iaload, 1) := by decide +kernel
theorem dX0_detail_46 : decode cX0_detail 46 = .ok (.ireturn, 1) := by decide +kernel
theorem dX0_detail_47 : decode cX0_detail 47 = .ok (.aload_n 0, 1) := by decide +kernel
theorem dX0_detail_48 : decode cX0_detail 48 = .ok (.getfield 15, 3) := by decide +kernel
theorem dX0_detail_51 : decode cX0_detail 51 = .ok (.iload_n 1, 1) := by decide +kernel
theorem dX0_detail_52 : decode cX0_detail 52 = .ok (.iaload, 1) := by decide +kernel
theorem dX0_detail_53 : decode cX0_detail 53 = .ok (.bipush 7, 2) := by decide +kernel
theorem dX0_detail_55 : decode cX0_detail 55 = .ok (.iand, 1) := by decide +kernel
theorem dX0_detail_56 : decode cX0_detail 56 = .ok (.ireturn, 1) := by decide +kernel
theorem dX0_detail_57 : decode cX0_detail 57 = .ok (.aload_n 0, 1) := by decide +kernel
theorem dX0_detail_58 : decode cX0_detail 58 = .ok (.getfield 15, 3) := by decide +kernel
theorem dX0_detail_61 : decode cX0_detail 61 = .ok (.iload_n 1, 1) := by decide +kernel
theorem dX0_detail_62 : decode cX0_detail 62 = .ok (.iaload, 1) := by decide +kernel
theorem dX0_detail_63 : decode cX0_detail 63 = .ok (.iconst 3, 1) := by decide +kernel
theorem dX0_detail_64 : decode cX0_detail 64 = .ok (.ishr, 1) := by decide +kernel
theorem dX0_detail_65 : decode cX0_detail 65 = .ok (.ireturn, 1) := by decide +kernel
theorem dX0_detail_66 : decode cX0_detail 66 = .ok (.aload_n 0, 1) := by decide +kernel
theorem dX0_detail_67 : decode cX0_detail 67 = .ok (.getfield 18, 3) := by decide +kernel
theorem dX0_detail_70 : decode cX0_detail 70 = .ok (.iload_n 1, 1) := by decide +kernel
theorem dX0_detail_71 : decode cX0_detail 71 = .ok (.iaload, 1) := by decide +kernel
theorem dX0_detail_72 : decode cX0_detail 72 = .ok (.ireturn, 1) := by decide +kernel
theorem dX0_detail_73 : decode cX0_detail 73 = .ok (.aload_n 0, 1) := by decide +kernel
theorem dX0_detail_74 : decode cX0_detail 74 = .ok (.getfield 24, 3) := by decide +kernel
theorem dX0_detail_77 : decode cX0_detail 77 = .ok (.iload_n 1, 1) := by decide +kernel
theorem dX0_detail_78 : decode cX0_detail 78 = .ok (.baload, 1) := by decide +kernel
theorem dX0_detail_79 : decode cX0_detail 79 = .ok (.ifCond .eq 7, 3) := by decide +kernel
theorem dX0_detail_82 : decode cX0_detail 82 = .ok (.iconst 1, 1) := by decide +kernel
theorem dX0_detail_83 : decode cX0_detail 83 = .ok (.goto 4, 3) := by decide +kernel
theorem dX0_detail_86 : decode cX0_detail 86 = .ok (.iconst 0, 1) := by decide +kernel
theorem dX0_detail_87 : decode cX0_detail 87 = .ok (.ireturn, 1) := by decide +kernel
theorem dX0_detail_88 : decode cX0_detail 88 = .ok (.aload_n 0, 1) := by decide +kernel
theorem dX0_detail_89 : decode cX0_detail 89 = .ok (.getfield 21, 3) := by decide +kernel
theorem dX0_detail_92 : decode cX0_detail 92 = .ok (.iload_n 1, 1) := by decide +kernel
theorem dX0_detail_93 : decode cX0_detail 93 = .ok (.iaload, 1) := by decide +kernel
theorem dX0_detail_94 : decode cX0_detail 94 = .ok (.bipush 7, 2) := by decide +kernel
theorem dX0_detail_96 : decode cX0_detail 96 = .ok (.iand, 1) := by decide +kernel
theorem dX0_detail_97 : decode cX0_detail 97 = .ok (.ireturn, 1) := by decide +kernel
theorem dX0_detail_98 : decode cX0_detail 98 = .ok (.aload_n 0, 1) := by decide +kernel
theorem dX0_detail_99 : decode cX0_detail 99 = .ok (.getfield 21, 3) := by decide +kernel
theorem dX0_detail_102 : decode cX0_detail 102 = .ok (.iload_n 1, 1) := by decide +kernel
theorem dX0_detail_103 : decode cX0_detail 103 = .ok (.iaload, 1) := by decide +kernel
theorem dX0_detail_104 : decode cX0_detail 104 = .ok (.iconst 3, 1) := by decide +kernel
theorem dX0_detail_105 : decode cX0_detail 105 = .ok (.ishr, 1) := by decide +kernel
theorem dX0_detail_106 : decode cX0_detail 106 = .ok (.ireturn, 1) := by decide +kernel
set_option maxRecDepth 20000 in
theorem mc_X0_isOnLine_X00 : mjIn wsX0_isOnLine wsX00 := fun w h => (List.mem_cons_of_mem _ (List.mem_append_right _ h))
set_option maxRecDepth 20000 in
theorem ggX0_isOnLine_X0_isInside : GoodIn wsX0_isOnLine wsX0_isInside := mj_good (mj_cons (List.mem_of_getElem? (i := 9) rfl) (mj_app (mj_cons (List.mem_of_getElem? (i := 10) rfl) (mj_cons (List.mem_of_getElem? (i := 11) rfl) mj_nil)) mc_X0_isOnLine_X00)) (by decide +kernel)
set_option maxRecDepth 20000 in
theorem gX0_isOnLine_X0_isInside : GoodIn wsX0_isOnLine (wsV RX0 90 RX0 yX0_isInside wsX0_isInside) := goodIn_app (mj_good (mj_cons (List.mem_of_getElem? (i := 5) rfl) (mj_cons (List.mem_of_getElem? (i := 6) rfl) (mj_cons (List.mem_of_getElem? (i := 7) rfl) (mj_cons (List.mem_of_getElem? (i := 8) rfl) mj_nil)))) (by decide +kernel)) ggX0_isOnLine_X0_isInside
theorem dX0_isOnLine_0 : decode cX0_isOnLine 0 = .ok (.aload_n 0, 1) := by decide +kernel
theorem dX0_isOnLine_1 : decode cX0_isOnLine 1 = .ok (.getfield 24, 3) := by decide +kernel
theorem dX0_isOnLine_4 : decode cX0_isOnLine 4 = .ok (.iload_n 1, 1) := by decide +kernel
theorem dX0_isOnLine_5 : decode cX0_isOnLine 5 = .ok (.baload, 1) := by decide +kernel
theorem dX0_isOnLine_6 : decode cX0_isOnLine 6 = .ok (.ifCond .eq 24, 3) := by decide +kernel
theorem dX0_isOnLine_9 : decode cX0_isOnLine 9 = .ok (.iload_n 2, 1) := by decide +kernel
theorem dX0_isOnLine_10 : decode cX0_isOnLine 10 = .ok (.aload_n 0, 1) := by decide +kernel
theorem dX0_isOnLine_11 : decode cX0_isOnLine 11 = .ok (.getfield 15, 3) := by decide +kernel
theorem dX0_isOnLine_14 : decode cX0_isOnLine 14 = .ok (.iload_n 1, 1) := by decide +kernel
theorem dX0_isOnLine_15 : decode cX0_isOnLine 15 = .ok (.iaload, 1) := by decide +kernel
theorem dX0_isOnLine_16 : decode cX0_isOnLine 16 = .ok (.bipush 7, 2) := by decide +kernel
theorem dX0_isOnLine_18 : decode cX0_isOnLine 18 = .ok (.iand, 1) := by decide +kernel
theorem dX0_isOnLine_19 : decode cX0_isOnLine 19 = .ok (.if_icmp .ne 7, 3) := by decide +kernel
theorem dX0_isOnLine_22 : decode cX0_isOnLine 22 = .ok (.iconst 1, 1) := by decide +kernel
theorem dX0_isOnLine_23 : decode cX0_isOnLine 23 = .ok (.goto 24, 3) := by decide +kernel
theorem dX0_isOnLine_26 : decode cX0_isOnLine 26 = .ok (.iconst 0, 1) := by decide +kernel
theorem dX0_isOnLine_27 : decode cX0_isOnLine 27 = .ok (.goto 20, 3) := by decide +kernel
theorem dX0_isOnLine_30 : decode cX0_isOnLine 30 = .ok (.iload_n 3, 1) := by decide +kernel
theorem dX0_isOnLine_31 : decode cX0_isOnLine 31 = .ok (.aload_n 0, 1) := by decide +kernel
theorem dX0_isOnLine_32 : decode cX0_isOnLine 32 = .ok (.getfield 15, 3) := by decide +kernel
theorem dX0_isOnLine_35 : decode cX0_isOnLine 35 = .ok (.iload_n 1, 1) := by decide +kernel
theorem dX0_isOnLine_36 : decode cX0_isOnLine 36 = .ok (.iaload, 1) := by decide +kernel
theorem dX0_isOnLine_37 : decode cX0_isOnLine 37 = .ok (.iconst 3, 1) := by decide +kernel
theorem dX0_isOnLine_38 : decode cX0_isOnLine 38 = .ok (.ishr, 1) := by decide +kernel
theorem dX0_isOnLine_39 : decode cX0_isOnLine 39 = .ok (.if_icmp .ne 7, 3) := by decide +kernel
theorem dX0_isOnLine_42 : decode cX0_isOnLine 42 = .ok (.iconst 1, 1) := by decide +kernel
theorem dX0_isOnLine_43 : decode cX0_isOnLine 43 = .ok (.goto 4, 3) := by decide +kernel
theorem dX0_isOnLine_46 : decode cX0_isOnLine 46 = .ok (.iconst 0, 1) := by decide +kernel
theorem dX0_isOnLine_47 : decode cX0_isOnLine 47 = .ok (.istore 4, 2) := by decide +kernel
theorem dX0_isOnLine_49 : decode cX0_isOnLine 49 = .ok (.iload 4, 2) := by decide +kernel
theorem dX0_isOnLine_51 : decode cX0_isOnLine 51 = .ok (.ifCond .eq 28, 3) := by decide +kernel
theorem dX0_isOnLine_54 : decode cX0_isOnLine 54 = .ok (.aload_n 0, 1) := by decide +kernel
theorem dX0_isOnLine_55 : decode cX0_isOnLine 55 = .ok (.iload_n 2, 1) := by decide +kernel
theorem dX0_isOnLine_56 : decode cX0_isOnLine 56 = .ok (.iload_n 3, 1) := by decide +kernel
theorem dX0_isOnLine_57 : decode cX0_isOnLine 57 = .ok (.aload_n 0, 1) := by decide +kernel
theorem dX0_isOnLine_58 : decode cX0_isOnLine 58 = .ok (.getfield 28, 3) := by decide +kernel
theorem dX0_isOnLine_61 : decode cX0_isOnLine 61 = .ok (.iload_n 1, 1) := by decide +kernel
theorem dX0_isOnLine_62 : decode cX0_isOnLine 62 = .ok (.iaload, 1) := by decide +kernel
theorem dX0_isOnLine_63 : decode cX0_isOnLine 63 = .ok (.aload_n 0, 1) := by decide +kernel
theorem dX0_isOnLine_64 : decode cX0_isOnLine 64 = .ok (.getfield 31, 3) := by decide +kernel
theorem dX0_isOnLine_67 : decode cX0_isOnLine 67 = .ok (.iload_n 1, 1) := by decide +kernel
theorem dX0_isOnLine_68 : decode cX0_isOnLine 68 = .ok (.iaload, 1) := by decide +kernel
theorem dX0_isOnLine_69 : decode cX0_isOnLine 69 = .ok (.invokevirtual 90, 3) := by decide +kernel
theorem dX0_isOnLine_72 : decode cX0_isOnLine 72 = .ok (.ifCond .eq 7, 3) := by decide +kernel
theorem dX0_isOnLine_75 : decode cX0_isOnLine 75 = .ok (.iconst 1, 1) := by decide +kernel
theorem dX0_isOnLine_76 : decode cX0_isOnLine 76 = .ok (.goto 4, 3) := by decide +kernel
theorem dX0_isOnLine_79 : decode cX0_isOnLine 79 = .ok (.iconst 0, 1) := by decide +kernel
theorem dX0_isOnLine_80 : decode cX0_isOnLine 80 = .ok (.ireturn, 1) := by decide +kernel
set_option maxRecDepth 20000 in
theorem mc_X0_shift_X00 : mjIn wsX0_shift wsX00 := fun w h => (List.mem_cons_of_mem _ (List.mem_append_right _ h))
set_option maxRecDepth 20000 in
theorem ggX0_shift_X0_fieldsOf : GoodIn wsX0_shift wsX0_fieldsOf := mj_good (mj_cons (List.mem_of_getElem? (i := 8) rfl) (mj_app (mj_cons (List.mem_of_getElem? (i := 9) rfl) (mj_cons (List.mem_of_getElem? (i := 3) rfl) mj_nil)) mc_X0_shift_X00)) (by decide +kernel)
set_option maxRecDepth 20000 in
theorem gX0_shift_X0_fieldsOf : GoodIn wsX0_shift (wsV RX0 78 RX0 yX0_fieldsOf wsX0_fieldsOf) := goodIn_app (mj_good (mj_cons (List.mem_of_getElem? (i := 4) rfl) (mj_cons (List.mem_of_getElem? (i := 5) rfl) (mj_cons (List.mem_of_getElem? (i := 6) rfl) (mj_cons (List.mem_of_getElem? (i := 7) rfl) mj_nil)))) (by decide +kernel)) ggX0_shift_X0_fieldsOf
theorem dX0_shift_0 : decode cX0_shift 0 = .ok (.aload_n 0, 1) := by decide +kernel
theorem dX0_shift_1 : decode cX0_shift 1 = .ok (.dup, 1) := by decide +kernel
theorem dX0_shift_2 : decode cX0_shift 2 = .ok (.getfield 55, 3) := by decide +kernel
theorem dX0_shift_5 : decode cX0_shift 5 = .ok (.aload_n 0, 1) := by decide +kernel
theorem dX0_shift_6 : decode cX0_shift 6 = .ok (.iload_n 1, 1) := by decide +kernel
theorem dX0_shift_7 : decode cX0_shift 7 = .ok (.invokevirtual 78, 3) := by decide +kernel
theorem dX0_shift_10 : decode cX0_shift 10 = .ok (.ldc2_w 64, 3) := by decide +kernel
theorem dX0_shift_13 : decode cX0_shift 13 = .ok (.lxor, 1) := by decide +kernel
theorem dX0_shift_14 : decode cX0_shift 14 = .ok (.land, 1) := by decide +kernel
theorem dX0_shift_15 : decode cX0_shift 15 = .ok (.putfield 55, 3) := by decide +kernel
theorem dX0_shift_18 : decode cX0_shift 18 = .ok (.aload_n 0, 1) := by decide +kernel
theorem dX0_shift_19 : decode cX0_shift 19 = .ok (.getfield 15, 3) := by decide +kernel
theorem dX0_shift_22 : decode cX0_shift 22 = .ok (.iload_n 1, 1) := by decide +kernel
theorem dX0_shift_23 : decode cX0_shift 23 = .ok (.dup2, 1) := by decide +kernel
theorem dX0_shift_24 : decode cX0_shift 24 = .ok (.iaload, 1) := by decide +kernel
theorem dX0_shift_25 : decode cX0_shift 25 = .ok (.iload_n 3, 1) := by decide +kernel
theorem dX0_shift_26 : decode cX0_shift 26 = .ok (.getstatic 102, 3) := by decide +kernel
theorem dX0_shift_29 : decode cX0_shift 29 = .ok (.iload_n 2, 1) := by decide +kernel
theorem dX0_shift_30 : decode cX0_shift 30 = .ok (.iaload, 1) := by decide +kernel
theorem dX0_shift_31 : decode cX0_shift 31 = .ok (.imul, 1) := by decide +kernel
theorem dX0_shift_32 : decode cX0_shift 32 = .ok (.iadd, 1) := by decide +kernel
theorem dX0_shift_33 : decode cX0_shift 33 = .ok (.iastore, 1) := by decide +kernel
theorem dX0_shift_34 : decode cX0_shift 34 = .ok (.aload_n 0, 1) := by decide +kernel
theorem dX0_shift_35 : decode cX0_shift 35 = .ok (.dup, 1) := by decide +kernel
theorem dX0_shift_36 : decode cX0_shift 36 = .ok (.getfield 55, 3) := by decide +kernel
theorem dX0_shift_39 : decode cX0_shift 39 = .ok (.aload_n 0, 1) := by decide +kernel
theorem dX0_shift_40 : decode cX0_shift 40 = .ok (.iload_n 1, 1) := by decide +kernel
theorem dX0_shift_41 : decode cX0_shift 41 = .ok (.invokevirtual 78, 3) := by decide +kernel
theorem dX0_shift_44 : decode cX0_shift 44 = .ok (.lor, 1) := by decide +kernel
theorem dX0_shift_45 : decode cX0_shift 45 = .ok (.putfield 55, 3) := by decide +kernel
theorem dX0_shift_48 : decode cX0_shift 48 = .ok (.return_, 1) := by decide +kernel
set_option maxRecDepth 20000 in
theorem mc_X0_hindrance_X0_hindrance_r1 : mjIn wsX0_hindrance wsX0_hindrance_r1 := fun w h => (List.mem_cons_of_mem _ (List.mem_append_left _ (List.mem_append_left _ h)))
set_option maxRecDepth 20000 in
theorem ggX0_hindrance_X6_isBound : GoodIn wsX0_hindrance wsX6_isBound := mj_good (mj_cons (mc_X0_hindrance_X0_hindrance_r1 _ (List.mem_of_getElem? (i := 10) rfl)) mj_nil) (by decide +kernel)
set_option maxRecDepth 20000 in
theorem gX0_hindrance_X6_isBound_n105 : GoodIn wsX0_hindrance (wsX6_isBound) := ggX0_hindrance_X6_isBound
set_option maxRecDepth 20000 in
theorem mc_X0_hindrance_X00 : mjIn wsX0_hindrance wsX00 := fun w h => (List.mem_cons_of_mem _ (List.mem_append_right _ h))
set_option maxRecDepth 20000 in
theorem ggX0_hindrance_X0_isInside : GoodIn wsX0_hindrance wsX0_isInside := mj_good (mj_cons (mc_X0_hindrance_X0_hindrance_r1 _ (List.mem_of_getElem? (i := 15) rfl)) (mj_app (mj_cons (mc_X0_hindrance_X0_hindrance_r1 _ (List.mem_of_getElem? (i := 16) rfl)) (mj_cons (mc_X0_hindrance_X0_hindrance_r1 _ (List.mem_of_getElem? (i := 17) rfl)) mj_nil)) mc_X0_hindrance_X00)) (by decide +kernel)
set_option maxRecDepth 20000 in
theorem gX0_hindrance_X0_isInside : GoodIn wsX0_hindrance (wsV RX0 90 RX0 yX0_isInside wsX0_isInside) := goodIn_app (mj_good (mj_cons (mc_X0_hindrance_X0_hindrance_r1 _ (List.mem_of_getElem? (i := 11) rfl)) (mj_cons (mc_X0_hindrance_X0_hindrance_r1 _ (List.mem_of_getElem? (i := 12) rfl)) (mj_cons (mc_X0_hindrance_X0_hindrance_r1 _ (List.mem_of_getElem? (i := 13) rfl)) (mj_cons (mc_X0_hindrance_X0_hindrance_r1 _ (List.mem_of_getElem? (i := 14) rfl)) mj_nil)))) (by decide +kernel)) ggX0_hindrance_X0_isInside
set_option maxRecDepth 20000 in
theorem ggX0_hindrance_X0_fieldsOf : GoodIn wsX0_hindrance wsX0_fieldsOf := mj_good (mj_cons (mc_X0_hindrance_X0_hindrance_r1 _ (List.mem_of_getElem? (i := 21) rfl)) (mj_app (mj_cons (mc_X0_hindrance_X0_hindrance_r1 _ (List.mem_of_getElem? (i := 4) rfl)) (mj_cons (mc_X0_hindrance_X0_hindrance_r1 _ (List.mem_of_getElem? (i := 22) rfl)) mj_nil)) mc_X0_hindrance_X00)) (by decide +kernel)
set_option maxRecDepth 20000 in
theorem gX0_hindrance_X0_fieldsOf : GoodIn wsX0_hindrance (wsV RX0 78 RX0 yX0_fieldsOf wsX0_fieldsOf) := goodIn_app (mj_good (mj_cons (mc_X0_hindrance_X0_hindrance_r1 _ (List.mem_of_getElem? (i := 18) rfl)) (mj_cons (mc_X0_hindrance_X0_hindrance_r1 _ (List.mem_of_getElem? (i := 19) rfl)) (mj_cons (mc_X0_hindrance_X0_hindrance_r1 _ (List.mem_of_getElem? (i := 20) rfl)) (mj_cons (mc_X0_hindrance_X0_hindrance_r1 _ (List.mem_of_getElem? (i := 14) rfl)) mj_nil)))) (by decide +kernel)) ggX0_hindrance_X0_fieldsOf
set_option maxRecDepth 20000 in
theorem mc_X0_hindrance_X0_hindrance_r2 : mjIn wsX0_hindrance wsX0_hindrance_r2 := fun w h => (List.mem_cons_of_mem _ (List.mem_append_left _ (List.mem_append_right _ h)))
set_option maxRecDepth 20000 in
theorem ggX0_hindrance_X0_beside : GoodIn wsX0_hindrance wsX0_beside := mj_good (mj_cons (mc_X0_hindrance_X0_hindrance_r2 _ (List.mem_of_getElem? (i := 1) rfl)) mj_nil) (by decide +kernel)
set_option maxRecDepth 20000 in
theorem gX0_hindrance_X0_beside : GoodIn wsX0_hindrance (va_wsS RX0 115 yX0_beside wsX0_beside) := goodIn_app (mj_good (mj_cons (mc_X0_hindrance_X0_hindrance_r1 _ (List.mem_of_getElem? (i := 23) rfl)) (mj_cons (mc_X0_hindrance_X0_hindrance_r2 _ (List.mem_of_getElem? (i := 0) rfl)) (mj_cons (mc_X0_hindrance_X0_hindrance_r1 _ (List.mem_of_getElem? (i := 14) rfl)) mj_nil))) (by decide +kernel)) ggX0_hindrance_X0_beside
theorem dX0_hindrance_0 : decode cX0_hindrance 0 = .ok (.iload_n 3, 1) := by decide +kernel
theorem dX0_hindrance_1 : decode cX0_hindrance 1 = .ok (.iconst 1, 1) := by decide +kernel
theorem dX0_hindrance_2 : decode cX0_hindrance 2 = .ok (.iand, 1) := by decide +kernel
theorem dX0_hindrance_3 : decode cX0_hindrance 3 = .ok (.ifCond .ne 7, 3) := by decide +kernel
theorem dX0_hindrance_6 : decode cX0_hindrance 6 = .ok (.iconst 1, 1) := by decide +kernel
theorem dX0_hindrance_7 : decode cX0_hindrance 7 = .ok (.goto 4, 3) := by decide +kernel
theorem dX0_hindrance_10 : decode cX0_hindrance 10 = .ok (.iconst 0, 1) := by decide +kernel
theorem dX0_hindrance_11 : decode cX0_hindrance 11 = .ok (.istore 5, 2) := by decide +kernel
theorem dX0_hindrance_13 : decode cX0_hindrance 13 = .ok (.aload_n 0, 1) := by decide +kernel
theorem dX0_hindrance_14 : decode cX0_hindrance 14 = .ok (.getfield 9, 3) := by decide +kernel
theorem dX0_hindrance_17 : decode cX0_hindrance 17 = .ok (.iload_n 1, 1) := by decide +kernel
theorem dX0_hindrance_18 : decode cX0_hindrance 18 = .ok (.iaload, 1) := by decide +kernel
theorem dX0_hindrance_19 : decode cX0_hindrance 19 = .ok (.invokestatic 105, 3) := by decide +kernel
theorem dX0_hindrance_22 : decode cX0_hindrance 22 = .ok (.ifCond .eq 16, 3) := by decide +kernel
theorem dX0_hindrance_25 : decode cX0_hindrance 25 = .ok (.aload_n 0, 1) := by decide +kernel
theorem dX0_hindrance_26 : decode cX0_hindrance 26 = .ok (.getfield 24, 3) := by decide +kernel
theorem dX0_hindrance_29 : decode cX0_hindrance 29 = .ok (.iload_n 1, 1) := by decide +kernel
theorem dX0_hindrance_30 : decode cX0_hindrance 30 = .ok (.baload, 1) := by decide +kernel
theorem dX0_hindrance_31 : decode cX0_hindrance 31 = .ok (.iload 5, 2) := by decide +kernel
theorem dX0_hindrance_33 : decode cX0_hindrance 33 = .ok (.if_icmp .eq 5, 3) := by decide +kernel
theorem dX0_hindrance_36 : decode cX0_hindrance 36 = .ok (.iconst 1, 1) := by decide +kernel
theorem dX0_hindrance_37 : decode cX0_hindrance 37 = .ok (.ireturn, 1) := by decide +kernel
theorem dX0_hindrance_38 : decode cX0_hindrance 38 = .ok (.iload_n 2, 1) := by decide +kernel
theorem dX0_hindrance_39 : decode cX0_hindrance 39 = .ok (.bipush 7, 2) := by decide +kernel
theorem dX0_hindrance_41 : decode cX0_hindrance 41 = .ok (.iand, 1) := by decide +kernel
theorem dX0_hindrance_42 : decode cX0_hindrance 42 = .ok (.getstatic 109, 3) := by decide +kernel
theorem dX0_hindrance_45 : decode cX0_hindrance 45 = .ok (.iload_n 3, 1) := by decide +kernel
theorem dX0_hindrance_46 : decode cX0_hindrance 46 = .ok (.iaload, 1) := by decide +kernel
theorem dX0_hindrance_47 : decode cX0_hindrance 47 = .ok (.iadd, 1) := by decide +kernel
theorem dX0_hindrance_48 : decode cX0_hindrance 48 = .ok (.istore 6, 2) := by decide +kernel
theorem dX0_hindrance_50 : decode cX0_hindrance 50 = .ok (.iload_n 2, 1) := by decide +kernel
theorem dX0_hindrance_51 : decode cX0_hindrance 51 = .ok (.iconst 3, 1) := by decide +kernel
theorem dX0_hindrance_52 : decode cX0_hindrance 52 = .ok (.ishr, 1) := by decide +kernel
theorem dX0_hindrance_53 : decode cX0_hindrance 53 = .ok (.getstatic 112, 3) := by decide +kernel
theorem dX0_hindrance_56 : decode cX0_hindrance 56 = .ok (.iload_n 3, 1) := by decide +kernel
theorem dX0_hindrance_57 : decode cX0_hindrance 57 = .ok (.iaload, 1) := by decide +kernel
theorem dX0_hindrance_58 : decode cX0_hindrance 58 = .ok (.iadd, 1) := by decide +kernel
theorem dX0_hindrance_59 : decode cX0_hindrance 59 = .ok (.istore 7, 2) := by decide +kernel
theorem dX0_hindrance_61 : decode cX0_hindrance 61 = .ok (.aload_n 0, 1) := by decide +kernel
theorem dX0_hindrance_62 : decode cX0_hindrance 62 = .ok (.iload 6, 2) := by decide +kernel
theorem dX0_hindrance_64 : decode cX0_hindrance 64 = .ok (.iload 7, 2) := by decide +kernel
theorem dX0_hindrance_66 : decode cX0_hindrance 66 = .ok (.aload_n 0, 1) := by decide +kernel
theorem dX0_hindrance_67 : decode cX0_hindrance 67 = .ok (.getfield 28, 3) := by decide +kernel
theorem dX0_hindrance_70 : decode cX0_hindrance 70 = .ok (.iload_n 1, 1) := by decide +kernel
theorem dX0_hindrance_71 : decode cX0_hindrance 71 = .ok (.iaload, 1) := by decide +kernel
theorem dX0_hindrance_72 : decode cX0_hindrance 72 = .ok (.aload_n 0, 1) := by decide +kernel
theorem dX0_hindrance_73 : decode cX0_hindrance 73 = .ok (.getfield 31, 3) := by decide +kernel
theorem dX0_hindrance_76 : decode cX0_hindrance 76 = .ok (.iload_n 1, 1) := by decide +kernel
theorem dX0_hindrance_77 : decode cX0_hindrance 77 = .ok (.iaload, 1) := by decide +kernel
theorem dX0_hindrance_78 : decode cX0_hindrance 78 = .ok (.invokevirtual 90, 3) := by decide +kernel
theorem dX0_hindrance_81 : decode cX0_hindrance 81 = .ok (.ifCond .ne 5, 3) := by decide +kernel
theorem dX0_hindrance_84 : decode cX0_hindrance 84 = .ok (.iconst 2, 1) := by decide +kernel
theorem dX0_hindrance_85 : decode cX0_hindrance 85 = .ok (.ireturn, 1) := by decide +kernel
theorem dX0_hindrance_86 : decode cX0_hindrance 86 = .ok (.iload_n 2, 1) := by decide +kernel
theorem dX0_hindrance_87 : decode cX0_hindrance 87 = .ok (.getstatic 102, 3) := by decide +kernel
theorem dX0_hindrance_90 : decode cX0_hindrance 90 = .ok (.iload_n 3, 1) := by decide +kernel
theorem dX0_hindrance_91 : decode cX0_hindrance 91 = .ok (.iaload, 1) := by decide +kernel
theorem dX0_hindrance_92 : decode cX0_hindrance 92 = .ok (.iadd, 1) := by decide +kernel
theorem dX0_hindrance_93 : decode cX0_hindrance 93 = .ok (.istore 8, 2) := by decide +kernel
theorem dX0_hindrance_95 : decode cX0_hindrance 95 = .ok (.aload_n 0, 1) := by decide +kernel
theorem dX0_hindrance_96 : decode cX0_hindrance 96 = .ok (.getfield 34, 3) := by decide +kernel
theorem dX0_hindrance_99 : decode cX0_hindrance 99 = .ok (.iload_n 1, 1) := by decide +kernel
theorem dX0_hindrance_100 : decode cX0_hindrance 100 = .ok (.laload, 1) := by decide +kernel
theorem dX0_hindrance_101 : decode cX0_hindrance 101 = .ok (.iload 8, 2) := by decide +kernel
theorem dX0_hindrance_103 : decode cX0_hindrance 103 = .ok (.lshl, 1) := by decide +kernel
theorem dX0_hindrance_104 : decode cX0_hindrance 104 = .ok (.lstore 9, 2) := by decide +kernel
theorem dX0_hindrance_106 : decode cX0_hindrance 106 = .ok (.lload 9, 2) := by decide +kernel
theorem dX0_hindrance_108 : decode cX0_hindrance 108 = .ok (.aload_n 0, 1) := by decide +kernel
theorem dX0_hindrance_109 : decode cX0_hindrance 109 = .ok (.getfield 45, 3) := by decide +kernel
theorem dX0_hindrance_112 : decode cX0_hindrance 112 = .ok (.land, 1) := by decide +kernel
theorem dX0_hindrance_113 : decode cX0_hindrance 113 = .ok (.lconst 0, 1) := by decide +kernel
theorem dX0_hindrance_114 : decode cX0_hindrance 114 = .ok (.lcmp, 1) := by decide +kernel
theorem dX0_hindrance_115 : decode cX0_hindrance 115 = .ok (.ifCond .eq 5, 3) := by decide +kernel
theorem dX0_hindrance_118 : decode cX0_hindrance 118 = .ok (.iconst 3, 1) := by decide +kernel
theorem dX0_hindrance_119 : decode cX0_hindrance 119 = .ok (.ireturn, 1) := by decide +kernel
theorem dX0_hindrance_120 : decode cX0_hindrance 120 = .ok (.aload_n 0, 1) := by decide +kernel
theorem dX0_hindrance_121 : decode cX0_hindrance 121 = .ok (.getfield 55, 3) := by decide +kernel
theorem dX0_hindrance_124 : decode cX0_hindrance 124 = .ok (.aload_n 0, 1) := by decide +kernel
theorem dX0_hindrance_125 : decode cX0_hindrance 125 = .ok (.iload_n 1, 1) := by decide +kernel
theorem dX0_hindrance_126 : decode cX0_hindrance 126 = .ok (.invokevirtual 78, 3) := by decide +kernel
theorem dX0_hindrance_129 : decode cX0_hindrance 129 = .ok (.ldc2_w 64, 3) := by decide +kernel
theorem dX0_hindrance_132 : decode cX0_hindrance 132 = .ok (.lxor, 1) := by decide +kernel
theorem dX0_hindrance_133 : decode cX0_hindrance 133 = .ok (.land, 1) := by decide +kernel
theorem dX0_hindrance_134 : decode cX0_hindrance 134 = .ok (.lstore 11, 2) := by decide +kernel
theorem dX0_hindrance_136 : decode cX0_hindrance 136 = .ok (.lload 9, 2) := by decide +kernel
theorem dX0_hindrance_138 : decode cX0_hindrance 138 = .ok (.lload 11, 2) := by decide +kernel
theorem dX0_hindrance_140 : decode cX0_hindrance 140 = .ok (.land, 1) := by decide +kernel
theorem dX0_hindrance_141 : decode cX0_hindrance 141 = .ok (.lconst 0, 1) := by decide +kernel
theorem dX0_hindrance_142 : decode cX0_hindrance 142 = .ok (.lcmp, 1) := by decide +kernel
theorem dX0_hindrance_143 : decode cX0_hindrance 143 = .ok (.ifCond .eq 5, 3) := by decide +kernel
theorem dX0_hindrance_146 : decode cX0_hindrance 146 = .ok (.iconst 4, 1) := by decide +kernel
theorem dX0_hindrance_147 : decode cX0_hindrance 147 = .ok (.ireturn, 1) := by decide +kernel
theorem dX0_hindrance_148 : decode cX0_hindrance 148 = .ok (.aload_n 0, 1) := by decide +kernel
theorem dX0_hindrance_149 : decode cX0_hindrance 149 = .ok (.getfield 9, 3) := by decide +kernel
theorem dX0_hindrance_152 : decode cX0_hindrance 152 = .ok (.iload_n 1, 1) := by decide +kernel
theorem dX0_hindrance_153 : decode cX0_hindrance 153 = .ok (.iaload, 1) := by decide +kernel
theorem dX0_hindrance_154 : decode cX0_hindrance 154 = .ok (.iconst 4, 1) := by decide +kernel
theorem dX0_hindrance_155 : decode cX0_hindrance 155 = .ok (.if_icmp .ne 29, 3) := by decide +kernel
theorem dX0_hindrance_158 : decode cX0_hindrance 158 = .ok (.iload 4, 2) := by decide +kernel
theorem dX0_hindrance_160 : decode cX0_hindrance 160 = .ok (.ifCond .eq 8, 3) := by decide +kernel
theorem dX0_hindrance_163 : decode cX0_hindrance 163 = .ok (.iload 8, 2) := by decide +kernel
theorem dX0_hindrance_165 : decode cX0_hindrance 165 = .ok (.goto 4, 3) := by decide +kernel
theorem dX0_hindrance_168 : decode cX0_hindrance 168 = .ok (.iload_n 2, 1) := by decide +kernel
theorem dX0_hindrance_169 : decode cX0_hindrance 169 = .ok (.invokestatic 115, 3) := by decide +kernel
theorem dX0_hindrance_172 : decode cX0_hindrance 172 = .ok (.lload 11, 2) := by decide +kernel
theorem dX0_hindrance_174 : decode cX0_hindrance 174 = .ok (.land, 1) := by decide +kernel
theorem dX0_hindrance_175 : decode cX0_hindrance 175 = .ok (.lconst 0, 1) := by decide +kernel
theorem dX0_hindrance_176 : decode cX0_hindrance 176 = .ok (.lcmp, 1) := by decide +kernel
theorem dX0_hindrance_177 : decode cX0_hindrance 177 = .ok (.ifCond .eq 7, 3) := by decide +kernel
theorem dX0_hindrance_180 : decode cX0_hindrance 180 = .ok (.iconst 5, 1) := by decide +kernel
theorem dX0_hindrance_181 : decode cX0_hindrance 181 = .ok (.goto 4, 3) := by decide +kernel
theorem dX0_hindrance_184 : decode cX0_hindrance 184 = .ok (.iconst 0, 1) := by decide +kernel
theorem dX0_hindrance_185 : decode cX0_hindrance 185 = .ok (.ireturn, 1) := by decide +kernel
set_option maxRecDepth 20000 in
theorem mc_X0_hinderer_X00 : mjIn wsX0_hinderer wsX00 := fun w h => (List.mem_cons_of_mem _ (List.mem_append_right _ h))
set_option maxRecDepth 20000 in
theorem ggX0_hinderer_X0_firstIn : GoodIn wsX0_hinderer wsX0_firstIn := mj_good (mj_cons (List.mem_of_getElem? (i := 6) rfl) (mj_app (mj_cons (List.mem_of_getElem? (i := 7) rfl) (mj_cons (List.mem_of_getElem? (i := 8) rfl) (mj_cons (List.mem_of_getElem? (i := 9) rfl) (mj_cons (List.mem_of_getElem? (i := 10) rfl) (mj_cons (List.mem_of_getElem? (i := 5) rfl) (mj_cons (List.mem_of_getElem? (i := 11) rfl) (mj_cons (List.mem_of_getElem? (i := 1) rfl) (mj_cons (List.mem_of_getElem? (i := 12) rfl) mj_nil)))))))) mc_X0_hinderer_X00)) (by decide +kernel)
set_option maxRecDepth 20000 in
theorem gX0_hinderer_X0_firstIn : GoodIn wsX0_hinderer (wsV RX0 70 RX0 yX0_firstIn wsX0_firstIn) := goodIn_app (mj_good (mj_cons (List.mem_of_getElem? (i := 2) rfl) (mj_cons (List.mem_of_getElem? (i := 3) rfl) (mj_cons (List.mem_of_getElem? (i := 4) rfl) (mj_cons (List.mem_of_getElem? (i := 5) rfl) mj_nil)))) (by decide +kernel)) ggX0_hinderer_X0_firstIn
set_option maxRecDepth 20000 in
theorem ggX0_hinderer_X0_beside : GoodIn wsX0_hinderer wsX0_beside := mj_good (mj_cons (List.mem_of_getElem? (i := 15) rfl) mj_nil) (by decide +kernel)
set_option maxRecDepth 20000 in
theorem gX0_hinderer_X0_beside : GoodIn wsX0_hinderer (va_wsS RX0 115 yX0_beside wsX0_beside) := goodIn_app (mj_good (mj_cons (List.mem_of_getElem? (i := 13) rfl) (mj_cons (List.mem_of_getElem? (i := 14) rfl) (mj_cons (List.mem_of_getElem? (i := 5) rfl) mj_nil))) (by decide +kernel)) ggX0_hinderer_X0_beside
theorem dX0_hinderer_0 : decode cX0_hinderer 0 = .ok (.iload 4, 2) := by decide +kernel
theorem dX0_hinderer_2 : decode cX0_hinderer 2 = .ok (.iconst 4, 1) := by decide +kernel
theorem dX0_hinderer_3 : decode cX0_hinderer 3 = .ok (.if_icmp .ne 23, 3) := by decide +kernel
theorem dX0_hinderer_6 : decode cX0_hinderer 6 = .ok (.aload_n 0, 1) := by decide +kernel
theorem dX0_hinderer_7 : decode cX0_hinderer 7 = .ok (.aload_n 0, 1) := by decide +kernel
theorem dX0_hinderer_8 : decode cX0_hinderer 8 = .ok (.getfield 34, 3) := by decide +kernel
theorem dX0_hinderer_11 : decode cX0_hinderer 11 = .ok (.iload_n 1, 1) := by decide +kernel
theorem dX0_hinderer_12 : decode cX0_hinderer 12 = .ok (.laload, 1) := by decide +kernel
theorem dX0_hinderer_13 : decode cX0_hinderer 13 = .ok (.iload_n 2, 1) := by decide +kernel
theorem dX0_hinderer_14 : decode cX0_hinderer 14 = .ok (.getstatic 102, 3) := by decide +kernel
theorem dX0_hinderer_17 : decode cX0_hinderer 17 = .ok (.iload_n 3, 1) := by decide +kernel
theorem dX0_hinderer_18 : decode cX0_hinderer 18 = .ok (.iaload, 1) := by decide +kernel
theorem dX0_hinderer_19 : decode cX0_hinderer 19 = .ok (.iadd, 1) := by decide +kernel
theorem dX0_hinderer_20 : decode cX0_hinderer 20 = .ok (.lshl, 1) := by decide +kernel
theorem dX0_hinderer_21 : decode cX0_hinderer 21 = .ok (.iload_n 1, 1) := by decide +kernel
theorem dX0_hinderer_22 : decode cX0_hinderer 22 = .ok (.invokevirtual 70, 3) := by decide +kernel
theorem dX0_hinderer_25 : decode cX0_hinderer 25 = .ok (.ireturn, 1) := by decide +kernel
theorem dX0_hinderer_26 : decode cX0_hinderer 26 = .ok (.iload 4, 2) := by decide +kernel
theorem dX0_hinderer_28 : decode cX0_hinderer 28 = .ok (.iconst 5, 1) := by decide +kernel
theorem dX0_hinderer_29 : decode cX0_hinderer 29 = .ok (.if_icmp .ne 15, 3) := by decide +kernel
theorem dX0_hinderer_32 : decode cX0_hinderer 32 = .ok (.aload_n 0, 1) := by decide +kernel
theorem dX0_hinderer_33 : decode cX0_hinderer 33 = .ok (.iload_n 2, 1) := by decide +kernel
theorem dX0_hinderer_34 : decode cX0_hinderer 34 = .ok (.invokestatic 115, 3) := by decide +kernel
theorem dX0_hinderer_37 : decode cX0_hinderer 37 = .ok (.iload_n 1, 1) := by decide +kernel
theorem dX0_hinderer_38 : decode cX0_hinderer 38 = .ok (.invokevirtual 70, 3) := by decide +kernel
theorem dX0_hinderer_41 : decode cX0_hinderer 41 = .ok (.goto 4, 3) := by decide +kernel
theorem dX0_hinderer_44 : decode cX0_hinderer 44 = .ok (.iconst (-1), 1) := by decide +kernel
theorem dX0_hinderer_45 : decode cX0_hinderer 45 = .ok (.ireturn, 1) := by decide +kernel
theorem dX0_beside_0 : decode cX0_beside 0 = .ok (.lconst 1, 1) := by decide +kernel
theorem dX0_beside_1 : decode cX0_beside 1 = .ok (.iload_n 0, 1) := by decide +kernel
theorem dX0_beside_2 : decode cX0_beside 2 = .ok (.lshl, 1) := by decide +kernel
theorem dX0_beside_3 : decode cX0_beside 3 = .ok (.lstore_n 1, 1) := by decide +kernel
theorem dX0_beside_4 : decode cX0_beside 4 = .ok (.lload_n 1, 1) := by decide +kernel
theorem dX0_beside_5 : decode cX0_beside 5 = .ok (.bipush 8, 2) := by decide +kernel
theorem dX0_beside_7 : decode cX0_beside 7 = .ok (.lshl, 1) := by decide +kernel
theorem dX0_beside_8 : decode cX0_beside 8 = .ok (.lload_n 1, 1) := by decide +kernel
theorem dX0_beside_9 : decode cX0_beside 9 = .ok (.bipush 8, 2) := by decide +kernel
theorem dX0_beside_11 : decode cX0_beside 11 = .ok (.lushr, 1) := by decide +kernel
theorem dX0_beside_12 : decode cX0_beside 12 = .ok (.lor, 1) := by decide +kernel
theorem dX0_beside_13 : decode cX0_beside 13 = .ok (.lstore_n 3, 1) := by decide +kernel
theorem dX0_beside_14 : decode cX0_beside 14 = .ok (.iload_n 0, 1) := by decide +kernel
theorem dX0_beside_15 : decode cX0_beside 15 = .ok (.bipush 7, 2) := by decide +kernel
theorem dX0_beside_17 : decode cX0_beside 17 = .ok (.iand, 1) := by decide +kernel
theorem dX0_beside_18 : decode cX0_beside 18 = .ok (.ifCond .le 9, 3) := by decide +kernel
theorem dX0_beside_21 : decode cX0_beside 21 = .ok (.lload_n 3, 1) := by decide +kernel
theorem dX0_beside_22 : decode cX0_beside 22 = .ok (.lload_n 1, 1) := by decide +kernel
theorem dX0_beside_23 : decode cX0_beside 23 = .ok (.iconst 1, 1) := by decide +kernel
theorem dX0_beside_24 : decode cX0_beside 24 = .ok (.lushr, 1) := by decide +kernel
theorem dX0_beside_25 : decode cX0_beside 25 = .ok (.lor, 1) := by decide +kernel
theorem dX0_beside_26 : decode cX0_beside 26 = .ok (.lstore_n 3, 1) := by decide +kernel
theorem dX0_beside_27 : decode cX0_beside 27 = .ok (.iload_n 0, 1) := by decide +kernel
theorem dX0_beside_28 : decode cX0_beside 28 = .ok (.bipush 7, 2) := by decide +kernel
theorem dX0_beside_30 : decode cX0_beside 30 = .ok (.iand, 1) := by decide +kernel
theorem dX0_beside_31 : decode cX0_beside 31 = .ok (.bipush 7, 2) := by decide +kernel
theorem dX0_beside_33 : decode cX0_beside 33 = .ok (.if_icmp .ge 9, 3) := by decide +kernel
theorem dX0_beside_36 : decode cX0_beside 36 = .ok (.lload_n 3, 1) := by decide +kernel
theorem dX0_beside_37 : decode cX0_beside 37 = .ok (.lload_n 1, 1) := by decide +kernel
theorem dX0_beside_38 : decode cX0_beside 38 = .ok (.iconst 1, 1) := by decide +kernel
theorem dX0_beside_39 : decode cX0_beside 39 = .ok (.lshl, 1) := by decide +kernel
theorem dX0_beside_40 : decode cX0_beside 40 = .ok (.lor, 1) := by decide +kernel
theorem dX0_beside_41 : decode cX0_beside 41 = .ok (.lstore_n 3, 1) := by decide +kernel
theorem dX0_beside_42 : decode cX0_beside 42 = .ok (.lload_n 3, 1) := by decide +kernel
theorem dX0_beside_43 : decode cX0_beside 43 = .ok (.lreturn, 1) := by decide +kernel
set_option maxRecDepth 20000 in
theorem mc_X0_stepsFrom_X0_stepsFrom_r1 : mjIn wsX0_stepsFrom wsX0_stepsFrom_r1 := fun w h => (List.mem_cons_of_mem _ (List.mem_append_left _ (List.mem_append_left _ h)))
set_option maxRecDepth 20000 in
theorem mc_X0_stepsFrom_X0_stepsFrom_r2 : mjIn wsX0_stepsFrom wsX0_stepsFrom_r2 := fun w h => (List.mem_cons_of_mem _ (List.mem_append_left _ (List.mem_append_right _ h)))
set_option maxRecDepth 20000 in
theorem mc_X0_stepsFrom_X00 : mjIn wsX0_stepsFrom wsX00 := fun w h => (List.mem_cons_of_mem _ (List.mem_append_right _ h))
set_option maxRecDepth 20000 in
theorem ggX0_stepsFrom_X0_hindrance : GoodIn wsX0_stepsFrom wsX0_hindrance := mj_good (mj_cons (mc_X0_stepsFrom_X0_stepsFrom_r1 _ (List.mem_of_getElem? (i := 5) rfl)) (mj_app (mj_app (mj_cons (mc_X0_stepsFrom_X0_stepsFrom_r1 _ (List.mem_of_getElem? (i := 6) rfl)) (mj_cons (mc_X0_stepsFrom_X0_stepsFrom_r1 _ (List.mem_of_getElem? (i := 7) rfl)) (mj_cons (mc_X0_stepsFrom_X0_stepsFrom_r1 _ (List.mem_of_getElem? (i := 8) rfl)) (mj_cons (mc_X0_stepsFrom_X0_stepsFrom_r1 _ (List.mem_of_getElem? (i := 9) rfl)) (mj_cons (mc_X0_stepsFrom_X0_stepsFrom_r1 _ (List.mem_of_getElem? (i := 10) rfl)) (mj_cons (mc_X0_stepsFrom_X0_stepsFrom_r1 _ (List.mem_of_getElem? (i := 11) rfl)) (mj_cons (mc_X0_stepsFrom_X0_stepsFrom_r1 _ (List.mem_of_getElem? (i := 12) rfl)) (mj_cons (mc_X0_stepsFrom_X0_stepsFrom_r1 _ (List.mem_of_getElem? (i := 13) rfl)) (mj_cons (mc_X0_stepsFrom_X0_stepsFrom_r1 _ (List.mem_of_getElem? (i := 14) rfl)) (mj_cons (mc_X0_stepsFrom_X0_stepsFrom_r1 _ (List.mem_of_getElem? (i := 15) rfl)) (mj_cons (mc_X0_stepsFrom_X0_stepsFrom_r1 _ (List.mem_of_getElem? (i := 16) rfl)) (mj_cons (mc_X0_stepsFrom_X0_stepsFrom_r1 _ (List.mem_of_getElem? (i := 17) rfl)) (mj_cons (mc_X0_stepsFrom_X0_stepsFrom_r1 _ (List.mem_of_getElem? (i := 18) rfl)) (mj_cons (mc_X0_stepsFrom_X0_stepsFrom_r1 _ (List.mem_of_getElem? (i := 19) rfl)) (mj_cons (mc_X0_stepsFrom_X0_stepsFrom_r1 _ (List.mem_of_getElem? (i := 4) rfl)) (mj_cons (mc_X0_stepsFrom_X0_stepsFrom_r1 _ (List.mem_of_getElem? (i := 20) rfl)) (mj_cons (mc_X0_stepsFrom_X0_stepsFrom_r1 _ (List.mem_of_getElem? (i := 21) rfl)) (mj_cons (mc_X0_stepsFrom_X0_stepsFrom_r1 _ (List.mem_of_getElem? (i := 22) rfl)) (mj_cons (mc_X0_stepsFrom_X0_stepsFrom_r1 _ (List.mem_of_getElem? (i := 23) rfl)) (mj_cons (mc_X0_stepsFrom_X0_stepsFrom_r2 _ (List.mem_of_getElem? (i := 0) rfl)) (mj_cons (mc_X0_stepsFrom_X0_stepsFrom_r2 _ (List.mem_of_getElem? (i := 1) rfl)) (mj_cons (mc_X0_stepsFrom_X0_stepsFrom_r2 _ (List.mem_of_getElem? (i := 2) rfl)) (mj_cons (mc_X0_stepsFrom_X0_stepsFrom_r1 _ (List.mem_of_getElem? (i := 0) rfl)) (mj_cons (mc_X0_stepsFrom_X0_stepsFrom_r2 _ (List.mem_of_getElem? (i := 3) rfl)) mj_nil)))))))))))))))))))))))) (mj_cons (mc_X0_stepsFrom_X0_stepsFrom_r2 _ (List.mem_of_getElem? (i := 4) rfl)) (mj_cons (mc_X0_stepsFrom_X0_stepsFrom_r2 _ (List.mem_of_getElem? (i := 5) rfl)) mj_nil))) mc_X0_stepsFrom_X00)) (by decide +kernel)
set_option maxRecDepth 20000 in
theorem gX0_stepsFrom_X0_hindrance : GoodIn wsX0_stepsFrom (wsV RX0 118 RX0 yX0_hindrance wsX0_hindrance) := goodIn_app (mj_good (mj_cons (mc_X0_stepsFrom_X0_stepsFrom_r1 _ (List.mem_of_getElem? (i := 1) rfl)) (mj_cons (mc_X0_stepsFrom_X0_stepsFrom_r1 _ (List.mem_of_getElem? (i := 2) rfl)) (mj_cons (mc_X0_stepsFrom_X0_stepsFrom_r1 _ (List.mem_of_getElem? (i := 3) rfl)) (mj_cons (mc_X0_stepsFrom_X0_stepsFrom_r1 _ (List.mem_of_getElem? (i := 4) rfl)) mj_nil)))) (by decide +kernel)) ggX0_stepsFrom_X0_hindrance
theorem dX0_stepsFrom_0 : decode cX0_stepsFrom 0 = .ok (.aload_n 0, 1) := by decide +kernel
theorem dX0_stepsFrom_1 : decode cX0_stepsFrom 1 = .ok (.getfield 15, 3) := by decide +kernel
theorem dX0_stepsFrom_4 : decode cX0_stepsFrom 4 = .ok (.iload_n 1, 1) := by decide +kernel
theorem dX0_stepsFrom_5 : decode cX0_stepsFrom 5 = .ok (.iaload, 1) := by decide +kernel
theorem dX0_stepsFrom_6 : decode cX0_stepsFrom 6 = .ok (.istore 4, 2) := by decide +kernel
theorem dX0_stepsFrom_8 : decode cX0_stepsFrom 8 = .ok (.iconst 0, 1) := by decide +kernel
theorem dX0_stepsFrom_9 : decode cX0_stepsFrom 9 = .ok (.istore 5, 2) := by decide +kernel
theorem dX0_stepsFrom_11 : decode cX0_stepsFrom 11 = .ok (.iload 5, 2) := by decide +kernel
theorem dX0_stepsFrom_13 : decode cX0_stepsFrom 13 = .ok (.bipush 7, 2) := by decide +kernel
theorem dX0_stepsFrom_15 : decode cX0_stepsFrom 15 = .ok (.if_icmp .ge 31, 3) := by decide +kernel
theorem dX0_stepsFrom_18 : decode cX0_stepsFrom 18 = .ok (.aload_n 0, 1) := by decide +kernel
theorem dX0_stepsFrom_19 : decode cX0_stepsFrom 19 = .ok (.iload_n 1, 1) := by decide +kernel
theorem dX0_stepsFrom_20 : decode cX0_stepsFrom 20 = .ok (.iload 4, 2) := by decide +kernel
theorem dX0_stepsFrom_22 : decode cX0_stepsFrom 22 = .ok (.iload_n 2, 1) := by decide +kernel
theorem dX0_stepsFrom_23 : decode cX0_stepsFrom 23 = .ok (.iload_n 3, 1) := by decide +kernel
theorem dX0_stepsFrom_24 : decode cX0_stepsFrom 24 = .ok (.invokevirtual 118, 3) := by decide +kernel
theorem dX0_stepsFrom_27 : decode cX0_stepsFrom 27 = .ok (.ifCond .ne 19, 3) := by decide +kernel
theorem dX0_stepsFrom_30 : decode cX0_stepsFrom 30 = .ok (.iload 4, 2) := by decide +kernel
theorem dX0_stepsFrom_32 : decode cX0_stepsFrom 32 = .ok (.getstatic 102, 3) := by decide +kernel
theorem dX0_stepsFrom_35 : decode cX0_stepsFrom 35 = .ok (.iload_n 2, 1) := by decide +kernel
theorem dX0_stepsFrom_36 : decode cX0_stepsFrom 36 = .ok (.iaload, 1) := by decide +kernel
theorem dX0_stepsFrom_37 : decode cX0_stepsFrom 37 = .ok (.iadd, 1) := by decide +kernel
theorem dX0_stepsFrom_38 : decode cX0_stepsFrom 38 = .ok (.istore 4, 2) := by decide +kernel
theorem dX0_stepsFrom_40 : decode cX0_stepsFrom 40 = .ok (.iinc 5 1, 3) := by decide +kernel
theorem dX0_stepsFrom_43 : decode cX0_stepsFrom 43 = .ok (.goto (-32), 3) := by decide +kernel
theorem dX0_stepsFrom_46 : decode cX0_stepsFrom 46 = .ok (.iload 5, 2) := by decide +kernel
theorem dX0_stepsFrom_48 : decode cX0_stepsFrom 48 = .ok (.ireturn, 1) := by decide +kernel
theorem dX0_isAway_0 : decode cX0_isAway 0 = .ok (.aload_n 0, 1) := by decide +kernel
theorem dX0_isAway_1 : decode cX0_isAway 1 = .ok (.getfield 9, 3) := by decide +kernel
theorem dX0_isAway_4 : decode cX0_isAway 4 = .ok (.iload_n 1, 1) := by decide +kernel
theorem dX0_isAway_5 : decode cX0_isAway 5 = .ok (.iaload, 1) := by decide +kernel
theorem dX0_isAway_6 : decode cX0_isAway 6 = .ok (.iconst 5, 1) := by decide +kernel
theorem dX0_isAway_7 : decode cX0_isAway 7 = .ok (.if_icmp .ne 22, 3) := by decide +kernel
theorem dX0_isAway_10 : decode cX0_isAway 10 = .ok (.aload_n 0, 1) := by decide +kernel
theorem dX0_isAway_11 : decode cX0_isAway 11 = .ok (.getfield 15, 3) := by decide +kernel
theorem dX0_isAway_14 : decode cX0_isAway 14 = .ok (.iload_n 1, 1) := by decide +kernel
theorem dX0_isAway_15 : decode cX0_isAway 15 = .ok (.iaload, 1) := by decide +kernel
theorem dX0_isAway_16 : decode cX0_isAway 16 = .ok (.aload_n 0, 1) := by decide +kernel
theorem dX0_isAway_17 : decode cX0_isAway 17 = .ok (.getfield 21, 3) := by decide +kernel
theorem dX0_isAway_20 : decode cX0_isAway 20 = .ok (.iload_n 1, 1) := by decide +kernel
theorem dX0_isAway_21 : decode cX0_isAway 21 = .ok (.iaload, 1) := by decide +kernel
theorem dX0_isAway_22 : decode cX0_isAway 22 = .ok (.if_icmp .eq 7, 3) := by decide +kernel
theorem dX0_isAway_25 : decode cX0_isAway 25 = .ok (.iconst 1, 1) := by decide +kernel
theorem dX0_isAway_26 : decode cX0_isAway 26 = .ok (.goto 4, 3) := by decide +kernel
theorem dX0_isAway_29 : decode cX0_isAway 29 = .ok (.iconst 0, 1) := by decide +kernel
theorem dX0_isAway_30 : decode cX0_isAway 30 = .ok (.ireturn, 1) := by decide +kernel
set_option maxRecDepth 20000 in
theorem mc_X0_isFreed_X00 : mjIn wsX0_isFreed wsX00 := fun w h => (List.mem_cons_of_mem _ (List.mem_append_right _ h))
set_option maxRecDepth 20000 in
theorem ggX0_isFreed_X0_isAway : GoodIn wsX0_isFreed wsX0_isAway := mj_good (mj_cons (List.mem_of_getElem? (i := 6) rfl) (mj_app (mj_cons (List.mem_of_getElem? (i := 7) rfl) (mj_cons (List.mem_of_getElem? (i := 8) rfl) (mj_cons (List.mem_of_getElem? (i := 9) rfl) mj_nil))) mc_X0_isFreed_X00)) (by decide +kernel)
set_option maxRecDepth 20000 in
theorem gX0_isFreed_X0_isAway : GoodIn wsX0_isFreed (wsV RX0 122 RX0 yX0_isAway wsX0_isAway) := goodIn_app (mj_good (mj_cons (List.mem_of_getElem? (i := 2) rfl) (mj_cons (List.mem_of_getElem? (i := 3) rfl) (mj_cons (List.mem_of_getElem? (i := 4) rfl) (mj_cons (List.mem_of_getElem? (i := 5) rfl) mj_nil)))) (by decide +kernel)) ggX0_isFreed_X0_isAway
theorem dX0_isFreed_0 : decode cX0_isFreed 0 = .ok (.iconst 0, 1) := by decide +kernel
theorem dX0_isFreed_1 : decode cX0_isFreed 1 = .ok (.istore_n 1, 1) := by decide +kernel
theorem dX0_isFreed_2 : decode cX0_isFreed 2 = .ok (.iload_n 1, 1) := by decide +kernel
theorem dX0_isFreed_3 : decode cX0_isFreed 3 = .ok (.aload_n 0, 1) := by decide +kernel
theorem dX0_isFreed_4 : decode cX0_isFreed 4 = .ok (.getfield 52, 3) := by decide +kernel
theorem dX0_isFreed_7 : decode cX0_isFreed 7 = .ok (.if_icmp .ge 19, 3) := by decide +kernel
theorem dX0_isFreed_10 : decode cX0_isFreed 10 = .ok (.aload_n 0, 1) := by decide +kernel
theorem dX0_isFreed_11 : decode cX0_isFreed 11 = .ok (.iload_n 1, 1) := by decide +kernel
theorem dX0_isFreed_12 : decode cX0_isFreed 12 = .ok (.invokevirtual 122, 3) := by decide +kernel
theorem dX0_isFreed_15 : decode cX0_isFreed 15 = .ok (.ifCond .eq 5, 3) := by decide +kernel
theorem dX0_isFreed_18 : decode cX0_isFreed 18 = .ok (.iconst 0, 1) := by decide +kernel
theorem dX0_isFreed_19 : decode cX0_isFreed 19 = .ok (.ireturn, 1) := by decide +kernel
theorem dX0_isFreed_20 : decode cX0_isFreed 20 = .ok (.iinc 1 1, 3) := by decide +kernel
theorem dX0_isFreed_23 : decode cX0_isFreed 23 = .ok (.goto (-21), 3) := by decide +kernel
theorem dX0_isFreed_26 : decode cX0_isFreed 26 = .ok (.iconst 1, 1) := by decide +kernel
theorem dX0_isFreed_27 : decode cX0_isFreed 27 = .ok (.ireturn, 1) := by decide +kernel
set_option maxRecDepth 20000 in
theorem mc_X0_countLow_X0_countLow_r1 : mjIn wsX0_countLow wsX0_countLow_r1 := fun w h => (List.mem_cons_of_mem _ (List.mem_append_left _ (List.mem_append_left _ h)))
set_option maxRecDepth 20000 in
theorem mc_X0_countLow_X00 : mjIn wsX0_countLow wsX00 := fun w h => (List.mem_cons_of_mem _ (List.mem_append_right _ h))
set_option maxRecDepth 20000 in
theorem ggX0_countLow_X0_isAway : GoodIn wsX0_countLow wsX0_isAway := mj_good (mj_cons (mc_X0_countLow_X0_countLow_r1 _ (List.mem_of_getElem? (i := 5) rfl)) (mj_app (mj_cons (mc_X0_countLow_X0_countLow_r1 _ (List.mem_of_getElem? (i := 6) rfl)) (mj_cons (mc_X0_countLow_X0_countLow_r1 _ (List.mem_of_getElem? (i := 7) rfl)) (mj_cons (mc_X0_countLow_X0_countLow_r1 _ (List.mem_of_getElem? (i := 8) rfl)) mj_nil))) mc_X0_countLow_X00)) (by decide +kernel)
set_option maxRecDepth 20000 in
theorem gX0_countLow_X0_isAway : GoodIn wsX0_countLow (wsV RX0 122 RX0 yX0_isAway wsX0_isAway) := goodIn_app (mj_good (mj_cons (mc_X0_countLow_X0_countLow_r1 _ (List.mem_of_getElem? (i := 1) rfl)) (mj_cons (mc_X0_countLow_X0_countLow_r1 _ (List.mem_of_getElem? (i := 2) rfl)) (mj_cons (mc_X0_countLow_X0_countLow_r1 _ (List.mem_of_getElem? (i := 3) rfl)) (mj_cons (mc_X0_countLow_X0_countLow_r1 _ (List.mem_of_getElem? (i := 4) rfl)) mj_nil)))) (by decide +kernel)) ggX0_countLow_X0_isAway
set_option maxRecDepth 20000 in
theorem ggX0_countLow_X0_wayOf : GoodIn wsX0_countLow wsX0_wayOf := mj_good (mj_cons (mc_X0_countLow_X0_countLow_r1 _ (List.mem_of_getElem? (i := 12) rfl)) (mj_app (mj_cons (mc_X0_countLow_X0_countLow_r1 _ (List.mem_of_getElem? (i := 13) rfl)) (mj_cons (mc_X0_countLow_X0_countLow_r1 _ (List.mem_of_getElem? (i := 7) rfl)) (mj_cons (mc_X0_countLow_X0_countLow_r1 _ (List.mem_of_getElem? (i := 8) rfl)) (mj_cons (mc_X0_countLow_X0_countLow_r1 _ (List.mem_of_getElem? (i := 14) rfl)) (mj_cons (mc_X0_countLow_X0_countLow_r1 _ (List.mem_of_getElem? (i := 15) rfl)) (mj_cons (mc_X0_countLow_X0_countLow_r1 _ (List.mem_of_getElem? (i := 16) rfl)) (mj_cons (mc_X0_countLow_X0_countLow_r1 _ (List.mem_of_getElem? (i := 17) rfl)) (mj_cons (mc_X0_countLow_X0_countLow_r1 _ (List.mem_of_getElem? (i := 18) rfl)) (mj_cons (mc_X0_countLow_X0_countLow_r1 _ (List.mem_of_getElem? (i := 19) rfl)) (mj_cons (mc_X0_countLow_X0_countLow_r1 _ (List.mem_of_getElem? (i := 20) rfl)) (mj_cons (mc_X0_countLow_X0_countLow_r1 _ (List.mem_of_getElem? (i := 21) rfl)) mj_nil))))))))))) mc_X0_countLow_X00)) (by decide +kernel)
set_option maxRecDepth 20000 in
theorem gX0_countLow_X0_wayOf : GoodIn wsX0_countLow (wsV RX0 125 RX0 yX0_wayOf wsX0_wayOf) := goodIn_app (mj_good (mj_cons (mc_X0_countLow_X0_countLow_r1 _ (List.mem_of_getElem? (i := 9) rfl)) (mj_cons (mc_X0_countLow_X0_countLow_r1 _ (List.mem_of_getElem? (i := 10) rfl)) (mj_cons (mc_X0_countLow_X0_countLow_r1 _ (List.mem_of_getElem? (i := 11) rfl)) (mj_cons (mc_X0_countLow_X0_countLow_r1 _ (List.mem_of_getElem? (i := 4) rfl)) mj_nil)))) (by decide +kernel)) ggX0_countLow_X0_wayOf
set_option maxRecDepth 20000 in
theorem mc_X0_countLow_X0_countLow_r2 : mjIn wsX0_countLow wsX0_countLow_r2 := fun w h => (List.mem_cons_of_mem _ (List.mem_append_left _ (List.mem_append_right _ h)))
set_option maxRecDepth 20000 in
theorem ggX0_countLow_X0_fieldsOf : GoodIn wsX0_countLow wsX0_fieldsOf := mj_good (mj_cons (mc_X0_countLow_X0_countLow_r2 _ (List.mem_of_getElem? (i := 1) rfl)) (mj_app (mj_cons (mc_X0_countLow_X0_countLow_r1 _ (List.mem_of_getElem? (i := 21) rfl)) (mj_cons (mc_X0_countLow_X0_countLow_r1 _ (List.mem_of_getElem? (i := 7) rfl)) mj_nil)) mc_X0_countLow_X00)) (by decide +kernel)
set_option maxRecDepth 20000 in
theorem gX0_countLow_X0_fieldsOf : GoodIn wsX0_countLow (wsV RX0 78 RX0 yX0_fieldsOf wsX0_fieldsOf) := goodIn_app (mj_good (mj_cons (mc_X0_countLow_X0_countLow_r1 _ (List.mem_of_getElem? (i := 22) rfl)) (mj_cons (mc_X0_countLow_X0_countLow_r1 _ (List.mem_of_getElem? (i := 23) rfl)) (mj_cons (mc_X0_countLow_X0_countLow_r2 _ (List.mem_of_getElem? (i := 0) rfl)) (mj_cons (mc_X0_countLow_X0_countLow_r1 _ (List.mem_of_getElem? (i := 4) rfl)) mj_nil)))) (by decide +kernel)) ggX0_countLow_X0_fieldsOf
theorem dX0_countLow_0 : decode cX0_countLow 0 = .ok (.lconst 0, 1) := by decide +kernel
theorem dX0_countLow_1 : decode cX0_countLow 1 = .ok (.lstore_n 1, 1) := by decide +kernel
theorem dX0_countLow_2 : decode cX0_countLow 2 = .ok (.iconst 0, 1) := by decide +kernel
theorem dX0_countLow_3 : decode cX0_countLow 3 = .ok (.istore_n 3, 1) := by decide +kernel
theorem dX0_countLow_4 : decode cX0_countLow 4 = .ok (.iload_n 3, 1) := by decide +kernel
theorem dX0_countLow_5 : decode cX0_countLow 5 = .ok (.aload_n 0, 1) := by decide +kernel
theorem dX0_countLow_6 : decode cX0_countLow 6 = .ok (.getfield 52, 3) := by decide +kernel
theorem dX0_countLow_9 : decode cX0_countLow 9 = .ok (.if_icmp .ge 25, 3) := by decide +kernel
theorem dX0_countLow_12 : decode cX0_countLow 12 = .ok (.aload_n 0, 1) := by decide +kernel
theorem dX0_countLow_13 : decode cX0_countLow 13 = .ok (.iload_n 3, 1) := by decide +kernel
theorem dX0_countLow_14 : decode cX0_countLow 14 = .ok (.invokevirtual 122, 3) := by decide +kernel
theorem dX0_countLow_17 : decode cX0_countLow 17 = .ok (.ifCond .eq 11, 3) := by decide +kernel
theorem dX0_countLow_20 : decode cX0_countLow 20 = .ok (.lload_n 1, 1) := by decide +kernel
theorem dX0_countLow_21 : decode cX0_countLow 21 = .ok (.aload_n 0, 1) := by decide +kernel
theorem dX0_countLow_22 : decode cX0_countLow 22 = .ok (.iload_n 3, 1) := by decide +kernel
theorem dX0_countLow_23 : decode cX0_countLow 23 = .ok (.invokevirtual 125, 3) := by decide +kernel
theorem dX0_countLow_26 : decode cX0_countLow 26 = .ok (.lor, 1) := by decide +kernel
theorem dX0_countLow_27 : decode cX0_countLow 27 = .ok (.lstore_n 1, 1) := by decide +kernel
theorem dX0_countLow_28 : decode cX0_countLow 28 = .ok (.iinc 3 1, 3) := by decide +kernel
theorem dX0_countLow_31 : decode cX0_countLow 31 = .ok (.goto (-27), 3) := by decide +kernel
theorem dX0_countLow_34 : decode cX0_countLow 34 = .ok (.iconst 0, 1) := by decide +kernel
theorem dX0_countLow_35 : decode cX0_countLow 35 = .ok (.istore_n 3, 1) := by decide +kernel
theorem dX0_countLow_36 : decode cX0_countLow 36 = .ok (.iconst 0, 1) := by decide +kernel
theorem dX0_countLow_37 : decode cX0_countLow 37 = .ok (.istore 4, 2) := by decide +kernel
theorem dX0_countLow_39 : decode cX0_countLow 39 = .ok (.iload 4, 2) := by decide +kernel
theorem dX0_countLow_41 : decode cX0_countLow 41 = .ok (.aload_n 0, 1) := by decide +kernel
theorem dX0_countLow_42 : decode cX0_countLow 42 = .ok (.getfield 52, 3) := by decide +kernel
theorem dX0_countLow_45 : decode cX0_countLow 45 = .ok (.if_icmp .ge 25, 3) := by decide +kernel
theorem dX0_countLow_48 : decode cX0_countLow 48 = .ok (.aload_n 0, 1) := by decide +kernel
theorem dX0_countLow_49 : decode cX0_countLow 49 = .ok (.iload 4, 2) := by decide +kernel
theorem dX0_countLow_51 : decode cX0_countLow 51 = .ok (.invokevirtual 78, 3) := by decide +kernel
theorem dX0_countLow_54 : decode cX0_countLow 54 = .ok (.lload_n 1, 1) := by decide +kernel
theorem dX0_countLow_55 : decode cX0_countLow 55 = .ok (.land, 1) := by decide +kernel
theorem dX0_countLow_56 : decode cX0_countLow 56 = .ok (.lconst 0, 1) := by decide +kernel
theorem dX0_countLow_57 : decode cX0_countLow 57 = .ok (.lcmp, 1) := by decide +kernel
theorem dX0_countLow_58 : decode cX0_countLow 58 = .ok (.ifCond .eq 6, 3) := by decide +kernel
theorem dX0_countLow_61 : decode cX0_countLow 61 = .ok (.iinc 3 1, 3) := by decide +kernel
theorem dX0_countLow_64 : decode cX0_countLow 64 = .ok (.iinc 4 1, 3) := by decide +kernel
theorem dX0_countLow_67 : decode cX0_countLow 67 = .ok (.goto (-28), 3) := by decide +kernel
theorem dX0_countLow_70 : decode cX0_countLow 70 = .ok (.iload_n 3, 1) := by decide +kernel
theorem dX0_countLow_71 : decode cX0_countLow 71 = .ok (.ireturn, 1) := by decide +kernel
theorem dX0_wayOf_0 : decode cX0_wayOf 0 = .ok (.aload_n 0, 1) := by decide +kernel
theorem dX0_wayOf_1 : decode cX0_wayOf 1 = .ok (.getfield 24, 3) := by decide +kernel
theorem dX0_wayOf_4 : decode cX0_wayOf 4 = .ok (.iload_n 1, 1) := by decide +kernel
theorem dX0_wayOf_5 : decode cX0_wayOf 5 = .ok (.baload, 1) := by decide +kernel
theorem dX0_wayOf_6 : decode cX0_wayOf 6 = .ok (.ifCond .eq 8, 3) := by decide +kernel
theorem dX0_wayOf_9 : decode cX0_wayOf 9 = .ok (.bipush 8, 2) := by decide +kernel
theorem dX0_wayOf_11 : decode cX0_wayOf 11 = .ok (.goto 4, 3) := by decide +kernel
theorem dX0_wayOf_14 : decode cX0_wayOf 14 = .ok (.iconst 1, 1) := by decide +kernel
theorem dX0_wayOf_15 : decode cX0_wayOf 15 = .ok (.istore_n 2, 1) := by decide +kernel
theorem dX0_wayOf_16 : decode cX0_wayOf 16 = .ok (.aload_n 0, 1) := by decide +kernel
theorem dX0_wayOf_17 : decode cX0_wayOf 17 = .ok (.getfield 15, 3) := by decide +kernel
theorem dX0_wayOf_20 : decode cX0_wayOf 20 = .ok (.iload_n 1, 1) := by decide +kernel
theorem dX0_wayOf_21 : decode cX0_wayOf 21 = .ok (.iaload, 1) := by decide +kernel
theorem dX0_wayOf_22 : decode cX0_wayOf 22 = .ok (.aload_n 0, 1) := by decide +kernel
theorem dX0_wayOf_23 : decode cX0_wayOf 23 = .ok (.getfield 21, 3) := by decide +kernel
theorem dX0_wayOf_26 : decode cX0_wayOf 26 = .ok (.iload_n 1, 1) := by decide +kernel
theorem dX0_wayOf_27 : decode cX0_wayOf 27 = .ok (.iaload, 1) := by decide +kernel
theorem dX0_wayOf_28 : decode cX0_wayOf 28 = .ok (.invokestatic 128, 3) := by decide +kernel
theorem dX0_wayOf_31 : decode cX0_wayOf 31 = .ok (.istore_n 3, 1) := by decide +kernel
theorem dX0_wayOf_32 : decode cX0_wayOf 32 = .ok (.aload_n 0, 1) := by decide +kernel
theorem dX0_wayOf_33 : decode cX0_wayOf 33 = .ok (.getfield 15, 3) := by decide +kernel
theorem dX0_wayOf_36 : decode cX0_wayOf 36 = .ok (.iload_n 1, 1) := by decide +kernel
theorem dX0_wayOf_37 : decode cX0_wayOf 37 = .ok (.iaload, 1) := by decide +kernel
theorem dX0_wayOf_38 : decode cX0_wayOf 38 = .ok (.aload_n 0, 1) := by decide +kernel
theorem dX0_wayOf_39 : decode cX0_wayOf 39 = .ok (.getfield 21, 3) := by decide +kernel
theorem dX0_wayOf_42 : decode cX0_wayOf 42 = .ok (.iload_n 1, 1) := by decide +kernel
theorem dX0_wayOf_43 : decode cX0_wayOf 43 = .ok (.iaload, 1) := by decide +kernel
theorem dX0_wayOf_44 : decode cX0_wayOf 44 = .ok (.invokestatic 133, 3) := by decide +kernel
theorem dX0_wayOf_47 : decode cX0_wayOf 47 = .ok (.istore 4, 2) := by decide +kernel
theorem dX0_wayOf_49 : decode cX0_wayOf 49 = .ok (.lconst 0, 1) := by decide +kernel
theorem dX0_wayOf_50 : decode cX0_wayOf 50 = .ok (.lstore 5, 2) := by decide +kernel
theorem dX0_wayOf_52 : decode cX0_wayOf 52 = .ok (.iload_n 3, 1) := by decide +kernel
theorem dX0_wayOf_53 : decode cX0_wayOf 53 = .ok (.istore 7, 2) := by decide +kernel
theorem dX0_wayOf_55 : decode cX0_wayOf 55 = .ok (.iload 7, 2) := by decide +kernel
theorem dX0_wayOf_57 : decode cX0_wayOf 57 = .ok (.iload 4, 2) := by decide +kernel
theorem dX0_wayOf_59 : decode cX0_wayOf 59 = .ok (.if_icmp .gt 26, 3) := by decide +kernel
theorem dX0_wayOf_62 : decode cX0_wayOf 62 = .ok (.lload 5, 2) := by decide +kernel
theorem dX0_wayOf_64 : decode cX0_wayOf 64 = .ok (.aload_n 0, 1) := by decide +kernel
theorem dX0_wayOf_65 : decode cX0_wayOf 65 = .ok (.getfield 34, 3) := by decide +kernel
theorem dX0_wayOf_68 : decode cX0_wayOf 68 = .ok (.iload_n 1, 1) := by decide +kernel
theorem dX0_wayOf_69 : decode cX0_wayOf 69 = .ok (.laload, 1) := by decide +kernel
theorem dX0_wayOf_70 : decode cX0_wayOf 70 = .ok (.iload 7, 2) := by decide +kernel
theorem dX0_wayOf_72 : decode cX0_wayOf 72 = .ok (.lshl, 1) := by decide +kernel
theorem dX0_wayOf_73 : decode cX0_wayOf 73 = .ok (.lor, 1) := by decide +kernel
theorem dX0_wayOf_74 : decode cX0_wayOf 74 = .ok (.lstore 5, 2) := by decide +kernel
theorem dX0_wayOf_76 : decode cX0_wayOf 76 = .ok (.iload 7, 2) := by decide +kernel
theorem dX0_wayOf_78 : decode cX0_wayOf 78 = .ok (.iload_n 2, 1) := by decide +kernel
theorem dX0_wayOf_79 : decode cX0_wayOf 79 = .ok (.iadd, 1) := by decide +kernel
theorem dX0_wayOf_80 : decode cX0_wayOf 80 = .ok (.istore 7, 2) := by decide +kernel
theorem dX0_wayOf_82 : decode cX0_wayOf 82 = .ok (.goto (-27), 3) := by decide +kernel
theorem dX0_wayOf_85 : decode cX0_wayOf 85 = .ok (.lload 5, 2) := by decide +kernel
theorem dX0_wayOf_87 : decode cX0_wayOf 87 = .ok (.lreturn, 1) := by decide +kernel
set_option maxRecDepth 20000 in
theorem mc_X0_mirror_X00 : mjIn wsX0_mirror wsX00 := fun w h => (List.mem_cons_of_mem _ (List.mem_append_right _ h))
set_option maxRecDepth 20000 in
theorem ggX0_mirror_X0_mirrored : GoodIn wsX0_mirror wsX0_mirrored := mj_good (mj_cons (List.mem_of_getElem? (i := 11) rfl) (mj_app (mj_cons (List.mem_of_getElem? (i := 12) rfl) mj_nil) mc_X0_mirror_X00)) (by decide +kernel)
set_option maxRecDepth 20000 in
theorem gX0_mirror_X0_mirrored : GoodIn wsX0_mirror (wsV RX0 136 RX0 yX0_mirrored wsX0_mirrored) := goodIn_app (mj_good (mj_cons (List.mem_of_getElem? (i := 7) rfl) (mj_cons (List.mem_of_getElem? (i := 8) rfl) (mj_cons (List.mem_of_getElem? (i := 9) rfl) (mj_cons (List.mem_of_getElem? (i := 10) rfl) mj_nil)))) (by decide +kernel)) ggX0_mirror_X0_mirrored
set_option maxRecDepth 20000 in
theorem ggX0_mirror_X0_fieldsOf : GoodIn wsX0_mirror wsX0_fieldsOf := mj_good (mj_cons (List.mem_of_getElem? (i := 16) rfl) (mj_app (mj_cons (List.mem_of_getElem? (i := 17) rfl) (mj_cons (List.mem_of_getElem? (i := 4) rfl) mj_nil)) mc_X0_mirror_X00)) (by decide +kernel)
set_option maxRecDepth 20000 in
theorem gX0_mirror_X0_fieldsOf : GoodIn wsX0_mirror (wsV RX0 78 RX0 yX0_fieldsOf wsX0_fieldsOf) := goodIn_app (mj_good (mj_cons (List.mem_of_getElem? (i := 13) rfl) (mj_cons (List.mem_of_getElem? (i := 14) rfl) (mj_cons (List.mem_of_getElem? (i := 15) rfl) (mj_cons (List.mem_of_getElem? (i := 10) rfl) mj_nil)))) (by decide +kernel)) ggX0_mirror_X0_fieldsOf
theorem dX0_mirror_0 : decode cX0_mirror 0 = .ok (.aload_n 0, 1) := by decide +kernel
theorem dX0_mirror_1 : decode cX0_mirror 1 = .ok (.getfield 45, 3) := by decide +kernel
theorem dX0_mirror_4 : decode cX0_mirror 4 = .ok (.lstore_n 1, 1) := by decide +kernel
theorem dX0_mirror_5 : decode cX0_mirror 5 = .ok (.aload_n 0, 1) := by decide +kernel
theorem dX0_mirror_6 : decode cX0_mirror 6 = .ok (.lconst 0, 1) := by decide +kernel
theorem dX0_mirror_7 : decode cX0_mirror 7 = .ok (.putfield 45, 3) := by decide +kernel
theorem dX0_mirror_10 : decode cX0_mirror 10 = .ok (.iconst 0, 1) := by decide +kernel
theorem dX0_mirror_11 : decode cX0_mirror 11 = .ok (.istore_n 3, 1) := by decide +kernel
theorem dX0_mirror_12 : decode cX0_mirror 12 = .ok (.iload_n 3, 1) := by decide +kernel
theorem dX0_mirror_13 : decode cX0_mirror 13 = .ok (.bipush 64, 2) := by decide +kernel
theorem dX0_mirror_15 : decode cX0_mirror 15 = .ok (.if_icmp .ge 36, 3) := by decide +kernel
theorem dX0_mirror_18 : decode cX0_mirror 18 = .ok (.lload_n 1, 1) := by decide +kernel
theorem dX0_mirror_19 : decode cX0_mirror 19 = .ok (.iload_n 3, 1) := by decide +kernel
theorem dX0_mirror_20 : decode cX0_mirror 20 = .ok (.lushr, 1) := by decide +kernel
theorem dX0_mirror_21 : decode cX0_mirror 21 = .ok (.lconst 1, 1) := by decide +kernel
theorem dX0_mirror_22 : decode cX0_mirror 22 = .ok (.land, 1) := by decide +kernel
theorem dX0_mirror_23 : decode cX0_mirror 23 = .ok (.lconst 0, 1) := by decide +kernel
theorem dX0_mirror_24 : decode cX0_mirror 24 = .ok (.lcmp, 1) := by decide +kernel
theorem dX0_mirror_25 : decode cX0_mirror 25 = .ok (.ifCond .eq 20, 3) := by decide +kernel
theorem dX0_mirror_28 : decode cX0_mirror 28 = .ok (.aload_n 0, 1) := by decide +kernel
theorem dX0_mirror_29 : decode cX0_mirror 29 = .ok (.dup, 1) := by decide +kernel
theorem dX0_mirror_30 : decode cX0_mirror 30 = .ok (.getfield 45, 3) := by decide +kernel
theorem dX0_mirror_33 : decode cX0_mirror 33 = .ok (.lconst 1, 1) := by decide +kernel
theorem dX0_mirror_34 : decode cX0_mirror 34 = .ok (.aload_n 0, 1) := by decide +kernel
theorem dX0_mirror_35 : decode cX0_mirror 35 = .ok (.iload_n 3, 1) := by decide +kernel
theorem dX0_mirror_36 : decode cX0_mirror 36 = .ok (.iconst 1, 1) := by decide +kernel
theorem dX0_mirror_37 : decode cX0_mirror 37 = .ok (.invokevirtual 136, 3) := by decide +kernel
theorem dX0_mirror_40 : decode cX0_mirror 40 = .ok (.lshl, 1) := by decide +kernel
theorem dX0_mirror_41 : decode cX0_mirror 41 = .ok (.lor, 1) := by decide +kernel
theorem dX0_mirror_42 : decode cX0_mirror 42 = .ok (.putfield 45, 3) := by decide +kernel
theorem dX0_mirror_45 : decode cX0_mirror 45 = .ok (.iinc 3 1, 3) := by decide +kernel
theorem dX0_mirror_48 : decode cX0_mirror 48 = .ok (.goto (-36), 3) := by decide +kernel
theorem dX0_mirror_51 : decode cX0_mirror 51 = .ok (.aload_n 0, 1) := by decide +kernel
theorem dX0_mirror_52 : decode cX0_mirror 52 = .ok (.lconst 0, 1) := by decide +kernel
theorem dX0_mirror_53 : decode cX0_mirror 53 = .ok (.putfield 55, 3) := by decide +kernel
theorem dX0_mirror_56 : decode cX0_mirror 56 = .ok (.iconst 0, 1) := by decide +kernel
theorem dX0_mirror_57 : decode cX0_mirror 57 = .ok (.istore_n 3, 1) := by decide +kernel
theorem dX0_mirror_58 : decode cX0_mirror 58 = .ok (.iload_n 3, 1) := by decide +kernel
theorem dX0_mirror_59 : decode cX0_mirror 59 = .ok (.aload_n 0, 1) := by decide +kernel
theorem dX0_mirror_60 : decode cX0_mirror 60 = .ok (.getfield 52, 3) := by decide +kernel
theorem dX0_mirror_63 : decode cX0_mirror 63 = .ok (.if_icmp .ge 67, 3) := by decide +kernel
theorem dX0_mirror_66 : decode cX0_mirror 66 = .ok (.aload_n 0, 1) := by decide +kernel
theorem dX0_mirror_67 : decode cX0_mirror 67 = .ok (.getfield 15, 3) := by decide +kernel
theorem dX0_mirror_70 : decode cX0_mirror 70 = .ok (.iload_n 3, 1) := by decide +kernel
theorem dX0_mirror_71 : decode cX0_mirror 71 = .ok (.aload_n 0, 1) := by decide +kernel
theorem dX0_mirror_72 : decode cX0_mirror 72 = .ok (.aload_n 0, 1) := by decide +kernel
theorem dX0_mirror_73 : decode cX0_mirror 73 = .ok (.getfield 15, 3) := by decide +kernel
theorem dX0_mirror_76 : decode cX0_mirror 76 = .ok (.iload_n 3, 1) := by decide +kernel
theorem dX0_mirror_77 : decode cX0_mirror 77 = .ok (.iaload, 1) := by decide +kernel
theorem dX0_mirror_78 : decode cX0_mirror 78 = .ok (.aload_n 0, 1) := by decide +kernel
theorem dX0_mirror_79 : decode cX0_mirror 79 = .ok (.getfield 28, 3) := by decide +kernel
theorem dX0_mirror_82 : decode cX0_mirror 82 = .ok (.iload_n 3, 1) := by decide +kernel
theorem dX0_mirror_83 : decode cX0_mirror 83 = .ok (.iaload, 1) := by decide +kernel
theorem dX0_mirror_84 : decode cX0_mirror 84 = .ok (.invokevirtual 136, 3) := by decide +kernel
theorem dX0_mirror_87 : decode cX0_mirror 87 = .ok (.iastore, 1) := by decide +kernel
theorem dX0_mirror_88 : decode cX0_mirror 88 = .ok (.aload_n 0, 1) := by decide +kernel
theorem dX0_mirror_89 : decode cX0_mirror 89 = .ok (.getfield 21, 3) := by decide +kernel
theorem dX0_mirror_92 : decode cX0_mirror 92 = .ok (.iload_n 3, 1) := by decide +kernel
theorem dX0_mirror_93 : decode cX0_mirror 93 = .ok (.aload_n 0, 1) := by decide +kernel
theorem dX0_mirror_94 : decode cX0_mirror 94 = .ok (.aload_n 0, 1) := by decide +kernel
theorem dX0_mirror_95 : decode cX0_mirror 95 = .ok (.getfield 21, 3) := by decide +kernel
theorem dX0_mirror_98 : decode cX0_mirror 98 = .ok (.iload_n 3, 1) := by decide +kernel
theorem dX0_mirror_99 : decode cX0_mirror 99 = .ok (.iaload, 1) := by decide +kernel
theorem dX0_mirror_100 : decode cX0_mirror 100 = .ok (.aload_n 0, 1) := by decide +kernel
theorem dX0_mirror_101 : decode cX0_mirror 101 = .ok (.getfield 28, 3) := by decide +kernel
theorem dX0_mirror_104 : decode cX0_mirror 104 = .ok (.iload_n 3, 1) := by decide +kernel
theorem dX0_mirror_105 : decode cX0_mirror 105 = .ok (.iaload, 1) := by decide +kernel
theorem dX0_mirror_106 : decode cX0_mirror 106 = .ok (.invokevirtual 136, 3) := by decide +kernel
theorem dX0_mirror_109 : decode cX0_mirror 109 = .ok (.iastore, 1) := by decide +kernel
theorem dX0_mirror_110 : decode cX0_mirror 110 = .ok (.aload_n 0, 1) := by decide +kernel
theorem dX0_mirror_111 : decode cX0_mirror 111 = .ok (.dup, 1) := by decide +kernel
theorem dX0_mirror_112 : decode cX0_mirror 112 = .ok (.getfield 55, 3) := by decide +kernel
theorem dX0_mirror_115 : decode cX0_mirror 115 = .ok (.aload_n 0, 1) := by decide +kernel
theorem dX0_mirror_116 : decode cX0_mirror 116 = .ok (.iload_n 3, 1) := by decide +kernel
theorem dX0_mirror_117 : decode cX0_mirror 117 = .ok (.invokevirtual 78, 3) := by decide +kernel
theorem dX0_mirror_120 : decode cX0_mirror 120 = .ok (.lor, 1) := by decide +kernel
theorem dX0_mirror_121 : decode cX0_mirror 121 = .ok (.putfield 55, 3) := by decide +kernel
theorem dX0_mirror_124 : decode cX0_mirror 124 = .ok (.iinc 3 1, 3) := by decide +kernel
theorem dX0_mirror_127 : decode cX0_mirror 127 = .ok (.goto (-69), 3) := by decide +kernel
theorem dX0_mirror_130 : decode cX0_mirror 130 = .ok (.return_, 1) := by decide +kernel
theorem dX0_mirrored_0 : decode cX0_mirrored 0 = .ok (.iload_n 1, 1) := by decide +kernel
theorem dX0_mirrored_1 : decode cX0_mirrored 1 = .ok (.bipush 7, 2) := by decide +kernel
theorem dX0_mirrored_3 : decode cX0_mirrored 3 = .ok (.iand, 1) := by decide +kernel
theorem dX0_mirrored_4 : decode cX0_mirrored 4 = .ok (.istore_n 3, 1) := by decide +kernel
theorem dX0_mirrored_5 : decode cX0_mirrored 5 = .ok (.iload_n 1, 1) := by decide +kernel
theorem dX0_mirrored_6 : decode cX0_mirrored 6 = .ok (.iload_n 3, 1) := by decide +kernel
theorem dX0_mirrored_7 : decode cX0_mirrored 7 = .ok (.isub, 1) := by decide +kernel
theorem dX0_mirrored_8 : decode cX0_mirrored 8 = .ok (.aload_n 0, 1) := by decide +kernel
theorem dX0_mirrored_9 : decode cX0_mirrored 9 = .ok (.getfield 38, 3) := by decide +kernel
theorem dX0_mirrored_12 : decode cX0_mirrored 12 = .ok (.iload_n 3, 1) := by decide +kernel
theorem dX0_mirrored_13 : decode cX0_mirrored 13 = .ok (.isub, 1) := by decide +kernel
theorem dX0_mirrored_14 : decode cX0_mirrored 14 = .ok (.iload_n 2, 1) := by decide +kernel
theorem dX0_mirrored_15 : decode cX0_mirrored 15 = .ok (.isub, 1) := by decide +kernel
theorem dX0_mirrored_16 : decode cX0_mirrored 16 = .ok (.iadd, 1) := by decide +kernel
theorem dX0_mirrored_17 : decode cX0_mirrored 17 = .ok (.ireturn, 1) := by decide +kernel
set_option maxRecDepth 20000 in
theorem mc_X0_quarter_X0_quarter_r1 : mjIn wsX0_quarter wsX0_quarter_r1 := fun w h => (List.mem_cons_of_mem _ (List.mem_append_left _ (List.mem_append_left _ h)))
set_option maxRecDepth 20000 in
theorem mc_X0_quarter_X00 : mjIn wsX0_quarter wsX00 := fun w h => (List.mem_cons_of_mem _ (List.mem_append_right _ h))
set_option maxRecDepth 20000 in
theorem ggX0_quarter_X0_turned : GoodIn wsX0_quarter wsX0_turned := mj_good (mj_cons (mc_X0_quarter_X0_quarter_r1 _ (List.mem_of_getElem? (i := 14) rfl)) (mj_app (mj_cons (mc_X0_quarter_X0_quarter_r1 _ (List.mem_of_getElem? (i := 9) rfl)) mj_nil) mc_X0_quarter_X00)) (by decide +kernel)
set_option maxRecDepth 20000 in
theorem gX0_quarter_X0_turned : GoodIn wsX0_quarter (wsV RX0 139 RX0 yX0_turned wsX0_turned) := goodIn_app (mj_good (mj_cons (mc_X0_quarter_X0_quarter_r1 _ (List.mem_of_getElem? (i := 10) rfl)) (mj_cons (mc_X0_quarter_X0_quarter_r1 _ (List.mem_of_getElem? (i := 11) rfl)) (mj_cons (mc_X0_quarter_X0_quarter_r1 _ (List.mem_of_getElem? (i := 12) rfl)) (mj_cons (mc_X0_quarter_X0_quarter_r1 _ (List.mem_of_getElem? (i := 13) rfl)) mj_nil)))) (by decide +kernel)) ggX0_quarter_X0_turned
set_option maxRecDepth 20000 in
theorem ggX0_quarter_X6_isBound : GoodIn wsX0_quarter wsX6_isBound := mj_good (mj_cons (mc_X0_quarter_X0_quarter_r1 _ (List.mem_of_getElem? (i := 17) rfl)) mj_nil) (by decide +kernel)
set_option maxRecDepth 20000 in
theorem gX0_quarter_X6_isBound_n105 : GoodIn wsX0_quarter (wsX6_isBound) := ggX0_quarter_X6_isBound
set_option maxRecDepth 20000 in
theorem mc_X0_quarter_X0_quarter_r2 : mjIn wsX0_quarter wsX0_quarter_r2 := fun w h => (List.mem_cons_of_mem _ (List.mem_append_left _ (List.mem_append_right _ h)))
set_option maxRecDepth 20000 in
theorem ggX0_quarter_X0_form : GoodIn wsX0_quarter wsX0_form := mj_good (mj_cons (mc_X0_quarter_X0_quarter_r1 _ (List.mem_of_getElem? (i := 21) rfl)) (mj_app (mj_cons (mc_X0_quarter_X0_quarter_r1 _ (List.mem_of_getElem? (i := 22) rfl)) (mj_cons (mc_X0_quarter_X0_quarter_r1 _ (List.mem_of_getElem? (i := 23) rfl)) (mj_cons (mc_X0_quarter_X0_quarter_r1 _ (List.mem_of_getElem? (i := 6) rfl)) (mj_cons (mc_X0_quarter_X0_quarter_r1 _ (List.mem_of_getElem? (i := 4) rfl)) (mj_cons (mc_X0_quarter_X0_quarter_r1 _ (List.mem_of_getElem? (i := 7) rfl)) (mj_cons (mc_X0_quarter_X0_quarter_r2 _ (List.mem_of_getElem? (i := 0) rfl)) (mj_cons (mc_X0_quarter_X0_quarter_r2 _ (List.mem_of_getElem? (i := 1) rfl)) (mj_cons (mc_X0_quarter_X0_quarter_r2 _ (List.mem_of_getElem? (i := 2) rfl)) (mj_cons (mc_X0_quarter_X0_quarter_r1 _ (List.mem_of_getElem? (i := 13) rfl)) (mj_cons (mc_X0_quarter_X0_quarter_r2 _ (List.mem_of_getElem? (i := 3) rfl)) (mj_cons (mc_X0_quarter_X0_quarter_r2 _ (List.mem_of_getElem? (i := 4) rfl)) (mj_cons (mc_X0_quarter_X0_quarter_r2 _ (List.mem_of_getElem? (i := 5) rfl)) (mj_cons (mc_X0_quarter_X0_quarter_r2 _ (List.mem_of_getElem? (i := 6) rfl)) (mj_cons (mc_X0_quarter_X0_quarter_r2 _ (List.mem_of_getElem? (i := 7) rfl)) (mj_cons (mc_X0_quarter_X0_quarter_r2 _ (List.mem_of_getElem? (i := 8) rfl)) (mj_cons (mc_X0_quarter_X0_quarter_r2 _ (List.mem_of_getElem? (i := 9) rfl)) mj_nil)))))))))))))))) mc_X0_quarter_X00)) (by decide +kernel)
set_option maxRecDepth 20000 in
theorem gX0_quarter_X0_form : GoodIn wsX0_quarter (wsV RX0 98 RX0 yX0_form wsX0_form) := goodIn_app (mj_good (mj_cons (mc_X0_quarter_X0_quarter_r1 _ (List.mem_of_getElem? (i := 18) rfl)) (mj_cons (mc_X0_quarter_X0_quarter_r1 _ (List.mem_of_getElem? (i := 19) rfl)) (mj_cons (mc_X0_quarter_X0_quarter_r1 _ (List.mem_of_getElem? (i := 20) rfl)) (mj_cons (mc_X0_quarter_X0_quarter_r1 _ (List.mem_of_getElem? (i := 13) rfl)) mj_nil)))) (by decide +kernel)) ggX0_quarter_X0_form
set_option maxRecDepth 20000 in
theorem ggX0_quarter_X0_fieldsOf : GoodIn wsX0_quarter wsX0_fieldsOf := mj_good (mj_cons (mc_X0_quarter_X0_quarter_r2 _ (List.mem_of_getElem? (i := 13) rfl)) (mj_app (mj_cons (mc_X0_quarter_X0_quarter_r2 _ (List.mem_of_getElem? (i := 0) rfl)) (mj_cons (mc_X0_quarter_X0_quarter_r1 _ (List.mem_of_getElem? (i := 3) rfl)) mj_nil)) mc_X0_quarter_X00)) (by decide +kernel)
set_option maxRecDepth 20000 in
theorem gX0_quarter_X0_fieldsOf : GoodIn wsX0_quarter (wsV RX0 78 RX0 yX0_fieldsOf wsX0_fieldsOf) := goodIn_app (mj_good (mj_cons (mc_X0_quarter_X0_quarter_r2 _ (List.mem_of_getElem? (i := 10) rfl)) (mj_cons (mc_X0_quarter_X0_quarter_r2 _ (List.mem_of_getElem? (i := 11) rfl)) (mj_cons (mc_X0_quarter_X0_quarter_r2 _ (List.mem_of_getElem? (i := 12) rfl)) (mj_cons (mc_X0_quarter_X0_quarter_r1 _ (List.mem_of_getElem? (i := 13) rfl)) mj_nil)))) (by decide +kernel)) ggX0_quarter_X0_fieldsOf
theorem dX0_quarter_0 : decode cX0_quarter 0 = .ok (.aload_n 0, 1) := by decide +kernel
theorem dX0_quarter_1 : decode cX0_quarter 1 = .ok (.getfield 45, 3) := by decide +kernel
theorem dX0_quarter_4 : decode cX0_quarter 4 = .ok (.lstore_n 1, 1) := by decide +kernel
theorem dX0_quarter_5 : decode cX0_quarter 5 = .ok (.aload_n 0, 1) := by decide +kernel
theorem dX0_quarter_6 : decode cX0_quarter 6 = .ok (.lconst 0, 1) := by decide +kernel
theorem dX0_quarter_7 : decode cX0_quarter 7 = .ok (.putfield 45, 3) := by decide +kernel
theorem dX0_quarter_10 : decode cX0_quarter 10 = .ok (.iconst 0, 1) := by decide +kernel
theorem dX0_quarter_11 : decode cX0_quarter 11 = .ok (.istore_n 3, 1) := by decide +kernel
theorem dX0_quarter_12 : decode cX0_quarter 12 = .ok (.iload_n 3, 1) := by decide +kernel
theorem dX0_quarter_13 : decode cX0_quarter 13 = .ok (.bipush 64, 2) := by decide +kernel
theorem dX0_quarter_15 : decode cX0_quarter 15 = .ok (.if_icmp .ge 36, 3) := by decide +kernel
theorem dX0_quarter_18 : decode cX0_quarter 18 = .ok (.lload_n 1, 1) := by decide +kernel
theorem dX0_quarter_19 : decode cX0_quarter 19 = .ok (.iload_n 3, 1) := by decide +kernel
theorem dX0_quarter_20 : decode cX0_quarter 20 = .ok (.lushr, 1) := by decide +kernel
theorem dX0_quarter_21 : decode cX0_quarter 21 = .ok (.lconst 1, 1) := by decide +kernel
theorem dX0_quarter_22 : decode cX0_quarter 22 = .ok (.land, 1) := by decide +kernel
theorem dX0_quarter_23 : decode cX0_quarter 23 = .ok (.lconst 0, 1) := by decide +kernel
theorem dX0_quarter_24 : decode cX0_quarter 24 = .ok (.lcmp, 1) := by decide +kernel
theorem dX0_quarter_25 : decode cX0_quarter 25 = .ok (.ifCond .eq 20, 3) := by decide +kernel
theorem dX0_quarter_28 : decode cX0_quarter 28 = .ok (.aload_n 0, 1) := by decide +kernel
theorem dX0_quarter_29 : decode cX0_quarter 29 = .ok (.dup, 1) := by decide +kernel
theorem dX0_quarter_30 : decode cX0_quarter 30 = .ok (.getfield 45, 3) := by decide +kernel
theorem dX0_quarter_33 : decode cX0_quarter 33 = .ok (.lconst 1, 1) := by decide +kernel
theorem dX0_quarter_34 : decode cX0_quarter 34 = .ok (.aload_n 0, 1) := by decide +kernel
theorem dX0_quarter_35 : decode cX0_quarter 35 = .ok (.iload_n 3, 1) := by decide +kernel
theorem dX0_quarter_36 : decode cX0_quarter 36 = .ok (.iconst 1, 1) := by decide +kernel
theorem dX0_quarter_37 : decode cX0_quarter 37 = .ok (.invokevirtual 139, 3) := by decide +kernel
theorem dX0_quarter_40 : decode cX0_quarter 40 = .ok (.lshl, 1) := by decide +kernel
theorem dX0_quarter_41 : decode cX0_quarter 41 = .ok (.lor, 1) := by decide +kernel
theorem dX0_quarter_42 : decode cX0_quarter 42 = .ok (.putfield 45, 3) := by decide +kernel
theorem dX0_quarter_45 : decode cX0_quarter 45 = .ok (.iinc 3 1, 3) := by decide +kernel
theorem dX0_quarter_48 : decode cX0_quarter 48 = .ok (.goto (-36), 3) := by decide +kernel
theorem dX0_quarter_51 : decode cX0_quarter 51 = .ok (.aload_n 0, 1) := by decide +kernel
theorem dX0_quarter_52 : decode cX0_quarter 52 = .ok (.lconst 0, 1) := by decide +kernel
theorem dX0_quarter_53 : decode cX0_quarter 53 = .ok (.putfield 55, 3) := by decide +kernel
theorem dX0_quarter_56 : decode cX0_quarter 56 = .ok (.iconst 0, 1) := by decide +kernel
theorem dX0_quarter_57 : decode cX0_quarter 57 = .ok (.istore_n 3, 1) := by decide +kernel
theorem dX0_quarter_58 : decode cX0_quarter 58 = .ok (.iload_n 3, 1) := by decide +kernel
theorem dX0_quarter_59 : decode cX0_quarter 59 = .ok (.aload_n 0, 1) := by decide +kernel
theorem dX0_quarter_60 : decode cX0_quarter 60 = .ok (.getfield 52, 3) := by decide +kernel
theorem dX0_quarter_63 : decode cX0_quarter 63 = .ok (.if_icmp .ge 104, 3) := by decide +kernel
theorem dX0_quarter_66 : decode cX0_quarter 66 = .ok (.aload_n 0, 1) := by decide +kernel
theorem dX0_quarter_67 : decode cX0_quarter 67 = .ok (.getfield 15, 3) := by decide +kernel
theorem dX0_quarter_70 : decode cX0_quarter 70 = .ok (.iload_n 3, 1) := by decide +kernel
theorem dX0_quarter_71 : decode cX0_quarter 71 = .ok (.aload_n 0, 1) := by decide +kernel
theorem dX0_quarter_72 : decode cX0_quarter 72 = .ok (.aload_n 0, 1) := by decide +kernel
theorem dX0_quarter_73 : decode cX0_quarter 73 = .ok (.getfield 15, 3) := by decide +kernel
theorem dX0_quarter_76 : decode cX0_quarter 76 = .ok (.iload_n 3, 1) := by decide +kernel
theorem dX0_quarter_77 : decode cX0_quarter 77 = .ok (.iaload, 1) := by decide +kernel
theorem dX0_quarter_78 : decode cX0_quarter 78 = .ok (.aload_n 0, 1) := by decide +kernel
theorem dX0_quarter_79 : decode cX0_quarter 79 = .ok (.getfield 31, 3) := by decide +kernel
theorem dX0_quarter_82 : decode cX0_quarter 82 = .ok (.iload_n 3, 1) := by decide +kernel
theorem dX0_quarter_83 : decode cX0_quarter 83 = .ok (.iaload, 1) := by decide +kernel
theorem dX0_quarter_84 : decode cX0_quarter 84 = .ok (.invokevirtual 139, 3) := by decide +kernel
theorem dX0_quarter_87 : decode cX0_quarter 87 = .ok (.iastore, 1) := by decide +kernel
theorem dX0_quarter_88 : decode cX0_quarter 88 = .ok (.aload_n 0, 1) := by decide +kernel
theorem dX0_quarter_89 : decode cX0_quarter 89 = .ok (.getfield 21, 3) := by decide +kernel
theorem dX0_quarter_92 : decode cX0_quarter 92 = .ok (.iload_n 3, 1) := by decide +kernel
theorem dX0_quarter_93 : decode cX0_quarter 93 = .ok (.aload_n 0, 1) := by decide +kernel
theorem dX0_quarter_94 : decode cX0_quarter 94 = .ok (.aload_n 0, 1) := by decide +kernel
theorem dX0_quarter_95 : decode cX0_quarter 95 = .ok (.getfield 21, 3) := by decide +kernel
theorem dX0_quarter_98 : decode cX0_quarter 98 = .ok (.iload_n 3, 1) := by decide +kernel
theorem dX0_quarter_99 : decode cX0_quarter 99 = .ok (.iaload, 1) := by decide +kernel
theorem dX0_quarter_100 : decode cX0_quarter 100 = .ok (.aload_n 0, 1) := by decide +kernel
theorem dX0_quarter_101 : decode cX0_quarter 101 = .ok (.getfield 31, 3) := by decide +kernel
theorem dX0_quarter_104 : decode cX0_quarter 104 = .ok (.iload_n 3, 1) := by decide +kernel
theorem dX0_quarter_105 : decode cX0_quarter 105 = .ok (.iaload, 1) := by decide +kernel
theorem dX0_quarter_106 : decode cX0_quarter 106 = .ok (.invokevirtual 139, 3) := by decide +kernel
theorem dX0_quarter_109 : decode cX0_quarter 109 = .ok (.iastore, 1) := by decide +kernel
theorem dX0_quarter_110 : decode cX0_quarter 110 = .ok (.aload_n 0, 1) := by decide +kernel
theorem dX0_quarter_111 : decode cX0_quarter 111 = .ok (.getfield 24, 3) := by decide +kernel
theorem dX0_quarter_114 : decode cX0_quarter 114 = .ok (.iload_n 3, 1) := by decide +kernel
theorem dX0_quarter_115 : decode cX0_quarter 115 = .ok (.aload_n 0, 1) := by decide +kernel
theorem dX0_quarter_116 : decode cX0_quarter 116 = .ok (.getfield 9, 3) := by decide +kernel
theorem dX0_quarter_119 : decode cX0_quarter 119 = .ok (.iload_n 3, 1) := by decide +kernel
theorem dX0_quarter_120 : decode cX0_quarter 120 = .ok (.iaload, 1) := by decide +kernel
theorem dX0_quarter_121 : decode cX0_quarter 121 = .ok (.invokestatic 105, 3) := by decide +kernel
theorem dX0_quarter_124 : decode cX0_quarter 124 = .ok (.ifCond .eq 16, 3) := by decide +kernel
theorem dX0_quarter_127 : decode cX0_quarter 127 = .ok (.aload_n 0, 1) := by decide +kernel
theorem dX0_quarter_128 : decode cX0_quarter 128 = .ok (.getfield 24, 3) := by decide +kernel
theorem dX0_quarter_131 : decode cX0_quarter 131 = .ok (.iload_n 3, 1) := by decide +kernel
theorem dX0_quarter_132 : decode cX0_quarter 132 = .ok (.baload, 1) := by decide +kernel
theorem dX0_quarter_133 : decode cX0_quarter 133 = .ok (.ifCond .ne 7, 3) := by decide +kernel
theorem dX0_quarter_136 : decode cX0_quarter 136 = .ok (.iconst 1, 1) := by decide +kernel
theorem dX0_quarter_137 : decode cX0_quarter 137 = .ok (.goto 4, 3) := by decide +kernel
theorem dX0_quarter_140 : decode cX0_quarter 140 = .ok (.iconst 0, 1) := by decide +kernel
theorem dX0_quarter_141 : decode cX0_quarter 141 = .ok (.bastore, 1) := by decide +kernel
theorem dX0_quarter_142 : decode cX0_quarter 142 = .ok (.aload_n 0, 1) := by decide +kernel
theorem dX0_quarter_143 : decode cX0_quarter 143 = .ok (.iload_n 3, 1) := by decide +kernel
theorem dX0_quarter_144 : decode cX0_quarter 144 = .ok (.invokevirtual 98, 3) := by decide +kernel
theorem dX0_quarter_147 : decode cX0_quarter 147 = .ok (.aload_n 0, 1) := by decide +kernel
theorem dX0_quarter_148 : decode cX0_quarter 148 = .ok (.dup, 1) := by decide +kernel
theorem dX0_quarter_149 : decode cX0_quarter 149 = .ok (.getfield 55, 3) := by decide +kernel
theorem dX0_quarter_152 : decode cX0_quarter 152 = .ok (.aload_n 0, 1) := by decide +kernel
theorem dX0_quarter_153 : decode cX0_quarter 153 = .ok (.iload_n 3, 1) := by decide +kernel
theorem dX0_quarter_154 : decode cX0_quarter 154 = .ok (.invokevirtual 78, 3) := by decide +kernel
theorem dX0_quarter_157 : decode cX0_quarter 157 = .ok (.lor, 1) := by decide +kernel
theorem dX0_quarter_158 : decode cX0_quarter 158 = .ok (.putfield 55, 3) := by decide +kernel
theorem dX0_quarter_161 : decode cX0_quarter 161 = .ok (.iinc 3 1, 3) := by decide +kernel
theorem dX0_quarter_164 : decode cX0_quarter 164 = .ok (.goto (-106), 3) := by decide +kernel
theorem dX0_quarter_167 : decode cX0_quarter 167 = .ok (.aload_n 0, 1) := by decide +kernel
theorem dX0_quarter_168 : decode cX0_quarter 168 = .ok (.getfield 38, 3) := by decide +kernel
theorem dX0_quarter_171 : decode cX0_quarter 171 = .ok (.istore_n 3, 1) := by decide +kernel
theorem dX0_quarter_172 : decode cX0_quarter 172 = .ok (.aload_n 0, 1) := by decide +kernel
theorem dX0_quarter_173 : decode cX0_quarter 173 = .ok (.aload_n 0, 1) := by decide +kernel
theorem dX0_quarter_174 : decode cX0_quarter 174 = .ok (.getfield 42, 3) := by decide +kernel
theorem dX0_quarter_177 : decode cX0_quarter 177 = .ok (.putfield 38, 3) := by decide +kernel
theorem dX0_quarter_180 : decode cX0_quarter 180 = .ok (.aload_n 0, 1) := by decide +kernel
theorem dX0_quarter_181 : decode cX0_quarter 181 = .ok (.iload_n 3, 1) := by decide +kernel
theorem dX0_quarter_182 : decode cX0_quarter 182 = .ok (.putfield 42, 3) := by decide +kernel
theorem dX0_quarter_185 : decode cX0_quarter 185 = .ok (.return_, 1) := by decide +kernel
theorem dX0_turned_0 : decode cX0_turned 0 = .ok (.iload_n 1, 1) := by decide +kernel
theorem dX0_turned_1 : decode cX0_turned 1 = .ok (.bipush 7, 2) := by decide +kernel
theorem dX0_turned_3 : decode cX0_turned 3 = .ok (.iand, 1) := by decide +kernel
theorem dX0_turned_4 : decode cX0_turned 4 = .ok (.istore_n 3, 1) := by decide +kernel
theorem dX0_turned_5 : decode cX0_turned 5 = .ok (.iload_n 1, 1) := by decide +kernel
theorem dX0_turned_6 : decode cX0_turned 6 = .ok (.iconst 3, 1) := by decide +kernel
theorem dX0_turned_7 : decode cX0_turned 7 = .ok (.ishr, 1) := by decide +kernel
theorem dX0_turned_8 : decode cX0_turned 8 = .ok (.istore 4, 2) := by decide +kernel
theorem dX0_turned_10 : decode cX0_turned 10 = .ok (.bipush 8, 2) := by decide +kernel
theorem dX0_turned_12 : decode cX0_turned 12 = .ok (.iload_n 3, 1) := by decide +kernel
theorem dX0_turned_13 : decode cX0_turned 13 = .ok (.imul, 1) := by decide +kernel
theorem dX0_turned_14 : decode cX0_turned 14 = .ok (.aload_n 0, 1) := by decide +kernel
theorem dX0_turned_15 : decode cX0_turned 15 = .ok (.getfield 42, 3) := by decide +kernel
theorem dX0_turned_18 : decode cX0_turned 18 = .ok (.iload 4, 2) := by decide +kernel
theorem dX0_turned_20 : decode cX0_turned 20 = .ok (.isub, 1) := by decide +kernel
theorem dX0_turned_21 : decode cX0_turned 21 = .ok (.iload_n 2, 1) := by decide +kernel
theorem dX0_turned_22 : decode cX0_turned 22 = .ok (.isub, 1) := by decide +kernel
theorem dX0_turned_23 : decode cX0_turned 23 = .ok (.iadd, 1) := by decide +kernel
theorem dX0_turned_24 : decode cX0_turned 24 = .ok (.ireturn, 1) := by decide +kernel
set_option maxRecDepth 20000 in
theorem mc_X0_isSame_X00 : mjIn wsX0_isSame wsX00 := fun w h => (List.mem_cons_of_mem _ (List.mem_append_right _ h))
set_option maxRecDepth 20000 in
theorem ggX0_isSame_X0_firstIn : GoodIn wsX0_isSame wsX0_firstIn := mj_good (mj_cons (List.mem_of_getElem? (i := 11) rfl) (mj_app (mj_cons (List.mem_of_getElem? (i := 5) rfl) (mj_cons (List.mem_of_getElem? (i := 12) rfl) (mj_cons (List.mem_of_getElem? (i := 13) rfl) (mj_cons (List.mem_of_getElem? (i := 14) rfl) (mj_cons (List.mem_of_getElem? (i := 10) rfl) (mj_cons (List.mem_of_getElem? (i := 15) rfl) (mj_cons (List.mem_of_getElem? (i := 16) rfl) (mj_cons (List.mem_of_getElem? (i := 6) rfl) mj_nil)))))))) mc_X0_isSame_X00)) (by decide +kernel)
set_option maxRecDepth 20000 in
theorem gX0_isSame_X0_firstIn : GoodIn wsX0_isSame (wsV RX0 70 RX0 yX0_firstIn wsX0_firstIn) := goodIn_app (mj_good (mj_cons (List.mem_of_getElem? (i := 7) rfl) (mj_cons (List.mem_of_getElem? (i := 8) rfl) (mj_cons (List.mem_of_getElem? (i := 9) rfl) (mj_cons (List.mem_of_getElem? (i := 10) rfl) mj_nil)))) (by decide +kernel)) ggX0_isSame_X0_firstIn
set_option maxRecDepth 20000 in
theorem ggX0_isSame_X0_isTwin : GoodIn wsX0_isSame wsX0_isTwin := mj_good (mj_cons (List.mem_of_getElem? (i := 20) rfl) (mj_app (mj_cons (List.mem_of_getElem? (i := 6) rfl) (mj_cons (List.mem_of_getElem? (i := 21) rfl) (mj_cons (List.mem_of_getElem? (i := 22) rfl) (mj_cons (List.mem_of_getElem? (i := 23) rfl) (mj_cons (List.mem_of_getElem? (i := 24) rfl) mj_nil))))) mc_X0_isSame_X00)) (by decide +kernel)
set_option maxRecDepth 20000 in
theorem gX0_isSame_X0_isTwin : GoodIn wsX0_isSame (wsV RX0 142 RX0 yX0_isTwin wsX0_isTwin) := goodIn_app (mj_good (mj_cons (List.mem_of_getElem? (i := 17) rfl) (mj_cons (List.mem_of_getElem? (i := 18) rfl) (mj_cons (List.mem_of_getElem? (i := 19) rfl) (mj_cons (List.mem_of_getElem? (i := 10) rfl) mj_nil)))) (by decide +kernel)) ggX0_isSame_X0_isTwin
theorem dX0_isSame_0 : decode cX0_isSame 0 = .ok (.aload_n 0, 1) := by decide +kernel
theorem dX0_isSame_1 : decode cX0_isSame 1 = .ok (.getfield 38, 3) := by decide +kernel
theorem dX0_isSame_4 : decode cX0_isSame 4 = .ok (.aload_n 1, 1) := by decide +kernel
theorem dX0_isSame_5 : decode cX0_isSame 5 = .ok (.getfield 38, 3) := by decide +kernel
theorem dX0_isSame_8 : decode cX0_isSame 8 = .ok (.if_icmp .ne 49, 3) := by decide +kernel
theorem dX0_isSame_11 : decode cX0_isSame 11 = .ok (.aload_n 0, 1) := by decide +kernel
theorem dX0_isSame_12 : decode cX0_isSame 12 = .ok (.getfield 42, 3) := by decide +kernel
theorem dX0_isSame_15 : decode cX0_isSame 15 = .ok (.aload_n 1, 1) := by decide +kernel
theorem dX0_isSame_16 : decode cX0_isSame 16 = .ok (.getfield 42, 3) := by decide +kernel
theorem dX0_isSame_19 : decode cX0_isSame 19 = .ok (.if_icmp .ne 38, 3) := by decide +kernel
theorem dX0_isSame_22 : decode cX0_isSame 22 = .ok (.aload_n 0, 1) := by decide +kernel
theorem dX0_isSame_23 : decode cX0_isSame 23 = .ok (.getfield 45, 3) := by decide +kernel
theorem dX0_isSame_26 : decode cX0_isSame 26 = .ok (.aload_n 1, 1) := by decide +kernel
theorem dX0_isSame_27 : decode cX0_isSame 27 = .ok (.getfield 45, 3) := by decide +kernel
theorem dX0_isSame_30 : decode cX0_isSame 30 = .ok (.lcmp, 1) := by decide +kernel
theorem dX0_isSame_31 : decode cX0_isSame 31 = .ok (.ifCond .ne 26, 3) := by decide +kernel
theorem dX0_isSame_34 : decode cX0_isSame 34 = .ok (.aload_n 0, 1) := by decide +kernel
theorem dX0_isSame_35 : decode cX0_isSame 35 = .ok (.getfield 55, 3) := by decide +kernel
theorem dX0_isSame_38 : decode cX0_isSame 38 = .ok (.aload_n 1, 1) := by decide +kernel
theorem dX0_isSame_39 : decode cX0_isSame 39 = .ok (.getfield 55, 3) := by decide +kernel
theorem dX0_isSame_42 : decode cX0_isSame 42 = .ok (.lcmp, 1) := by decide +kernel
theorem dX0_isSame_43 : decode cX0_isSame 43 = .ok (.ifCond .ne 14, 3) := by decide +kernel
theorem dX0_isSame_46 : decode cX0_isSame 46 = .ok (.aload_n 0, 1) := by decide +kernel
theorem dX0_isSame_47 : decode cX0_isSame 47 = .ok (.getfield 52, 3) := by decide +kernel
theorem dX0_isSame_50 : decode cX0_isSame 50 = .ok (.aload_n 1, 1) := by decide +kernel
theorem dX0_isSame_51 : decode cX0_isSame 51 = .ok (.getfield 52, 3) := by decide +kernel
theorem dX0_isSame_54 : decode cX0_isSame 54 = .ok (.if_icmp .eq 5, 3) := by decide +kernel
theorem dX0_isSame_57 : decode cX0_isSame 57 = .ok (.iconst 0, 1) := by decide +kernel
theorem dX0_isSame_58 : decode cX0_isSame 58 = .ok (.ireturn, 1) := by decide +kernel
theorem dX0_isSame_59 : decode cX0_isSame 59 = .ok (.iconst 0, 1) := by decide +kernel
theorem dX0_isSame_60 : decode cX0_isSame 60 = .ok (.istore_n 2, 1) := by decide +kernel
theorem dX0_isSame_61 : decode cX0_isSame 61 = .ok (.iload_n 2, 1) := by decide +kernel
theorem dX0_isSame_62 : decode cX0_isSame 62 = .ok (.aload_n 0, 1) := by decide +kernel
theorem dX0_isSame_63 : decode cX0_isSame 63 = .ok (.getfield 52, 3) := by decide +kernel
theorem dX0_isSame_66 : decode cX0_isSame 66 = .ok (.if_icmp .ge 39, 3) := by decide +kernel
theorem dX0_isSame_69 : decode cX0_isSame 69 = .ok (.aload_n 1, 1) := by decide +kernel
theorem dX0_isSame_70 : decode cX0_isSame 70 = .ok (.lconst 1, 1) := by decide +kernel
theorem dX0_isSame_71 : decode cX0_isSame 71 = .ok (.aload_n 0, 1) := by decide +kernel
theorem dX0_isSame_72 : decode cX0_isSame 72 = .ok (.getfield 15, 3) := by decide +kernel
theorem dX0_isSame_75 : decode cX0_isSame 75 = .ok (.iload_n 2, 1) := by decide +kernel
theorem dX0_isSame_76 : decode cX0_isSame 76 = .ok (.iaload, 1) := by decide +kernel
theorem dX0_isSame_77 : decode cX0_isSame 77 = .ok (.lshl, 1) := by decide +kernel
theorem dX0_isSame_78 : decode cX0_isSame 78 = .ok (.iconst (-1), 1) := by decide +kernel
theorem dX0_isSame_79 : decode cX0_isSame 79 = .ok (.invokevirtual 70, 3) := by decide +kernel
theorem dX0_isSame_82 : decode cX0_isSame 82 = .ok (.istore_n 3, 1) := by decide +kernel
theorem dX0_isSame_83 : decode cX0_isSame 83 = .ok (.iload_n 3, 1) := by decide +kernel
theorem dX0_isSame_84 : decode cX0_isSame 84 = .ok (.ifCond .lt 13, 3) := by decide +kernel
theorem dX0_isSame_87 : decode cX0_isSame 87 = .ok (.aload_n 0, 1) := by decide +kernel
theorem dX0_isSame_88 : decode cX0_isSame 88 = .ok (.iload_n 2, 1) := by decide +kernel
theorem dX0_isSame_89 : decode cX0_isSame 89 = .ok (.aload_n 1, 1) := by decide +kernel
theorem dX0_isSame_90 : decode cX0_isSame 90 = .ok (.iload_n 3, 1) := by decide +kernel
theorem dX0_isSame_91 : decode cX0_isSame 91 = .ok (.invokevirtual 142, 3) := by decide +kernel
theorem dX0_isSame_94 : decode cX0_isSame 94 = .ok (.ifCond .ne 5, 3) := by decide +kernel
theorem dX0_isSame_97 : decode cX0_isSame 97 = .ok (.iconst 0, 1) := by decide +kernel
theorem dX0_isSame_98 : decode cX0_isSame 98 = .ok (.ireturn, 1) := by decide +kernel
theorem dX0_isSame_99 : decode cX0_isSame 99 = .ok (.iinc 2 1, 3) := by decide +kernel
theorem dX0_isSame_102 : decode cX0_isSame 102 = .ok (.goto (-41), 3) := by decide +kernel
theorem dX0_isSame_105 : decode cX0_isSame 105 = .ok (.iconst 1, 1) := by decide +kernel
theorem dX0_isSame_106 : decode cX0_isSame 106 = .ok (.ireturn, 1) := by decide +kernel
theorem dX0_isTwin_0 : decode cX0_isTwin 0 = .ok (.aload_n 0, 1) := by decide +kernel
theorem dX0_isTwin_1 : decode cX0_isTwin 1 = .ok (.getfield 15, 3) := by decide +kernel
theorem dX0_isTwin_4 : decode cX0_isTwin 4 = .ok (.iload_n 1, 1) := by decide +kernel
theorem dX0_isTwin_5 : decode cX0_isTwin 5 = .ok (.iaload, 1) := by decide +kernel
theorem dX0_isTwin_6 : decode cX0_isTwin 6 = .ok (.aload_n 2, 1) := by decide +kernel
theorem dX0_isTwin_7 : decode cX0_isTwin 7 = .ok (.getfield 15, 3) := by decide +kernel
theorem dX0_isTwin_10 : decode cX0_isTwin 10 = .ok (.iload_n 3, 1) := by decide +kernel
theorem dX0_isTwin_11 : decode cX0_isTwin 11 = .ok (.iaload, 1) := by decide +kernel
theorem dX0_isTwin_12 : decode cX0_isTwin 12 = .ok (.if_icmp .ne 77, 3) := by decide +kernel
theorem dX0_isTwin_15 : decode cX0_isTwin 15 = .ok (.aload_n 0, 1) := by decide +kernel
theorem dX0_isTwin_16 : decode cX0_isTwin 16 = .ok (.getfield 9, 3) := by decide +kernel
theorem dX0_isTwin_19 : decode cX0_isTwin 19 = .ok (.iload_n 1, 1) := by decide +kernel
theorem dX0_isTwin_20 : decode cX0_isTwin 20 = .ok (.iaload, 1) := by decide +kernel
theorem dX0_isTwin_21 : decode cX0_isTwin 21 = .ok (.aload_n 2, 1) := by decide +kernel
theorem dX0_isTwin_22 : decode cX0_isTwin 22 = .ok (.getfield 9, 3) := by decide +kernel
theorem dX0_isTwin_25 : decode cX0_isTwin 25 = .ok (.iload_n 3, 1) := by decide +kernel
theorem dX0_isTwin_26 : decode cX0_isTwin 26 = .ok (.iaload, 1) := by decide +kernel
theorem dX0_isTwin_27 : decode cX0_isTwin 27 = .ok (.if_icmp .ne 62, 3) := by decide +kernel
theorem dX0_isTwin_30 : decode cX0_isTwin 30 = .ok (.aload_n 0, 1) := by decide +kernel
theorem dX0_isTwin_31 : decode cX0_isTwin 31 = .ok (.getfield 18, 3) := by decide +kernel
theorem dX0_isTwin_34 : decode cX0_isTwin 34 = .ok (.iload_n 1, 1) := by decide +kernel
theorem dX0_isTwin_35 : decode cX0_isTwin 35 = .ok (.iaload, 1) := by decide +kernel
theorem dX0_isTwin_36 : decode cX0_isTwin 36 = .ok (.aload_n 2, 1) := by decide +kernel
theorem dX0_isTwin_37 : decode cX0_isTwin 37 = .ok (.getfield 18, 3) := by decide +kernel
theorem dX0_isTwin_40 : decode cX0_isTwin 40 = .ok (.iload_n 3, 1) := by decide +kernel
theorem dX0_isTwin_41 : decode cX0_isTwin 41 = .ok (.iaload, 1) := by decide +kernel
theorem dX0_isTwin_42 : decode cX0_isTwin 42 = .ok (.if_icmp .ne 47, 3) := by decide +kernel
theorem dX0_isTwin_45 : decode cX0_isTwin 45 = .ok (.aload_n 0, 1) := by decide +kernel
theorem dX0_isTwin_46 : decode cX0_isTwin 46 = .ok (.getfield 24, 3) := by decide +kernel
theorem dX0_isTwin_49 : decode cX0_isTwin 49 = .ok (.iload_n 1, 1) := by decide +kernel
theorem dX0_isTwin_50 : decode cX0_isTwin 50 = .ok (.baload, 1) := by decide +kernel
theorem dX0_isTwin_51 : decode cX0_isTwin 51 = .ok (.aload_n 2, 1) := by decide +kernel
theorem dX0_isTwin_52 : decode cX0_isTwin 52 = .ok (.getfield 24, 3) := by decide +kernel
theorem dX0_isTwin_55 : decode cX0_isTwin 55 = .ok (.iload_n 3, 1) := by decide +kernel
theorem dX0_isTwin_56 : decode cX0_isTwin 56 = .ok (.baload, 1) := by decide +kernel
theorem dX0_isTwin_57 : decode cX0_isTwin 57 = .ok (.if_icmp .ne 32, 3) := by decide +kernel
theorem dX0_isTwin_60 : decode cX0_isTwin 60 = .ok (.aload_n 0, 1) := by decide +kernel
theorem dX0_isTwin_61 : decode cX0_isTwin 61 = .ok (.getfield 9, 3) := by decide +kernel
theorem dX0_isTwin_64 : decode cX0_isTwin 64 = .ok (.iload_n 1, 1) := by decide +kernel
theorem dX0_isTwin_65 : decode cX0_isTwin 65 = .ok (.iaload, 1) := by decide +kernel
theorem dX0_isTwin_66 : decode cX0_isTwin 66 = .ok (.iconst 5, 1) := by decide +kernel
theorem dX0_isTwin_67 : decode cX0_isTwin 67 = .ok (.if_icmp .ne 18, 3) := by decide +kernel
theorem dX0_isTwin_70 : decode cX0_isTwin 70 = .ok (.aload_n 0, 1) := by decide +kernel
theorem dX0_isTwin_71 : decode cX0_isTwin 71 = .ok (.getfield 21, 3) := by decide +kernel
theorem dX0_isTwin_74 : decode cX0_isTwin 74 = .ok (.iload_n 1, 1) := by decide +kernel
theorem dX0_isTwin_75 : decode cX0_isTwin 75 = .ok (.iaload, 1) := by decide +kernel
theorem dX0_isTwin_76 : decode cX0_isTwin 76 = .ok (.aload_n 2, 1) := by decide +kernel
theorem dX0_isTwin_77 : decode cX0_isTwin 77 = .ok (.getfield 21, 3) := by decide +kernel
theorem dX0_isTwin_80 : decode cX0_isTwin 80 = .ok (.iload_n 3, 1) := by decide +kernel
theorem dX0_isTwin_81 : decode cX0_isTwin 81 = .ok (.iaload, 1) := by decide +kernel
theorem dX0_isTwin_82 : decode cX0_isTwin 82 = .ok (.if_icmp .ne 7, 3) := by decide +kernel
theorem dX0_isTwin_85 : decode cX0_isTwin 85 = .ok (.iconst 1, 1) := by decide +kernel
theorem dX0_isTwin_86 : decode cX0_isTwin 86 = .ok (.goto 4, 3) := by decide +kernel
theorem dX0_isTwin_89 : decode cX0_isTwin 89 = .ok (.iconst 0, 1) := by decide +kernel
theorem dX0_isTwin_90 : decode cX0_isTwin 90 = .ok (.ireturn, 1) := by decide +kernel
set_option maxRecDepth 20000 in
theorem mc_X0_isSameTurned_X0_isSameTurned_r1 : mjIn wsX0_isSameTurned wsX0_isSameTurned_r1 := fun w h => (List.mem_cons_of_mem _ (List.mem_append_left _ (List.mem_append_left _ h)))
set_option maxRecDepth 20000 in
theorem mc_X0_isSameTurned_X0_isSameTurned_r2 : mjIn wsX0_isSameTurned wsX0_isSameTurned_r2 := fun w h => (List.mem_cons_of_mem _ (List.mem_append_left _ (List.mem_append_right _ (List.mem_append_left _ h))))
set_option maxRecDepth 20000 in
theorem mc_X0_isSameTurned_X00 : mjIn wsX0_isSameTurned wsX00 := fun w h => (List.mem_cons_of_mem _ (List.mem_append_right _ h))
set_option maxRecDepth 20000 in
theorem ggX0_isSameTurned_X0_quarter : GoodIn wsX0_isSameTurned wsX0_quarter := mj_good (mj_cons (mc_X0_isSameTurned_X0_isSameTurned_r1 _ (List.mem_of_getElem? (i := 4) rfl)) (mj_app (mj_app (mj_cons (mc_X0_isSameTurned_X0_isSameTurned_r1 _ (List.mem_of_getElem? (i := 5) rfl)) (mj_cons (mc_X0_isSameTurned_X0_isSameTurned_r1 _ (List.mem_of_getElem? (i := 6) rfl)) (mj_cons (mc_X0_isSameTurned_X0_isSameTurned_r1 _ (List.mem_of_getElem? (i := 7) rfl)) (mj_cons (mc_X0_isSameTurned_X0_isSameTurned_r1 _ (List.mem_of_getElem? (i := 8) rfl)) (mj_cons (mc_X0_isSameTurned_X0_isSameTurned_r1 _ (List.mem_of_getElem? (i := 9) rfl)) (mj_cons (mc_X0_isSameTurned_X0_isSameTurned_r1 _ (List.mem_of_getElem? (i := 10) rfl)) (mj_cons (mc_X0_isSameTurned_X0_isSameTurned_r1 _ (List.mem_of_getElem? (i := 11) rfl)) (mj_cons (mc_X0_isSameTurned_X0_isSameTurned_r1 _ (List.mem_of_getElem? (i := 12) rfl)) (mj_cons (mc_X0_isSameTurned_X0_isSameTurned_r1 _ (List.mem_of_getElem? (i := 13) rfl)) (mj_cons (mc_X0_isSameTurned_X0_isSameTurned_r1 _ (List.mem_of_getElem? (i := 14) rfl)) (mj_cons (mc_X0_isSameTurned_X0_isSameTurned_r1 _ (List.mem_of_getElem? (i := 15) rfl)) (mj_cons (mc_X0_isSameTurned_X0_isSameTurned_r1 _ (List.mem_of_getElem? (i := 16) rfl)) (mj_cons (mc_X0_isSameTurned_X0_isSameTurned_r1 _ (List.mem_of_getElem? (i := 17) rfl)) (mj_cons (mc_X0_isSameTurned_X0_isSameTurned_r1 _ (List.mem_of_getElem? (i := 3) rfl)) (mj_cons (mc_X0_isSameTurned_X0_isSameTurned_r1 _ (List.mem_of_getElem? (i := 18) rfl)) (mj_cons (mc_X0_isSameTurned_X0_isSameTurned_r1 _ (List.mem_of_getElem? (i := 19) rfl)) (mj_cons (mc_X0_isSameTurned_X0_isSameTurned_r1 _ (List.mem_of_getElem? (i := 20) rfl)) (mj_cons (mc_X0_isSameTurned_X0_isSameTurned_r1 _ (List.mem_of_getElem? (i := 21) rfl)) (mj_cons (mc_X0_isSameTurned_X0_isSameTurned_r1 _ (List.mem_of_getElem? (i := 22) rfl)) (mj_cons (mc_X0_isSameTurned_X0_isSameTurned_r1 _ (List.mem_of_getElem? (i := 23) rfl)) (mj_cons (mc_X0_isSameTurned_X0_isSameTurned_r2 _ (List.mem_of_getElem? (i := 0) rfl)) (mj_cons (mc_X0_isSameTurned_X0_isSameTurned_r2 _ (List.mem_of_getElem? (i := 1) rfl)) (mj_cons (mc_X0_isSameTurned_X0_isSameTurned_r2 _ (List.mem_of_getElem? (i := 2) rfl)) (mj_cons (mc_X0_isSameTurned_X0_isSameTurned_r2 _ (List.mem_of_getElem? (i := 3) rfl)) mj_nil)))))))))))))))))))))))) (mj_cons (mc_X0_isSameTurned_X0_isSameTurned_r2 _ (List.mem_of_getElem? (i := 4) rfl)) (mj_cons (mc_X0_isSameTurned_X0_isSameTurned_r2 _ (List.mem_of_getElem? (i := 5) rfl)) (mj_cons (mc_X0_isSameTurned_X0_isSameTurned_r2 _ (List.mem_of_getElem? (i := 6) rfl)) (mj_cons (mc_X0_isSameTurned_X0_isSameTurned_r2 _ (List.mem_of_getElem? (i := 7) rfl)) (mj_cons (mc_X0_isSameTurned_X0_isSameTurned_r2 _ (List.mem_of_getElem? (i := 8) rfl)) (mj_cons (mc_X0_isSameTurned_X0_isSameTurned_r2 _ (List.mem_of_getElem? (i := 9) rfl)) (mj_cons (mc_X0_isSameTurned_X0_isSameTurned_r2 _ (List.mem_of_getElem? (i := 10) rfl)) (mj_cons (mc_X0_isSameTurned_X0_isSameTurned_r2 _ (List.mem_of_getElem? (i := 11) rfl)) (mj_cons (mc_X0_isSameTurned_X0_isSameTurned_r2 _ (List.mem_of_getElem? (i := 12) rfl)) (mj_cons (mc_X0_isSameTurned_X0_isSameTurned_r2 _ (List.mem_of_getElem? (i := 13) rfl)) (mj_cons (mc_X0_isSameTurned_X0_isSameTurned_r2 _ (List.mem_of_getElem? (i := 14) rfl)) (mj_cons (mc_X0_isSameTurned_X0_isSameTurned_r2 _ (List.mem_of_getElem? (i := 15) rfl)) (mj_cons (mc_X0_isSameTurned_X0_isSameTurned_r2 _ (List.mem_of_getElem? (i := 16) rfl)) (mj_cons (mc_X0_isSameTurned_X0_isSameTurned_r2 _ (List.mem_of_getElem? (i := 17) rfl)) mj_nil))))))))))))))) mc_X0_isSameTurned_X00)) (by decide +kernel)
set_option maxRecDepth 20000 in
theorem gX0_isSameTurned_X0_quarter : GoodIn wsX0_isSameTurned (wsV RX0 146 RX0 yX0_quarter wsX0_quarter) := goodIn_app (mj_good (mj_cons (mc_X0_isSameTurned_X0_isSameTurned_r1 _ (List.mem_of_getElem? (i := 0) rfl)) (mj_cons (mc_X0_isSameTurned_X0_isSameTurned_r1 _ (List.mem_of_getElem? (i := 1) rfl)) (mj_cons (mc_X0_isSameTurned_X0_isSameTurned_r1 _ (List.mem_of_getElem? (i := 2) rfl)) (mj_cons (mc_X0_isSameTurned_X0_isSameTurned_r1 _ (List.mem_of_getElem? (i := 3) rfl)) mj_nil)))) (by decide +kernel)) ggX0_isSameTurned_X0_quarter
set_option maxRecDepth 20000 in
theorem mc_X0_isSameTurned_X0_isSameTurned_r3 : mjIn wsX0_isSameTurned wsX0_isSameTurned_r3 := fun w h => (List.mem_cons_of_mem _ (List.mem_append_left _ (List.mem_append_right _ (List.mem_append_right _ h))))
set_option maxRecDepth 20000 in
theorem ggX0_isSameTurned_X0_isSame : GoodIn wsX0_isSameTurned wsX0_isSame := mj_good (mj_cons (mc_X0_isSameTurned_X0_isSameTurned_r2 _ (List.mem_of_getElem? (i := 21) rfl)) (mj_app (mj_cons (mc_X0_isSameTurned_X0_isSameTurned_r1 _ (List.mem_of_getElem? (i := 13) rfl)) (mj_cons (mc_X0_isSameTurned_X0_isSameTurned_r1 _ (List.mem_of_getElem? (i := 14) rfl)) (mj_cons (mc_X0_isSameTurned_X0_isSameTurned_r1 _ (List.mem_of_getElem? (i := 5) rfl)) (mj_cons (mc_X0_isSameTurned_X0_isSameTurned_r1 _ (List.mem_of_getElem? (i := 6) rfl)) (mj_cons (mc_X0_isSameTurned_X0_isSameTurned_r1 _ (List.mem_of_getElem? (i := 7) rfl)) (mj_cons (mc_X0_isSameTurned_X0_isSameTurned_r1 _ (List.mem_of_getElem? (i := 8) rfl)) (mj_cons (mc_X0_isSameTurned_X0_isSameTurned_r2 _ (List.mem_of_getElem? (i := 22) rfl)) (mj_cons (mc_X0_isSameTurned_X0_isSameTurned_r2 _ (List.mem_of_getElem? (i := 23) rfl)) (mj_cons (mc_X0_isSameTurned_X0_isSameTurned_r3 _ (List.mem_of_getElem? (i := 0) rfl)) (mj_cons (mc_X0_isSameTurned_X0_isSameTurned_r1 _ (List.mem_of_getElem? (i := 3) rfl)) (mj_cons (mc_X0_isSameTurned_X0_isSameTurned_r3 _ (List.mem_of_getElem? (i := 1) rfl)) (mj_cons (mc_X0_isSameTurned_X0_isSameTurned_r2 _ (List.mem_of_getElem? (i := 14) rfl)) (mj_cons (mc_X0_isSameTurned_X0_isSameTurned_r2 _ (List.mem_of_getElem? (i := 15) rfl)) (mj_cons (mc_X0_isSameTurned_X0_isSameTurned_r2 _ (List.mem_of_getElem? (i := 16) rfl)) (mj_cons (mc_X0_isSameTurned_X0_isSameTurned_r2 _ (List.mem_of_getElem? (i := 17) rfl)) (mj_cons (mc_X0_isSameTurned_X0_isSameTurned_r2 _ (List.mem_of_getElem? (i := 4) rfl)) (mj_cons (mc_X0_isSameTurned_X0_isSameTurned_r3 _ (List.mem_of_getElem? (i := 2) rfl)) (mj_cons (mc_X0_isSameTurned_X0_isSameTurned_r3 _ (List.mem_of_getElem? (i := 3) rfl)) (mj_cons (mc_X0_isSameTurned_X0_isSameTurned_r3 _ (List.mem_of_getElem? (i := 4) rfl)) (mj_cons (mc_X0_isSameTurned_X0_isSameTurned_r3 _ (List.mem_of_getElem? (i := 5) rfl)) (mj_cons (mc_X0_isSameTurned_X0_isSameTurned_r1 _ (List.mem_of_getElem? (i := 12) rfl)) (mj_cons (mc_X0_isSameTurned_X0_isSameTurned_r2 _ (List.mem_of_getElem? (i := 3) rfl)) (mj_cons (mc_X0_isSameTurned_X0_isSameTurned_r1 _ (List.mem_of_getElem? (i := 11) rfl)) (mj_cons (mc_X0_isSameTurned_X0_isSameTurned_r1 _ (List.mem_of_getElem? (i := 10) rfl)) mj_nil)))))))))))))))))))))))) mc_X0_isSameTurned_X00)) (by decide +kernel)
set_option maxRecDepth 20000 in
theorem gX0_isSameTurned_X0_isSame : GoodIn wsX0_isSameTurned (wsV RX0 149 RX0 yX0_isSame wsX0_isSame) := goodIn_app (mj_good (mj_cons (mc_X0_isSameTurned_X0_isSameTurned_r2 _ (List.mem_of_getElem? (i := 18) rfl)) (mj_cons (mc_X0_isSameTurned_X0_isSameTurned_r2 _ (List.mem_of_getElem? (i := 19) rfl)) (mj_cons (mc_X0_isSameTurned_X0_isSameTurned_r2 _ (List.mem_of_getElem? (i := 20) rfl)) (mj_cons (mc_X0_isSameTurned_X0_isSameTurned_r1 _ (List.mem_of_getElem? (i := 3) rfl)) mj_nil)))) (by decide +kernel)) ggX0_isSameTurned_X0_isSame
set_option maxRecDepth 20000 in
theorem ggX0_isSameTurned_X0_mirror : GoodIn wsX0_isSameTurned wsX0_mirror := mj_good (mj_cons (mc_X0_isSameTurned_X0_isSameTurned_r3 _ (List.mem_of_getElem? (i := 9) rfl)) (mj_app (mj_cons (mc_X0_isSameTurned_X0_isSameTurned_r1 _ (List.mem_of_getElem? (i := 5) rfl)) (mj_cons (mc_X0_isSameTurned_X0_isSameTurned_r1 _ (List.mem_of_getElem? (i := 6) rfl)) (mj_cons (mc_X0_isSameTurned_X0_isSameTurned_r1 _ (List.mem_of_getElem? (i := 7) rfl)) (mj_cons (mc_X0_isSameTurned_X0_isSameTurned_r1 _ (List.mem_of_getElem? (i := 8) rfl)) (mj_cons (mc_X0_isSameTurned_X0_isSameTurned_r2 _ (List.mem_of_getElem? (i := 2) rfl)) (mj_cons (mc_X0_isSameTurned_X0_isSameTurned_r1 _ (List.mem_of_getElem? (i := 10) rfl)) (mj_cons (mc_X0_isSameTurned_X0_isSameTurned_r3 _ (List.mem_of_getElem? (i := 10) rfl)) (mj_cons (mc_X0_isSameTurned_X0_isSameTurned_r3 _ (List.mem_of_getElem? (i := 11) rfl)) (mj_cons (mc_X0_isSameTurned_X0_isSameTurned_r3 _ (List.mem_of_getElem? (i := 12) rfl)) (mj_cons (mc_X0_isSameTurned_X0_isSameTurned_r1 _ (List.mem_of_getElem? (i := 3) rfl)) (mj_cons (mc_X0_isSameTurned_X0_isSameTurned_r3 _ (List.mem_of_getElem? (i := 13) rfl)) (mj_cons (mc_X0_isSameTurned_X0_isSameTurned_r1 _ (List.mem_of_getElem? (i := 13) rfl)) (mj_cons (mc_X0_isSameTurned_X0_isSameTurned_r2 _ (List.mem_of_getElem? (i := 14) rfl)) (mj_cons (mc_X0_isSameTurned_X0_isSameTurned_r2 _ (List.mem_of_getElem? (i := 15) rfl)) (mj_cons (mc_X0_isSameTurned_X0_isSameTurned_r2 _ (List.mem_of_getElem? (i := 16) rfl)) (mj_cons (mc_X0_isSameTurned_X0_isSameTurned_r2 _ (List.mem_of_getElem? (i := 17) rfl)) (mj_cons (mc_X0_isSameTurned_X0_isSameTurned_r2 _ (List.mem_of_getElem? (i := 4) rfl)) mj_nil))))))))))))))))) mc_X0_isSameTurned_X00)) (by decide +kernel)
set_option maxRecDepth 20000 in
theorem gX0_isSameTurned_X0_mirror : GoodIn wsX0_isSameTurned (wsV RX0 153 RX0 yX0_mirror wsX0_mirror) := goodIn_app (mj_good (mj_cons (mc_X0_isSameTurned_X0_isSameTurned_r3 _ (List.mem_of_getElem? (i := 6) rfl)) (mj_cons (mc_X0_isSameTurned_X0_isSameTurned_r3 _ (List.mem_of_getElem? (i := 7) rfl)) (mj_cons (mc_X0_isSameTurned_X0_isSameTurned_r3 _ (List.mem_of_getElem? (i := 8) rfl)) (mj_cons (mc_X0_isSameTurned_X0_isSameTurned_r1 _ (List.mem_of_getElem? (i := 3) rfl)) mj_nil)))) (by decide +kernel)) ggX0_isSameTurned_X0_mirror
theorem dX0_isSameTurned_0 : decode cX0_isSameTurned 0 = .ok (.iconst 0, 1) := by decide +kernel
theorem dX0_isSameTurned_1 : decode cX0_isSameTurned 1 = .ok (.istore_n 2, 1) := by decide +kernel
theorem dX0_isSameTurned_2 : decode cX0_isSameTurned 2 = .ok (.iload_n 2, 1) := by decide +kernel
theorem dX0_isSameTurned_3 : decode cX0_isSameTurned 3 = .ok (.iconst 2, 1) := by decide +kernel
theorem dX0_isSameTurned_4 : decode cX0_isSameTurned 4 = .ok (.if_icmp .ge 40, 3) := by decide +kernel
theorem dX0_isSameTurned_7 : decode cX0_isSameTurned 7 = .ok (.iconst 0, 1) := by decide +kernel
theorem dX0_isSameTurned_8 : decode cX0_isSameTurned 8 = .ok (.istore_n 3, 1) := by decide +kernel
theorem dX0_isSameTurned_9 : decode cX0_isSameTurned 9 = .ok (.iload_n 3, 1) := by decide +kernel
theorem dX0_isSameTurned_10 : decode cX0_isSameTurned 10 = .ok (.iconst 4, 1) := by decide +kernel
theorem dX0_isSameTurned_11 : decode cX0_isSameTurned 11 = .ok (.if_icmp .ge 23, 3) := by decide +kernel
theorem dX0_isSameTurned_14 : decode cX0_isSameTurned 14 = .ok (.aload_n 0, 1) := by decide +kernel
theorem dX0_isSameTurned_15 : decode cX0_isSameTurned 15 = .ok (.invokevirtual 146, 3) := by decide +kernel
theorem dX0_isSameTurned_18 : decode cX0_isSameTurned 18 = .ok (.aload_n 0, 1) := by decide +kernel
theorem dX0_isSameTurned_19 : decode cX0_isSameTurned 19 = .ok (.aload_n 1, 1) := by decide +kernel
theorem dX0_isSameTurned_20 : decode cX0_isSameTurned 20 = .ok (.invokevirtual 149, 3) := by decide +kernel
theorem dX0_isSameTurned_23 : decode cX0_isSameTurned 23 = .ok (.ifCond .eq 5, 3) := by decide +kernel
theorem dX0_isSameTurned_26 : decode cX0_isSameTurned 26 = .ok (.iconst 1, 1) := by decide +kernel
theorem dX0_isSameTurned_27 : decode cX0_isSameTurned 27 = .ok (.ireturn, 1) := by decide +kernel
theorem dX0_isSameTurned_28 : decode cX0_isSameTurned 28 = .ok (.iinc 3 1, 3) := by decide +kernel
theorem dX0_isSameTurned_31 : decode cX0_isSameTurned 31 = .ok (.goto (-22), 3) := by decide +kernel
theorem dX0_isSameTurned_34 : decode cX0_isSameTurned 34 = .ok (.aload_n 0, 1) := by decide +kernel
theorem dX0_isSameTurned_35 : decode cX0_isSameTurned 35 = .ok (.invokevirtual 153, 3) := by decide +kernel
theorem dX0_isSameTurned_38 : decode cX0_isSameTurned 38 = .ok (.iinc 2 1, 3) := by decide +kernel
theorem dX0_isSameTurned_41 : decode cX0_isSameTurned 41 = .ok (.goto (-39), 3) := by decide +kernel
theorem dX0_isSameTurned_44 : decode cX0_isSameTurned 44 = .ok (.iconst 0, 1) := by decide +kernel
theorem dX0_isSameTurned_45 : decode cX0_isSameTurned 45 = .ok (.ireturn, 1) := by decide +kernel
theorem dX1_init_0 : decode cX1_init 0 = .ok (.aload_n 0, 1) := by decide +kernel
theorem dX1_init_1 : decode cX1_init 1 = .ok (.invokespecial 3, 3) := by decide +kernel
theorem dX1_init_4 : decode cX1_init 4 = .ok (.aload_n 0, 1) := by decide +kernel
theorem dX1_init_5 : decode cX1_init 5 = .ok (.iload_n 1, 1) := by decide +kernel
theorem dX1_init_6 : decode cX1_init 6 = .ok (.putfield 9, 3) := by decide +kernel
theorem dX1_init_9 : decode cX1_init 9 = .ok (.return_, 1) := by decide +kernel
theorem dX1_below_0 : decode cX1_below 0 = .ok (.aload_n 0, 1) := by decide +kernel
theorem dX1_below_1 : decode cX1_below 1 = .ok (.ldc 15, 2) := by decide +kernel
theorem dX1_below_3 : decode cX1_below 3 = .ok (.aload_n 0, 1) := by decide +kernel
theorem dX1_below_4 : decode cX1_below 4 = .ok (.getfield 9, 3) := by decide +kernel
theorem dX1_below_7 : decode cX1_below 7 = .ok (.imul, 1) := by decide +kernel
theorem dX1_below_8 : decode cX1_below 8 = .ok (.sipush 12345, 3) := by decide +kernel
theorem dX1_below_11 : decode cX1_below 11 = .ok (.iadd, 1) := by decide +kernel
theorem dX1_below_12 : decode cX1_below 12 = .ok (.ldc 16, 2) := by decide +kernel
theorem dX1_below_14 : decode cX1_below 14 = .ok (.iand, 1) := by decide +kernel
theorem dX1_below_15 : decode cX1_below 15 = .ok (.putfield 9, 3) := by decide +kernel
theorem dX1_below_18 : decode cX1_below 18 = .ok (.iload_n 1, 1) := by decide +kernel
theorem dX1_below_19 : decode cX1_below 19 = .ok (.iconst 1, 1) := by decide +kernel
theorem dX1_below_20 : decode cX1_below 20 = .ok (.if_icmp .ge 7, 3) := by decide +kernel
theorem dX1_below_23 : decode cX1_below 23 = .ok (.iconst 0, 1) := by decide +kernel
theorem dX1_below_24 : decode cX1_below 24 = .ok (.goto 12, 3) := by decide +kernel
theorem dX1_below_27 : decode cX1_below 27 = .ok (.aload_n 0, 1) := by decide +kernel
theorem dX1_below_28 : decode cX1_below 28 = .ok (.getfield 9, 3) := by decide +kernel
theorem dX1_below_31 : decode cX1_below 31 = .ok (.bipush 16, 2) := by decide +kernel
theorem dX1_below_33 : decode cX1_below 33 = .ok (.ishr, 1) := by decide +kernel
theorem dX1_below_34 : decode cX1_below 34 = .ok (.iload_n 1, 1) := by decide +kernel
theorem dX1_below_35 : decode cX1_below 35 = .ok (.irem, 1) := by decide +kernel
theorem dX1_below_36 : decode cX1_below 36 = .ok (.ireturn, 1) := by decide +kernel
set_option maxRecDepth 20000 in
theorem mc_X1_addsTo_X1_addsTo_r1 : mjIn wsX1_addsTo wsX1_addsTo_r1 := fun w h => (List.mem_cons_of_mem _ (List.mem_append_left _ (List.mem_append_left _ (List.mem_append_left _ h))))
set_option maxRecDepth 20000 in
theorem mc_X1_addsTo_X10 : mjIn wsX1_addsTo wsX10 := fun w h => (List.mem_cons_of_mem _ (List.mem_append_right _ h))
set_option maxRecDepth 20000 in
theorem ggX1_addsTo_X1_below : GoodIn wsX1_addsTo wsX1_below := mj_good (mj_cons (mc_X1_addsTo_X1_addsTo_r1 _ (List.mem_of_getElem? (i := 6) rfl)) (mj_app (mj_cons (mc_X1_addsTo_X1_addsTo_r1 _ (List.mem_of_getElem? (i := 7) rfl)) (mj_cons (mc_X1_addsTo_X1_addsTo_r1 _ (List.mem_of_getElem? (i := 8) rfl)) (mj_cons (mc_X1_addsTo_X1_addsTo_r1 _ (List.mem_of_getElem? (i := 9) rfl)) mj_nil))) mc_X1_addsTo_X10)) (by decide +kernel)
set_option maxRecDepth 20000 in
theorem gX1_addsTo_X1_below : GoodIn wsX1_addsTo (wsV RX1 17 RX1 yX1_below wsX1_below) := goodIn_app (mj_good (mj_cons (mc_X1_addsTo_X1_addsTo_r1 _ (List.mem_of_getElem? (i := 2) rfl)) (mj_cons (mc_X1_addsTo_X1_addsTo_r1 _ (List.mem_of_getElem? (i := 3) rfl)) (mj_cons (mc_X1_addsTo_X1_addsTo_r1 _ (List.mem_of_getElem? (i := 4) rfl)) (mj_cons (mc_X1_addsTo_X1_addsTo_r1 _ (List.mem_of_getElem? (i := 5) rfl)) mj_nil)))) (by decide +kernel)) ggX1_addsTo_X1_below
set_option maxRecDepth 20000 in
theorem mc_X1_addsTo_X1_addsTo_r2 : mjIn wsX1_addsTo wsX1_addsTo_r2 := fun w h => (List.mem_cons_of_mem _ (List.mem_append_left _ (List.mem_append_left _ (List.mem_append_right _ (List.mem_append_left _ h)))))
set_option maxRecDepth 20000 in
theorem mc_X1_addsTo_X00 : mjIn wsX1_addsTo wsX00 := fun w h => (List.mem_cons_of_mem _ (List.mem_append_left _ (List.mem_append_right _ h)))
set_option maxRecDepth 20000 in
theorem ggX1_addsTo_X0_fits : GoodIn wsX1_addsTo wsX0_fits := mj_good (mj_cons (mc_X1_addsTo_X1_addsTo_r1 _ (List.mem_of_getElem? (i := 14) rfl)) (mj_app (mj_cons (mc_X1_addsTo_X1_addsTo_r1 _ (List.mem_of_getElem? (i := 15) rfl)) (mj_cons (mc_X1_addsTo_X1_addsTo_r1 _ (List.mem_of_getElem? (i := 16) rfl)) (mj_cons (mc_X1_addsTo_X1_addsTo_r1 _ (List.mem_of_getElem? (i := 17) rfl)) (mj_cons (mc_X1_addsTo_X1_addsTo_r1 _ (List.mem_of_getElem? (i := 18) rfl)) (mj_cons (mc_X1_addsTo_X1_addsTo_r1 _ (List.mem_of_getElem? (i := 13) rfl)) (mj_cons (mc_X1_addsTo_X1_addsTo_r1 _ (List.mem_of_getElem? (i := 19) rfl)) (mj_cons (mc_X1_addsTo_X1_addsTo_r1 _ (List.mem_of_getElem? (i := 20) rfl)) (mj_cons (mc_X1_addsTo_X1_addsTo_r1 _ (List.mem_of_getElem? (i := 21) rfl)) (mj_cons (mc_X1_addsTo_X1_addsTo_r1 _ (List.mem_of_getElem? (i := 22) rfl)) (mj_cons (mc_X1_addsTo_X1_addsTo_r1 _ (List.mem_of_getElem? (i := 23) rfl)) (mj_cons (mc_X1_addsTo_X1_addsTo_r2 _ (List.mem_of_getElem? (i := 0) rfl)) (mj_cons (mc_X1_addsTo_X1_addsTo_r2 _ (List.mem_of_getElem? (i := 1) rfl)) (mj_cons (mc_X1_addsTo_X1_addsTo_r2 _ (List.mem_of_getElem? (i := 2) rfl)) (mj_cons (mc_X1_addsTo_X1_addsTo_r2 _ (List.mem_of_getElem? (i := 3) rfl)) (mj_cons (mc_X1_addsTo_X1_addsTo_r2 _ (List.mem_of_getElem? (i := 4) rfl)) (mj_cons (mc_X1_addsTo_X1_addsTo_r2 _ (List.mem_of_getElem? (i := 5) rfl)) (mj_cons (mc_X1_addsTo_X1_addsTo_r2 _ (List.mem_of_getElem? (i := 6) rfl)) (mj_cons (mc_X1_addsTo_X1_addsTo_r2 _ (List.mem_of_getElem? (i := 7) rfl)) mj_nil)))))))))))))))))) mc_X1_addsTo_X00)) (by decide +kernel)
set_option maxRecDepth 20000 in
theorem gX1_addsTo_X0_fits : GoodIn wsX1_addsTo (wsV RX1 29 RX0 yX0_fits wsX0_fits) := goodIn_app (mj_good (mj_cons (mc_X1_addsTo_X1_addsTo_r1 _ (List.mem_of_getElem? (i := 10) rfl)) (mj_cons (mc_X1_addsTo_X1_addsTo_r1 _ (List.mem_of_getElem? (i := 11) rfl)) (mj_cons (mc_X1_addsTo_X1_addsTo_r1 _ (List.mem_of_getElem? (i := 12) rfl)) (mj_cons (mc_X1_addsTo_X1_addsTo_r1 _ (List.mem_of_getElem? (i := 13) rfl)) mj_nil)))) (by decide +kernel)) ggX1_addsTo_X0_fits
set_option maxRecDepth 20000 in
theorem mc_X1_addsTo_X1_addsTo_r3 : mjIn wsX1_addsTo wsX1_addsTo_r3 := fun w h => (List.mem_cons_of_mem _ (List.mem_append_left _ (List.mem_append_left _ (List.mem_append_right _ (List.mem_append_right _ h)))))
set_option maxRecDepth 20000 in
theorem ggX1_addsTo_X0_add : GoodIn wsX1_addsTo wsX0_add := mj_good (mj_cons (mc_X1_addsTo_X1_addsTo_r2 _ (List.mem_of_getElem? (i := 11) rfl)) (mj_app (mj_app (mj_cons (mc_X1_addsTo_X1_addsTo_r2 _ (List.mem_of_getElem? (i := 12) rfl)) (mj_cons (mc_X1_addsTo_X1_addsTo_r2 _ (List.mem_of_getElem? (i := 13) rfl)) (mj_cons (mc_X1_addsTo_X1_addsTo_r2 _ (List.mem_of_getElem? (i := 14) rfl)) (mj_cons (mc_X1_addsTo_X1_addsTo_r2 _ (List.mem_of_getElem? (i := 15) rfl)) (mj_cons (mc_X1_addsTo_X1_addsTo_r2 _ (List.mem_of_getElem? (i := 16) rfl)) (mj_cons (mc_X1_addsTo_X1_addsTo_r2 _ (List.mem_of_getElem? (i := 17) rfl)) (mj_cons (mc_X1_addsTo_X1_addsTo_r1 _ (List.mem_of_getElem? (i := 16) rfl)) (mj_cons (mc_X1_addsTo_X1_addsTo_r2 _ (List.mem_of_getElem? (i := 18) rfl)) (mj_cons (mc_X1_addsTo_X1_addsTo_r2 _ (List.mem_of_getElem? (i := 19) rfl)) (mj_cons (mc_X1_addsTo_X1_addsTo_r2 _ (List.mem_of_getElem? (i := 20) rfl)) (mj_cons (mc_X1_addsTo_X1_addsTo_r1 _ (List.mem_of_getElem? (i := 13) rfl)) (mj_cons (mc_X1_addsTo_X1_addsTo_r2 _ (List.mem_of_getElem? (i := 21) rfl)) (mj_cons (mc_X1_addsTo_X1_addsTo_r2 _ (List.mem_of_getElem? (i := 22) rfl)) (mj_cons (mc_X1_addsTo_X1_addsTo_r2 _ (List.mem_of_getElem? (i := 23) rfl)) (mj_cons (mc_X1_addsTo_X1_addsTo_r3 _ (List.mem_of_getElem? (i := 0) rfl)) (mj_cons (mc_X1_addsTo_X1_addsTo_r1 _ (List.mem_of_getElem? (i := 17) rfl)) (mj_cons (mc_X1_addsTo_X1_addsTo_r1 _ (List.mem_of_getElem? (i := 18) rfl)) (mj_cons (mc_X1_addsTo_X1_addsTo_r1 _ (List.mem_of_getElem? (i := 19) rfl)) (mj_cons (mc_X1_addsTo_X1_addsTo_r1 _ (List.mem_of_getElem? (i := 20) rfl)) (mj_cons (mc_X1_addsTo_X1_addsTo_r1 _ (List.mem_of_getElem? (i := 21) rfl)) (mj_cons (mc_X1_addsTo_X1_addsTo_r1 _ (List.mem_of_getElem? (i := 22) rfl)) (mj_cons (mc_X1_addsTo_X1_addsTo_r2 _ (List.mem_of_getElem? (i := 5) rfl)) (mj_cons (mc_X1_addsTo_X1_addsTo_r2 _ (List.mem_of_getElem? (i := 6) rfl)) (mj_cons (mc_X1_addsTo_X1_addsTo_r2 _ (List.mem_of_getElem? (i := 7) rfl)) mj_nil)))))))))))))))))))))))) (mj_cons (mc_X1_addsTo_X1_addsTo_r3 _ (List.mem_of_getElem? (i := 1) rfl)) (mj_cons (mc_X1_addsTo_X1_addsTo_r3 _ (List.mem_of_getElem? (i := 2) rfl)) (mj_cons (mc_X1_addsTo_X1_addsTo_r3 _ (List.mem_of_getElem? (i := 3) rfl)) (mj_cons (mc_X1_addsTo_X1_addsTo_r3 _ (List.mem_of_getElem? (i := 4) rfl)) mj_nil))))) mc_X1_addsTo_X00)) (by decide +kernel)
set_option maxRecDepth 20000 in
theorem gX1_addsTo_X0_add : GoodIn wsX1_addsTo (wsV RX1 33 RX0 yX0_add wsX0_add) := goodIn_app (mj_good (mj_cons (mc_X1_addsTo_X1_addsTo_r2 _ (List.mem_of_getElem? (i := 8) rfl)) (mj_cons (mc_X1_addsTo_X1_addsTo_r2 _ (List.mem_of_getElem? (i := 9) rfl)) (mj_cons (mc_X1_addsTo_X1_addsTo_r2 _ (List.mem_of_getElem? (i := 10) rfl)) (mj_cons (mc_X1_addsTo_X1_addsTo_r1 _ (List.mem_of_getElem? (i := 13) rfl)) mj_nil)))) (by decide +kernel)) ggX1_addsTo_X0_add
theorem dX1_addsTo_0 : decode cX1_addsTo 0 = .ok (.aload_n 0, 1) := by decide +kernel
theorem dX1_addsTo_1 : decode cX1_addsTo 1 = .ok (.bipush 6, 2) := by decide +kernel
theorem dX1_addsTo_3 : decode cX1_addsTo 3 = .ok (.invokevirtual 17, 3) := by decide +kernel
theorem dX1_addsTo_6 : decode cX1_addsTo 6 = .ok (.istore_n 2, 1) := by decide +kernel
theorem dX1_addsTo_7 : decode cX1_addsTo 7 = .ok (.iload_n 2, 1) := by decide +kernel
theorem dX1_addsTo_8 : decode cX1_addsTo 8 = .ok (.iconst 3, 1) := by decide +kernel
theorem dX1_addsTo_9 : decode cX1_addsTo 9 = .ok (.if_icmp .ne 7, 3) := by decide +kernel
theorem dX1_addsTo_12 : decode cX1_addsTo 12 = .ok (.iconst 2, 1) := by decide +kernel
theorem dX1_addsTo_13 : decode cX1_addsTo 13 = .ok (.goto 13, 3) := by decide +kernel
theorem dX1_addsTo_16 : decode cX1_addsTo 16 = .ok (.iload_n 2, 1) := by decide +kernel
theorem dX1_addsTo_17 : decode cX1_addsTo 17 = .ok (.iconst 4, 1) := by decide +kernel
theorem dX1_addsTo_18 : decode cX1_addsTo 18 = .ok (.if_icmp .ne 7, 3) := by decide +kernel
theorem dX1_addsTo_21 : decode cX1_addsTo 21 = .ok (.iconst 3, 1) := by decide +kernel
theorem dX1_addsTo_22 : decode cX1_addsTo 22 = .ok (.goto 4, 3) := by decide +kernel
theorem dX1_addsTo_25 : decode cX1_addsTo 25 = .ok (.iconst 1, 1) := by decide +kernel
theorem dX1_addsTo_26 : decode cX1_addsTo 26 = .ok (.istore_n 3, 1) := by decide +kernel
theorem dX1_addsTo_27 : decode cX1_addsTo 27 = .ok (.iload_n 3, 1) := by decide +kernel
theorem dX1_addsTo_28 : decode cX1_addsTo 28 = .ok (.iconst 1, 1) := by decide +kernel
theorem dX1_addsTo_29 : decode cX1_addsTo 29 = .ok (.if_icmp .ne 13, 3) := by decide +kernel
theorem dX1_addsTo_32 : decode cX1_addsTo 32 = .ok (.aload_n 0, 1) := by decide +kernel
theorem dX1_addsTo_33 : decode cX1_addsTo 33 = .ok (.iconst 3, 1) := by decide +kernel
theorem dX1_addsTo_34 : decode cX1_addsTo 34 = .ok (.invokevirtual 17, 3) := by decide +kernel
theorem dX1_addsTo_37 : decode cX1_addsTo 37 = .ok (.iconst 2, 1) := by decide +kernel
theorem dX1_addsTo_38 : decode cX1_addsTo 38 = .ok (.iadd, 1) := by decide +kernel
theorem dX1_addsTo_39 : decode cX1_addsTo 39 = .ok (.goto 13, 3) := by decide +kernel
theorem dX1_addsTo_42 : decode cX1_addsTo 42 = .ok (.iload_n 3, 1) := by decide +kernel
theorem dX1_addsTo_43 : decode cX1_addsTo 43 = .ok (.iconst 3, 1) := by decide +kernel
theorem dX1_addsTo_44 : decode cX1_addsTo 44 = .ok (.if_icmp .ne 7, 3) := by decide +kernel
theorem dX1_addsTo_47 : decode cX1_addsTo 47 = .ok (.iconst 2, 1) := by decide +kernel
theorem dX1_addsTo_48 : decode cX1_addsTo 48 = .ok (.goto 4, 3) := by decide +kernel
theorem dX1_addsTo_51 : decode cX1_addsTo 51 = .ok (.iconst 1, 1) := by decide +kernel
theorem dX1_addsTo_52 : decode cX1_addsTo 52 = .ok (.istore 4, 2) := by decide +kernel
theorem dX1_addsTo_54 : decode cX1_addsTo 54 = .ok (.iload_n 2, 1) := by decide +kernel
theorem dX1_addsTo_55 : decode cX1_addsTo 55 = .ok (.iconst 1, 1) := by decide +kernel
theorem dX1_addsTo_56 : decode cX1_addsTo 56 = .ok (.if_icmp .eq 8, 3) := by decide +kernel
theorem dX1_addsTo_59 : decode cX1_addsTo 59 = .ok (.iload_n 2, 1) := by decide +kernel
theorem dX1_addsTo_60 : decode cX1_addsTo 60 = .ok (.iconst 2, 1) := by decide +kernel
theorem dX1_addsTo_61 : decode cX1_addsTo 61 = .ok (.if_icmp .ne 7, 3) := by decide +kernel
theorem dX1_addsTo_64 : decode cX1_addsTo 64 = .ok (.iconst 1, 1) := by decide +kernel
theorem dX1_addsTo_65 : decode cX1_addsTo 65 = .ok (.goto 4, 3) := by decide +kernel
theorem dX1_addsTo_68 : decode cX1_addsTo 68 = .ok (.iconst 0, 1) := by decide +kernel
theorem dX1_addsTo_69 : decode cX1_addsTo 69 = .ok (.istore 5, 2) := by decide +kernel
theorem dX1_addsTo_71 : decode cX1_addsTo 71 = .ok (.aload_n 0, 1) := by decide +kernel
theorem dX1_addsTo_72 : decode cX1_addsTo 72 = .ok (.aload_n 1, 1) := by decide +kernel
theorem dX1_addsTo_73 : decode cX1_addsTo 73 = .ok (.getfield 21, 3) := by decide +kernel
theorem dX1_addsTo_76 : decode cX1_addsTo 76 = .ok (.invokevirtual 17, 3) := by decide +kernel
theorem dX1_addsTo_79 : decode cX1_addsTo 79 = .ok (.istore 6, 2) := by decide +kernel
theorem dX1_addsTo_81 : decode cX1_addsTo 81 = .ok (.aload_n 0, 1) := by decide +kernel
theorem dX1_addsTo_82 : decode cX1_addsTo 82 = .ok (.aload_n 1, 1) := by decide +kernel
theorem dX1_addsTo_83 : decode cX1_addsTo 83 = .ok (.getfield 26, 3) := by decide +kernel
theorem dX1_addsTo_86 : decode cX1_addsTo 86 = .ok (.invokevirtual 17, 3) := by decide +kernel
theorem dX1_addsTo_89 : decode cX1_addsTo 89 = .ok (.istore 7, 2) := by decide +kernel
theorem dX1_addsTo_91 : decode cX1_addsTo 91 = .ok (.aload_n 1, 1) := by decide +kernel
theorem dX1_addsTo_92 : decode cX1_addsTo 92 = .ok (.iload_n 3, 1) := by decide +kernel
theorem dX1_addsTo_93 : decode cX1_addsTo 93 = .ok (.iload 6, 2) := by decide +kernel
theorem dX1_addsTo_95 : decode cX1_addsTo 95 = .ok (.iload 7, 2) := by decide +kernel
theorem dX1_addsTo_97 : decode cX1_addsTo 97 = .ok (.iload 4, 2) := by decide +kernel
theorem dX1_addsTo_99 : decode cX1_addsTo 99 = .ok (.iload 5, 2) := by decide +kernel
theorem dX1_addsTo_101 : decode cX1_addsTo 101 = .ok (.invokevirtual 29, 3) := by decide +kernel
theorem dX1_addsTo_104 : decode cX1_addsTo 104 = .ok (.ifCond .ne 5, 3) := by decide +kernel
theorem dX1_addsTo_107 : decode cX1_addsTo 107 = .ok (.iconst 0, 1) := by decide +kernel
theorem dX1_addsTo_108 : decode cX1_addsTo 108 = .ok (.ireturn, 1) := by decide +kernel
theorem dX1_addsTo_109 : decode cX1_addsTo 109 = .ok (.aload_n 1, 1) := by decide +kernel
theorem dX1_addsTo_110 : decode cX1_addsTo 110 = .ok (.iload_n 3, 1) := by decide +kernel
theorem dX1_addsTo_111 : decode cX1_addsTo 111 = .ok (.bipush 8, 2) := by decide +kernel
theorem dX1_addsTo_113 : decode cX1_addsTo 113 = .ok (.iload 7, 2) := by decide +kernel
theorem dX1_addsTo_115 : decode cX1_addsTo 115 = .ok (.imul, 1) := by decide +kernel
theorem dX1_addsTo_116 : decode cX1_addsTo 116 = .ok (.iload 6, 2) := by decide +kernel
theorem dX1_addsTo_118 : decode cX1_addsTo 118 = .ok (.iadd, 1) := by decide +kernel
theorem dX1_addsTo_119 : decode cX1_addsTo 119 = .ok (.iload 4, 2) := by decide +kernel
theorem dX1_addsTo_121 : decode cX1_addsTo 121 = .ok (.iload 5, 2) := by decide +kernel
theorem dX1_addsTo_123 : decode cX1_addsTo 123 = .ok (.invokevirtual 33, 3) := by decide +kernel
theorem dX1_addsTo_126 : decode cX1_addsTo 126 = .ok (.iconst 1, 1) := by decide +kernel
theorem dX1_addsTo_127 : decode cX1_addsTo 127 = .ok (.ireturn, 1) := by decide +kernel
theorem dX2_init_0 : decode cX2_init 0 = .ok (.aload_n 0, 1) := by decide +kernel
theorem dX2_init_1 : decode cX2_init 1 = .ok (.invokespecial 3, 3) := by decide +kernel
theorem dX2_init_4 : decode cX2_init 4 = .ok (.aload_n 0, 1) := by decide +kernel
theorem dX2_init_5 : decode cX2_init 5 = .ok (.bipush 8, 2) := by decide +kernel
theorem dX2_init_7 : decode cX2_init 7 = .ok (.newarray .int, 2) := by decide +kernel
theorem dX2_init_9 : decode cX2_init 9 = .ok (.putfield 9, 3) := by decide +kernel
theorem dX2_init_12 : decode cX2_init 12 = .ok (.aload_n 0, 1) := by decide +kernel
theorem dX2_init_13 : decode cX2_init 13 = .ok (.bipush 8, 2) := by decide +kernel
theorem dX2_init_15 : decode cX2_init 15 = .ok (.newarray .int, 2) := by decide +kernel
theorem dX2_init_17 : decode cX2_init 17 = .ok (.putfield 15, 3) := by decide +kernel
theorem dX2_init_20 : decode cX2_init 20 = .ok (.aload_n 0, 1) := by decide +kernel
theorem dX2_init_21 : decode cX2_init 21 = .ok (.bipush 64, 2) := by decide +kernel
theorem dX2_init_23 : decode cX2_init 23 = .ok (.newarray .int, 2) := by decide +kernel
theorem dX2_init_25 : decode cX2_init 25 = .ok (.putfield 18, 3) := by decide +kernel
theorem dX2_init_28 : decode cX2_init 28 = .ok (.aload_n 0, 1) := by decide +kernel
theorem dX2_init_29 : decode cX2_init 29 = .ok (.bipush 8, 2) := by decide +kernel
theorem dX2_init_31 : decode cX2_init 31 = .ok (.newarray .int, 2) := by decide +kernel
theorem dX2_init_33 : decode cX2_init 33 = .ok (.putfield 21, 3) := by decide +kernel
theorem dX2_init_36 : decode cX2_init 36 = .ok (.return_, 1) := by decide +kernel
set_option maxRecDepth 20000 in
theorem mc_X2_tearAll_X20 : mjIn wsX2_tearAll wsX20 := fun w h => (List.mem_cons_of_mem _ (List.mem_append_right _ h))
set_option maxRecDepth 20000 in
theorem ggX2_tearAll_X2_tearOff : GoodIn wsX2_tearAll wsX2_tearOff := mj_good (mj_cons (List.mem_of_getElem? (i := 5) rfl) (mj_app (mj_cons (List.mem_of_getElem? (i := 6) rfl) mj_nil) mc_X2_tearAll_X20)) (by decide +kernel)
set_option maxRecDepth 20000 in
theorem gX2_tearAll_X2_tearOff : GoodIn wsX2_tearAll (wsV RX2 24 RX2 yX2_tearOff wsX2_tearOff) := goodIn_app (mj_good (mj_cons (List.mem_of_getElem? (i := 1) rfl) (mj_cons (List.mem_of_getElem? (i := 2) rfl) (mj_cons (List.mem_of_getElem? (i := 3) rfl) (mj_cons (List.mem_of_getElem? (i := 4) rfl) mj_nil)))) (by decide +kernel)) ggX2_tearAll_X2_tearOff
theorem dX2_tearAll_0 : decode cX2_tearAll 0 = .ok (.iconst 0, 1) := by decide +kernel
theorem dX2_tearAll_1 : decode cX2_tearAll 1 = .ok (.istore_n 1, 1) := by decide +kernel
theorem dX2_tearAll_2 : decode cX2_tearAll 2 = .ok (.iload_n 1, 1) := by decide +kernel
theorem dX2_tearAll_3 : decode cX2_tearAll 3 = .ok (.bipush 8, 2) := by decide +kernel
theorem dX2_tearAll_5 : decode cX2_tearAll 5 = .ok (.if_icmp .ge 14, 3) := by decide +kernel
theorem dX2_tearAll_8 : decode cX2_tearAll 8 = .ok (.aload_n 0, 1) := by decide +kernel
theorem dX2_tearAll_9 : decode cX2_tearAll 9 = .ok (.iload_n 1, 1) := by decide +kernel
theorem dX2_tearAll_10 : decode cX2_tearAll 10 = .ok (.invokevirtual 24, 3) := by decide +kernel
theorem dX2_tearAll_13 : decode cX2_tearAll 13 = .ok (.iinc 1 1, 3) := by decide +kernel
theorem dX2_tearAll_16 : decode cX2_tearAll 16 = .ok (.goto (-14), 3) := by decide +kernel
theorem dX2_tearAll_19 : decode cX2_tearAll 19 = .ok (.return_, 1) := by decide +kernel
theorem dX2_tearOff_0 : decode cX2_tearOff 0 = .ok (.aload_n 0, 1) := by decide +kernel
theorem dX2_tearOff_1 : decode cX2_tearOff 1 = .ok (.getfield 9, 3) := by decide +kernel
theorem dX2_tearOff_4 : decode cX2_tearOff 4 = .ok (.iload_n 1, 1) := by decide +kernel
theorem dX2_tearOff_5 : decode cX2_tearOff 5 = .ok (.iconst (-1), 1) := by decide +kernel
theorem dX2_tearOff_6 : decode cX2_tearOff 6 = .ok (.iastore, 1) := by decide +kernel
theorem dX2_tearOff_7 : decode cX2_tearOff 7 = .ok (.return_, 1) := by decide +kernel
theorem dX2_isMissing_0 : decode cX2_isMissing 0 = .ok (.aload_n 0, 1) := by decide +kernel
theorem dX2_isMissing_1 : decode cX2_isMissing 1 = .ok (.getfield 9, 3) := by decide +kernel
theorem dX2_isMissing_4 : decode cX2_isMissing 4 = .ok (.iload_n 1, 1) := by decide +kernel
theorem dX2_isMissing_5 : decode cX2_isMissing 5 = .ok (.iaload, 1) := by decide +kernel
theorem dX2_isMissing_6 : decode cX2_isMissing 6 = .ok (.iconst (-1), 1) := by decide +kernel
theorem dX2_isMissing_7 : decode cX2_isMissing 7 = .ok (.if_icmp .ne 7, 3) := by decide +kernel
theorem dX2_isMissing_10 : decode cX2_isMissing 10 = .ok (.iconst 1, 1) := by decide +kernel
theorem dX2_isMissing_11 : decode cX2_isMissing 11 = .ok (.goto 4, 3) := by decide +kernel
theorem dX2_isMissing_14 : decode cX2_isMissing 14 = .ok (.iconst 0, 1) := by decide +kernel
theorem dX2_isMissing_15 : decode cX2_isMissing 15 = .ok (.ireturn, 1) := by decide +kernel
set_option maxRecDepth 20000 in
theorem mc_X2_lay_X20 : mjIn wsX2_lay wsX20 := fun w h => (List.mem_cons_of_mem _ (List.mem_append_right _ h))
set_option maxRecDepth 20000 in
theorem ggX2_lay_X2_write : GoodIn wsX2_lay wsX2_write := mj_good (mj_cons (List.mem_of_getElem? (i := 7) rfl) (mj_app (mj_cons (List.mem_of_getElem? (i := 8) rfl) mj_nil) mc_X2_lay_X20)) (by decide +kernel)
set_option maxRecDepth 20000 in
theorem gX2_lay_X2_write : GoodIn wsX2_lay (wsV RX2 28 RX2 yX2_write wsX2_write) := goodIn_app (mj_good (mj_cons (List.mem_of_getElem? (i := 3) rfl) (mj_cons (List.mem_of_getElem? (i := 4) rfl) (mj_cons (List.mem_of_getElem? (i := 5) rfl) (mj_cons (List.mem_of_getElem? (i := 6) rfl) mj_nil)))) (by decide +kernel)) ggX2_lay_X2_write
theorem dX2_lay_0 : decode cX2_lay 0 = .ok (.aload_n 0, 1) := by decide +kernel
theorem dX2_lay_1 : decode cX2_lay 1 = .ok (.getfield 9, 3) := by decide +kernel
theorem dX2_lay_4 : decode cX2_lay 4 = .ok (.iload_n 1, 1) := by decide +kernel
theorem dX2_lay_5 : decode cX2_lay 5 = .ok (.iload_n 2, 1) := by decide +kernel
theorem dX2_lay_6 : decode cX2_lay 6 = .ok (.iastore, 1) := by decide +kernel
theorem dX2_lay_7 : decode cX2_lay 7 = .ok (.aload_n 0, 1) := by decide +kernel
theorem dX2_lay_8 : decode cX2_lay 8 = .ok (.getfield 15, 3) := by decide +kernel
theorem dX2_lay_11 : decode cX2_lay 11 = .ok (.iload_n 1, 1) := by decide +kernel
theorem dX2_lay_12 : decode cX2_lay 12 = .ok (.iload_n 3, 1) := by decide +kernel
theorem dX2_lay_13 : decode cX2_lay 13 = .ok (.iastore, 1) := by decide +kernel
theorem dX2_lay_14 : decode cX2_lay 14 = .ok (.iconst 0, 1) := by decide +kernel
theorem dX2_lay_15 : decode cX2_lay 15 = .ok (.istore 4, 2) := by decide +kernel
theorem dX2_lay_17 : decode cX2_lay 17 = .ok (.iload 4, 2) := by decide +kernel
theorem dX2_lay_19 : decode cX2_lay 19 = .ok (.bipush 8, 2) := by decide +kernel
theorem dX2_lay_21 : decode cX2_lay 21 = .ok (.if_icmp .ge 17, 3) := by decide +kernel
theorem dX2_lay_24 : decode cX2_lay 24 = .ok (.aload_n 0, 1) := by decide +kernel
theorem dX2_lay_25 : decode cX2_lay 25 = .ok (.iload_n 1, 1) := by decide +kernel
theorem dX2_lay_26 : decode cX2_lay 26 = .ok (.iload 4, 2) := by decide +kernel
theorem dX2_lay_28 : decode cX2_lay 28 = .ok (.iconst 0, 1) := by decide +kernel
theorem dX2_lay_29 : decode cX2_lay 29 = .ok (.invokevirtual 28, 3) := by decide +kernel
theorem dX2_lay_32 : decode cX2_lay 32 = .ok (.iinc 4 1, 3) := by decide +kernel
theorem dX2_lay_35 : decode cX2_lay 35 = .ok (.goto (-18), 3) := by decide +kernel
theorem dX2_lay_38 : decode cX2_lay 38 = .ok (.return_, 1) := by decide +kernel
theorem dX2_number_0 : decode cX2_number 0 = .ok (.aload_n 0, 1) := by decide +kernel
theorem dX2_number_1 : decode cX2_number 1 = .ok (.getfield 18, 3) := by decide +kernel
theorem dX2_number_4 : decode cX2_number 4 = .ok (.bipush 8, 2) := by decide +kernel
theorem dX2_number_6 : decode cX2_number 6 = .ok (.iload_n 1, 1) := by decide +kernel
theorem dX2_number_7 : decode cX2_number 7 = .ok (.imul, 1) := by decide +kernel
theorem dX2_number_8 : decode cX2_number 8 = .ok (.iload_n 2, 1) := by decide +kernel
theorem dX2_number_9 : decode cX2_number 9 = .ok (.iadd, 1) := by decide +kernel
theorem dX2_number_10 : decode cX2_number 10 = .ok (.iaload, 1) := by decide +kernel
theorem dX2_number_11 : decode cX2_number 11 = .ok (.ireturn, 1) := by decide +kernel
theorem dX2_write_0 : decode cX2_write 0 = .ok (.aload_n 0, 1) := by decide +kernel
theorem dX2_write_1 : decode cX2_write 1 = .ok (.getfield 18, 3) := by decide +kernel
theorem dX2_write_4 : decode cX2_write 4 = .ok (.bipush 8, 2) := by decide +kernel
theorem dX2_write_6 : decode cX2_write 6 = .ok (.iload_n 1, 1) := by decide +kernel
theorem dX2_write_7 : decode cX2_write 7 = .ok (.imul, 1) := by decide +kernel
theorem dX2_write_8 : decode cX2_write 8 = .ok (.iload_n 2, 1) := by decide +kernel
theorem dX2_write_9 : decode cX2_write 9 = .ok (.iadd, 1) := by decide +kernel
theorem dX2_write_10 : decode cX2_write 10 = .ok (.iload_n 3, 1) := by decide +kernel
theorem dX2_write_11 : decode cX2_write 11 = .ok (.iastore, 1) := by decide +kernel
theorem dX2_write_12 : decode cX2_write 12 = .ok (.return_, 1) := by decide +kernel
theorem dX2_cut_0 : decode cX2_cut 0 = .ok (.aload_n 0, 1) := by decide +kernel
theorem dX2_cut_1 : decode cX2_cut 1 = .ok (.getfield 9, 3) := by decide +kernel
theorem dX2_cut_4 : decode cX2_cut 4 = .ok (.iload_n 1, 1) := by decide +kernel
theorem dX2_cut_5 : decode cX2_cut 5 = .ok (.iaload, 1) := by decide +kernel
theorem dX2_cut_6 : decode cX2_cut 6 = .ok (.lookupswitch 32 #[(0, 26), (1, 29)], 26) := by decide +kernel
theorem dX2_cut_32 : decode cX2_cut 32 = .ok (.iload_n 2, 1) := by decide +kernel
theorem dX2_cut_33 : decode cX2_cut 33 = .ok (.i2b, 1) := by decide +kernel
theorem dX2_cut_34 : decode cX2_cut 34 = .ok (.ireturn, 1) := by decide +kernel
theorem dX2_cut_35 : decode cX2_cut 35 = .ok (.iload_n 2, 1) := by decide +kernel
theorem dX2_cut_36 : decode cX2_cut 36 = .ok (.i2c, 1) := by decide +kernel
theorem dX2_cut_37 : decode cX2_cut 37 = .ok (.ireturn, 1) := by decide +kernel
theorem dX2_cut_38 : decode cX2_cut 38 = .ok (.iload_n 2, 1) := by decide +kernel
theorem dX2_cut_39 : decode cX2_cut 39 = .ok (.i2s, 1) := by decide +kernel
theorem dX2_cut_40 : decode cX2_cut 40 = .ok (.ireturn, 1) := by decide +kernel
theorem dX2_holds_0 : decode cX2_holds 0 = .ok (.iload_n 2, 1) := by decide +kernel
theorem dX2_holds_1 : decode cX2_holds 1 = .ok (.ifCond .lt 29, 3) := by decide +kernel
theorem dX2_holds_4 : decode cX2_holds 4 = .ok (.iload_n 3, 1) := by decide +kernel
theorem dX2_holds_5 : decode cX2_holds 5 = .ok (.aload_n 0, 1) := by decide +kernel
theorem dX2_holds_6 : decode cX2_holds 6 = .ok (.getfield 15, 3) := by decide +kernel
theorem dX2_holds_9 : decode cX2_holds 9 = .ok (.iload_n 1, 1) := by decide +kernel
theorem dX2_holds_10 : decode cX2_holds 10 = .ok (.iaload, 1) := by decide +kernel
theorem dX2_holds_11 : decode cX2_holds 11 = .ok (.if_icmp .gt 19, 3) := by decide +kernel
theorem dX2_holds_14 : decode cX2_holds 14 = .ok (.iload_n 2, 1) := by decide +kernel
theorem dX2_holds_15 : decode cX2_holds 15 = .ok (.aload_n 0, 1) := by decide +kernel
theorem dX2_holds_16 : decode cX2_holds 16 = .ok (.getfield 15, 3) := by decide +kernel
theorem dX2_holds_19 : decode cX2_holds 19 = .ok (.iload_n 1, 1) := by decide +kernel
theorem dX2_holds_20 : decode cX2_holds 20 = .ok (.iaload, 1) := by decide +kernel
theorem dX2_holds_21 : decode cX2_holds 21 = .ok (.iload_n 3, 1) := by decide +kernel
theorem dX2_holds_22 : decode cX2_holds 22 = .ok (.isub, 1) := by decide +kernel
theorem dX2_holds_23 : decode cX2_holds 23 = .ok (.if_icmp .gt 7, 3) := by decide +kernel
theorem dX2_holds_26 : decode cX2_holds 26 = .ok (.iconst 1, 1) := by decide +kernel
theorem dX2_holds_27 : decode cX2_holds 27 = .ok (.goto 4, 3) := by decide +kernel
theorem dX2_holds_30 : decode cX2_holds 30 = .ok (.iconst 0, 1) := by decide +kernel
theorem dX2_holds_31 : decode cX2_holds 31 = .ok (.ireturn, 1) := by decide +kernel
set_option maxRecDepth 20000 in
theorem mc_X2_copy_X20 : mjIn wsX2_copy wsX20 := fun w h => (List.mem_cons_of_mem _ (List.mem_append_right _ h))
set_option maxRecDepth 20000 in
theorem ggX2_copy_X2_number : GoodIn wsX2_copy wsX2_number := mj_good (mj_cons (List.mem_of_getElem? (i := 6) rfl) (mj_app (mj_cons (List.mem_of_getElem? (i := 7) rfl) mj_nil) mc_X2_copy_X20)) (by decide +kernel)
set_option maxRecDepth 20000 in
theorem gX2_copy_X2_number : GoodIn wsX2_copy (wsV RX2 32 RX2 yX2_number wsX2_number) := goodIn_app (mj_good (mj_cons (List.mem_of_getElem? (i := 2) rfl) (mj_cons (List.mem_of_getElem? (i := 3) rfl) (mj_cons (List.mem_of_getElem? (i := 4) rfl) (mj_cons (List.mem_of_getElem? (i := 5) rfl) mj_nil)))) (by decide +kernel)) ggX2_copy_X2_number
set_option maxRecDepth 20000 in
theorem ggX2_copy_X2_write : GoodIn wsX2_copy wsX2_write := mj_good (mj_cons (List.mem_of_getElem? (i := 11) rfl) (mj_app (mj_cons (List.mem_of_getElem? (i := 7) rfl) mj_nil) mc_X2_copy_X20)) (by decide +kernel)
set_option maxRecDepth 20000 in
theorem gX2_copy_X2_write : GoodIn wsX2_copy (wsV RX2 28 RX2 yX2_write wsX2_write) := goodIn_app (mj_good (mj_cons (List.mem_of_getElem? (i := 8) rfl) (mj_cons (List.mem_of_getElem? (i := 9) rfl) (mj_cons (List.mem_of_getElem? (i := 10) rfl) (mj_cons (List.mem_of_getElem? (i := 5) rfl) mj_nil)))) (by decide +kernel)) ggX2_copy_X2_write
theorem dX2_copy_0 : decode cX2_copy 0 = .ok (.iconst 0, 1) := by decide +kernel
theorem dX2_copy_1 : decode cX2_copy 1 = .ok (.istore 6, 2) := by decide +kernel
theorem dX2_copy_3 : decode cX2_copy 3 = .ok (.iload 6, 2) := by decide +kernel
theorem dX2_copy_5 : decode cX2_copy 5 = .ok (.iload 5, 2) := by decide +kernel
theorem dX2_copy_7 : decode cX2_copy 7 = .ok (.if_icmp .ge 25, 3) := by decide +kernel
theorem dX2_copy_10 : decode cX2_copy 10 = .ok (.aload_n 0, 1) := by decide +kernel
theorem dX2_copy_11 : decode cX2_copy 11 = .ok (.getfield 21, 3) := by decide +kernel
theorem dX2_copy_14 : decode cX2_copy 14 = .ok (.iload 6, 2) := by decide +kernel
theorem dX2_copy_16 : decode cX2_copy 16 = .ok (.aload_n 0, 1) := by decide +kernel
theorem dX2_copy_17 : decode cX2_copy 17 = .ok (.iload_n 1, 1) := by decide +kernel
theorem dX2_copy_18 : decode cX2_copy 18 = .ok (.iload_n 2, 1) := by decide +kernel
theorem dX2_copy_19 : decode cX2_copy 19 = .ok (.iload 6, 2) := by decide +kernel
theorem dX2_copy_21 : decode cX2_copy 21 = .ok (.iadd, 1) := by decide +kernel
theorem dX2_copy_22 : decode cX2_copy 22 = .ok (.invokevirtual 32, 3) := by decide +kernel
theorem dX2_copy_25 : decode cX2_copy 25 = .ok (.iastore, 1) := by decide +kernel
theorem dX2_copy_26 : decode cX2_copy 26 = .ok (.iinc 6 1, 3) := by decide +kernel
theorem dX2_copy_29 : decode cX2_copy 29 = .ok (.goto (-26), 3) := by decide +kernel
theorem dX2_copy_32 : decode cX2_copy 32 = .ok (.iconst 0, 1) := by decide +kernel
theorem dX2_copy_33 : decode cX2_copy 33 = .ok (.istore 6, 2) := by decide +kernel
theorem dX2_copy_35 : decode cX2_copy 35 = .ok (.iload 6, 2) := by decide +kernel
theorem dX2_copy_37 : decode cX2_copy 37 = .ok (.iload 5, 2) := by decide +kernel
theorem dX2_copy_39 : decode cX2_copy 39 = .ok (.if_icmp .ge 26, 3) := by decide +kernel
theorem dX2_copy_42 : decode cX2_copy 42 = .ok (.aload_n 0, 1) := by decide +kernel
theorem dX2_copy_43 : decode cX2_copy 43 = .ok (.iload_n 3, 1) := by decide +kernel
theorem dX2_copy_44 : decode cX2_copy 44 = .ok (.iload 4, 2) := by decide +kernel
theorem dX2_copy_46 : decode cX2_copy 46 = .ok (.iload 6, 2) := by decide +kernel
theorem dX2_copy_48 : decode cX2_copy 48 = .ok (.iadd, 1) := by decide +kernel
theorem dX2_copy_49 : decode cX2_copy 49 = .ok (.aload_n 0, 1) := by decide +kernel
theorem dX2_copy_50 : decode cX2_copy 50 = .ok (.getfield 21, 3) := by decide +kernel
theorem dX2_copy_53 : decode cX2_copy 53 = .ok (.iload 6, 2) := by decide +kernel
theorem dX2_copy_55 : decode cX2_copy 55 = .ok (.iaload, 1) := by decide +kernel
theorem dX2_copy_56 : decode cX2_copy 56 = .ok (.invokevirtual 28, 3) := by decide +kernel
theorem dX2_copy_59 : decode cX2_copy 59 = .ok (.iinc 6 1, 3) := by decide +kernel
theorem dX2_copy_62 : decode cX2_copy 62 = .ok (.goto (-27), 3) := by decide +kernel
theorem dX2_copy_65 : decode cX2_copy 65 = .ok (.return_, 1) := by decide +kernel
set_option maxRecDepth 20000 in
theorem mc_X2_wallBits_X20 : mjIn wsX2_wallBits wsX20 := fun w h => (List.mem_cons_of_mem _ (List.mem_append_right _ h))
set_option maxRecDepth 20000 in
theorem ggX2_wallBits_X2_isMissing : GoodIn wsX2_wallBits wsX2_isMissing := mj_good (mj_cons (List.mem_of_getElem? (i := 6) rfl) (mj_app (mj_cons (List.mem_of_getElem? (i := 7) rfl) mj_nil) mc_X2_wallBits_X20)) (by decide +kernel)
set_option maxRecDepth 20000 in
theorem gX2_wallBits_X2_isMissing : GoodIn wsX2_wallBits (wsV RX2 36 RX2 yX2_isMissing wsX2_isMissing) := goodIn_app (mj_good (mj_cons (List.mem_of_getElem? (i := 2) rfl) (mj_cons (List.mem_of_getElem? (i := 3) rfl) (mj_cons (List.mem_of_getElem? (i := 4) rfl) (mj_cons (List.mem_of_getElem? (i := 5) rfl) mj_nil)))) (by decide +kernel)) ggX2_wallBits_X2_isMissing
set_option maxRecDepth 20000 in
theorem ggX2_wallBits_X2_number : GoodIn wsX2_wallBits wsX2_number := mj_good (mj_cons (List.mem_of_getElem? (i := 11) rfl) (mj_app (mj_cons (List.mem_of_getElem? (i := 12) rfl) mj_nil) mc_X2_wallBits_X20)) (by decide +kernel)
set_option maxRecDepth 20000 in
theorem gX2_wallBits_X2_number : GoodIn wsX2_wallBits (wsV RX2 32 RX2 yX2_number wsX2_number) := goodIn_app (mj_good (mj_cons (List.mem_of_getElem? (i := 8) rfl) (mj_cons (List.mem_of_getElem? (i := 9) rfl) (mj_cons (List.mem_of_getElem? (i := 10) rfl) (mj_cons (List.mem_of_getElem? (i := 5) rfl) mj_nil)))) (by decide +kernel)) ggX2_wallBits_X2_number
theorem dX2_wallBits_0 : decode cX2_wallBits 0 = .ok (.aload_n 0, 1) := by decide +kernel
theorem dX2_wallBits_1 : decode cX2_wallBits 1 = .ok (.iload_n 1, 1) := by decide +kernel
theorem dX2_wallBits_2 : decode cX2_wallBits 2 = .ok (.invokevirtual 36, 3) := by decide +kernel
theorem dX2_wallBits_5 : decode cX2_wallBits 5 = .ok (.ifCond .eq 5, 3) := by decide +kernel
theorem dX2_wallBits_8 : decode cX2_wallBits 8 = .ok (.iconst 0, 1) := by decide +kernel
theorem dX2_wallBits_9 : decode cX2_wallBits 9 = .ok (.ireturn, 1) := by decide +kernel
theorem dX2_wallBits_10 : decode cX2_wallBits 10 = .ok (.iconst 0, 1) := by decide +kernel
theorem dX2_wallBits_11 : decode cX2_wallBits 11 = .ok (.istore_n 3, 1) := by decide +kernel
theorem dX2_wallBits_12 : decode cX2_wallBits 12 = .ok (.iconst 0, 1) := by decide +kernel
theorem dX2_wallBits_13 : decode cX2_wallBits 13 = .ok (.istore 4, 2) := by decide +kernel
theorem dX2_wallBits_15 : decode cX2_wallBits 15 = .ok (.iload 4, 2) := by decide +kernel
theorem dX2_wallBits_17 : decode cX2_wallBits 17 = .ok (.iload_n 2, 1) := by decide +kernel
theorem dX2_wallBits_18 : decode cX2_wallBits 18 = .ok (.if_icmp .ge 37, 3) := by decide +kernel
theorem dX2_wallBits_21 : decode cX2_wallBits 21 = .ok (.iload 4, 2) := by decide +kernel
theorem dX2_wallBits_23 : decode cX2_wallBits 23 = .ok (.aload_n 0, 1) := by decide +kernel
theorem dX2_wallBits_24 : decode cX2_wallBits 24 = .ok (.getfield 15, 3) := by decide +kernel
theorem dX2_wallBits_27 : decode cX2_wallBits 27 = .ok (.iload_n 1, 1) := by decide +kernel
theorem dX2_wallBits_28 : decode cX2_wallBits 28 = .ok (.iaload, 1) := by decide +kernel
theorem dX2_wallBits_29 : decode cX2_wallBits 29 = .ok (.if_icmp .ge 13, 3) := by decide +kernel
theorem dX2_wallBits_32 : decode cX2_wallBits 32 = .ok (.aload_n 0, 1) := by decide +kernel
theorem dX2_wallBits_33 : decode cX2_wallBits 33 = .ok (.iload_n 1, 1) := by decide +kernel
theorem dX2_wallBits_34 : decode cX2_wallBits 34 = .ok (.iload 4, 2) := by decide +kernel
theorem dX2_wallBits_36 : decode cX2_wallBits 36 = .ok (.invokevirtual 32, 3) := by decide +kernel
theorem dX2_wallBits_39 : decode cX2_wallBits 39 = .ok (.ifCond .eq 10, 3) := by decide +kernel
theorem dX2_wallBits_42 : decode cX2_wallBits 42 = .ok (.iload_n 3, 1) := by decide +kernel
theorem dX2_wallBits_43 : decode cX2_wallBits 43 = .ok (.iconst 1, 1) := by decide +kernel
theorem dX2_wallBits_44 : decode cX2_wallBits 44 = .ok (.iload 4, 2) := by decide +kernel
theorem dX2_wallBits_46 : decode cX2_wallBits 46 = .ok (.ishl, 1) := by decide +kernel
theorem dX2_wallBits_47 : decode cX2_wallBits 47 = .ok (.ior, 1) := by decide +kernel
theorem dX2_wallBits_48 : decode cX2_wallBits 48 = .ok (.istore_n 3, 1) := by decide +kernel
theorem dX2_wallBits_49 : decode cX2_wallBits 49 = .ok (.iinc 4 1, 3) := by decide +kernel
theorem dX2_wallBits_52 : decode cX2_wallBits 52 = .ok (.goto (-37), 3) := by decide +kernel
theorem dX2_wallBits_55 : decode cX2_wallBits 55 = .ok (.iload_n 3, 1) := by decide +kernel
theorem dX2_wallBits_56 : decode cX2_wallBits 56 = .ok (.ireturn, 1) := by decide +kernel
set_option maxRecDepth 20000 in
theorem mc_X2_showWalls_X2_showWalls_r1 : mjIn wsX2_showWalls wsX2_showWalls_r1 := fun w h => (List.mem_cons_of_mem _ (List.mem_append_left _ (List.mem_append_left _ (List.mem_append_left _ h))))
set_option maxRecDepth 20000 in
theorem mc_X2_showWalls_X20 : mjIn wsX2_showWalls wsX20 := fun w h => (List.mem_cons_of_mem _ (List.mem_append_right _ h))
set_option maxRecDepth 20000 in
theorem ggX2_showWalls_X2_tearAll : GoodIn wsX2_showWalls wsX2_tearAll := mj_good (mj_cons (mc_X2_showWalls_X2_showWalls_r1 _ (List.mem_of_getElem? (i := 6) rfl)) (mj_app (mj_cons (mc_X2_showWalls_X2_showWalls_r1 _ (List.mem_of_getElem? (i := 7) rfl)) (mj_cons (mc_X2_showWalls_X2_showWalls_r1 _ (List.mem_of_getElem? (i := 8) rfl)) (mj_cons (mc_X2_showWalls_X2_showWalls_r1 _ (List.mem_of_getElem? (i := 9) rfl)) (mj_cons (mc_X2_showWalls_X2_showWalls_r1 _ (List.mem_of_getElem? (i := 5) rfl)) (mj_cons (mc_X2_showWalls_X2_showWalls_r1 _ (List.mem_of_getElem? (i := 10) rfl)) (mj_cons (mc_X2_showWalls_X2_showWalls_r1 _ (List.mem_of_getElem? (i := 11) rfl)) mj_nil)))))) mc_X2_showWalls_X20)) (by decide +kernel)
set_option maxRecDepth 20000 in
theorem gX2_showWalls_X2_tearAll : GoodIn wsX2_showWalls (wsV RX2 40 RX2 yX2_tearAll wsX2_tearAll) := goodIn_app (mj_good (mj_cons (mc_X2_showWalls_X2_showWalls_r1 _ (List.mem_of_getElem? (i := 2) rfl)) (mj_cons (mc_X2_showWalls_X2_showWalls_r1 _ (List.mem_of_getElem? (i := 3) rfl)) (mj_cons (mc_X2_showWalls_X2_showWalls_r1 _ (List.mem_of_getElem? (i := 4) rfl)) (mj_cons (mc_X2_showWalls_X2_showWalls_r1 _ (List.mem_of_getElem? (i := 5) rfl)) mj_nil)))) (by decide +kernel)) ggX2_showWalls_X2_tearAll
set_option maxRecDepth 20000 in
theorem ggX2_showWalls_X2_lay : GoodIn wsX2_showWalls wsX2_lay := mj_good (mj_cons (mc_X2_showWalls_X2_showWalls_r1 _ (List.mem_of_getElem? (i := 15) rfl)) (mj_app (mj_cons (mc_X2_showWalls_X2_showWalls_r1 _ (List.mem_of_getElem? (i := 11) rfl)) (mj_cons (mc_X2_showWalls_X2_showWalls_r1 _ (List.mem_of_getElem? (i := 16) rfl)) (mj_cons (mc_X2_showWalls_X2_showWalls_r1 _ (List.mem_of_getElem? (i := 17) rfl)) (mj_cons (mc_X2_showWalls_X2_showWalls_r1 _ (List.mem_of_getElem? (i := 18) rfl)) (mj_cons (mc_X2_showWalls_X2_showWalls_r1 _ (List.mem_of_getElem? (i := 19) rfl)) (mj_cons (mc_X2_showWalls_X2_showWalls_r1 _ (List.mem_of_getElem? (i := 5) rfl)) (mj_cons (mc_X2_showWalls_X2_showWalls_r1 _ (List.mem_of_getElem? (i := 20) rfl)) (mj_cons (mc_X2_showWalls_X2_showWalls_r1 _ (List.mem_of_getElem? (i := 21) rfl)) mj_nil)))))))) mc_X2_showWalls_X20)) (by decide +kernel)
set_option maxRecDepth 20000 in
theorem gX2_showWalls_X2_lay : GoodIn wsX2_showWalls (wsV RX2 52 RX2 yX2_lay wsX2_lay) := goodIn_app (mj_good (mj_cons (mc_X2_showWalls_X2_showWalls_r1 _ (List.mem_of_getElem? (i := 12) rfl)) (mj_cons (mc_X2_showWalls_X2_showWalls_r1 _ (List.mem_of_getElem? (i := 13) rfl)) (mj_cons (mc_X2_showWalls_X2_showWalls_r1 _ (List.mem_of_getElem? (i := 14) rfl)) (mj_cons (mc_X2_showWalls_X2_showWalls_r1 _ (List.mem_of_getElem? (i := 5) rfl)) mj_nil)))) (by decide +kernel)) ggX2_showWalls_X2_lay
set_option maxRecDepth 20000 in
theorem mc_X2_showWalls_X2_showWalls_r2 : mjIn wsX2_showWalls wsX2_showWalls_r2 := fun w h => (List.mem_cons_of_mem _ (List.mem_append_left _ (List.mem_append_left _ (List.mem_append_right _ h))))
set_option maxRecDepth 20000 in
theorem mc_X2_showWalls_X00 : mjIn wsX2_showWalls wsX00 := fun w h => (List.mem_cons_of_mem _ (List.mem_append_left _ (List.mem_append_right _ h)))
set_option maxRecDepth 20000 in
theorem ggX2_showWalls_X0_isWall : GoodIn wsX2_showWalls wsX0_isWall := mj_good (mj_cons (mc_X2_showWalls_X2_showWalls_r2 _ (List.mem_of_getElem? (i := 2) rfl)) (mj_app (mj_cons (mc_X2_showWalls_X2_showWalls_r2 _ (List.mem_of_getElem? (i := 3) rfl)) mj_nil) mc_X2_showWalls_X00)) (by decide +kernel)
set_option maxRecDepth 20000 in
theorem gX2_showWalls_X0_isWall : GoodIn wsX2_showWalls (wsV RX2 55 RX0 yX0_isWall wsX0_isWall) := goodIn_app (mj_good (mj_cons (mc_X2_showWalls_X2_showWalls_r1 _ (List.mem_of_getElem? (i := 22) rfl)) (mj_cons (mc_X2_showWalls_X2_showWalls_r1 _ (List.mem_of_getElem? (i := 23) rfl)) (mj_cons (mc_X2_showWalls_X2_showWalls_r2 _ (List.mem_of_getElem? (i := 0) rfl)) (mj_cons (mc_X2_showWalls_X2_showWalls_r2 _ (List.mem_of_getElem? (i := 1) rfl)) mj_nil)))) (by decide +kernel)) ggX2_showWalls_X0_isWall
set_option maxRecDepth 20000 in
theorem ggX2_showWalls_X2_write : GoodIn wsX2_showWalls wsX2_write := mj_good (mj_cons (mc_X2_showWalls_X2_showWalls_r1 _ (List.mem_of_getElem? (i := 20) rfl)) (mj_app (mj_cons (mc_X2_showWalls_X2_showWalls_r1 _ (List.mem_of_getElem? (i := 21) rfl)) mj_nil) mc_X2_showWalls_X20)) (by decide +kernel)
set_option maxRecDepth 20000 in
theorem gX2_showWalls_X2_write : GoodIn wsX2_showWalls (wsV RX2 28 RX2 yX2_write wsX2_write) := goodIn_app (mj_good (mj_cons (mc_X2_showWalls_X2_showWalls_r1 _ (List.mem_of_getElem? (i := 17) rfl)) (mj_cons (mc_X2_showWalls_X2_showWalls_r1 _ (List.mem_of_getElem? (i := 18) rfl)) (mj_cons (mc_X2_showWalls_X2_showWalls_r1 _ (List.mem_of_getElem? (i := 19) rfl)) (mj_cons (mc_X2_showWalls_X2_showWalls_r1 _ (List.mem_of_getElem? (i := 5) rfl)) mj_nil)))) (by decide +kernel)) ggX2_showWalls_X2_write
theorem dX2_showWalls_0 : decode cX2_showWalls 0 = .ok (.aload_n 0, 1) := by decide +kernel
theorem dX2_showWalls_1 : decode cX2_showWalls 1 = .ok (.invokevirtual 40, 3) := by decide +kernel
theorem dX2_showWalls_4 : decode cX2_showWalls 4 = .ok (.iconst 0, 1) := by decide +kernel
theorem dX2_showWalls_5 : decode cX2_showWalls 5 = .ok (.istore_n 2, 1) := by decide +kernel
theorem dX2_showWalls_6 : decode cX2_showWalls 6 = .ok (.iload_n 2, 1) := by decide +kernel
theorem dX2_showWalls_7 : decode cX2_showWalls 7 = .ok (.aload_n 1, 1) := by decide +kernel
theorem dX2_showWalls_8 : decode cX2_showWalls 8 = .ok (.getfield 43, 3) := by decide +kernel
theorem dX2_showWalls_11 : decode cX2_showWalls 11 = .ok (.if_icmp .ge 55, 3) := by decide +kernel
theorem dX2_showWalls_14 : decode cX2_showWalls 14 = .ok (.aload_n 0, 1) := by decide +kernel
theorem dX2_showWalls_15 : decode cX2_showWalls 15 = .ok (.iload_n 2, 1) := by decide +kernel
theorem dX2_showWalls_16 : decode cX2_showWalls 16 = .ok (.iconst 0, 1) := by decide +kernel
theorem dX2_showWalls_17 : decode cX2_showWalls 17 = .ok (.aload_n 1, 1) := by decide +kernel
theorem dX2_showWalls_18 : decode cX2_showWalls 18 = .ok (.getfield 49, 3) := by decide +kernel
theorem dX2_showWalls_21 : decode cX2_showWalls 21 = .ok (.invokevirtual 52, 3) := by decide +kernel
theorem dX2_showWalls_24 : decode cX2_showWalls 24 = .ok (.iconst 0, 1) := by decide +kernel
theorem dX2_showWalls_25 : decode cX2_showWalls 25 = .ok (.istore_n 3, 1) := by decide +kernel
theorem dX2_showWalls_26 : decode cX2_showWalls 26 = .ok (.iload_n 3, 1) := by decide +kernel
theorem dX2_showWalls_27 : decode cX2_showWalls 27 = .ok (.aload_n 1, 1) := by decide +kernel
theorem dX2_showWalls_28 : decode cX2_showWalls 28 = .ok (.getfield 49, 3) := by decide +kernel
theorem dX2_showWalls_31 : decode cX2_showWalls 31 = .ok (.if_icmp .ge 29, 3) := by decide +kernel
theorem dX2_showWalls_34 : decode cX2_showWalls 34 = .ok (.aload_n 0, 1) := by decide +kernel
theorem dX2_showWalls_35 : decode cX2_showWalls 35 = .ok (.iload_n 2, 1) := by decide +kernel
theorem dX2_showWalls_36 : decode cX2_showWalls 36 = .ok (.iload_n 3, 1) := by decide +kernel
theorem dX2_showWalls_37 : decode cX2_showWalls 37 = .ok (.aload_n 1, 1) := by decide +kernel
theorem dX2_showWalls_38 : decode cX2_showWalls 38 = .ok (.iload_n 3, 1) := by decide +kernel
theorem dX2_showWalls_39 : decode cX2_showWalls 39 = .ok (.iload_n 2, 1) := by decide +kernel
theorem dX2_showWalls_40 : decode cX2_showWalls 40 = .ok (.invokevirtual 55, 3) := by decide +kernel
theorem dX2_showWalls_43 : decode cX2_showWalls 43 = .ok (.ifCond .eq 7, 3) := by decide +kernel
theorem dX2_showWalls_46 : decode cX2_showWalls 46 = .ok (.iconst 1, 1) := by decide +kernel
theorem dX2_showWalls_47 : decode cX2_showWalls 47 = .ok (.goto 4, 3) := by decide +kernel
theorem dX2_showWalls_50 : decode cX2_showWalls 50 = .ok (.iconst 0, 1) := by decide +kernel
theorem dX2_showWalls_51 : decode cX2_showWalls 51 = .ok (.invokevirtual 28, 3) := by decide +kernel
theorem dX2_showWalls_54 : decode cX2_showWalls 54 = .ok (.iinc 3 1, 3) := by decide +kernel
theorem dX2_showWalls_57 : decode cX2_showWalls 57 = .ok (.goto (-31), 3) := by decide +kernel
theorem dX2_showWalls_60 : decode cX2_showWalls 60 = .ok (.iinc 2 1, 3) := by decide +kernel
theorem dX2_showWalls_63 : decode cX2_showWalls 63 = .ok (.goto (-57), 3) := by decide +kernel
theorem dX2_showWalls_66 : decode cX2_showWalls 66 = .ok (.return_, 1) := by decide +kernel
theorem dX3_init_0 : decode cX3_init 0 = .ok (.aload_n 0, 1) := by decide +kernel
theorem dX3_init_1 : decode cX3_init 1 = .ok (.invokespecial 1, 3) := by decide +kernel
theorem dX3_init_4 : decode cX3_init 4 = .ok (.aload_n 0, 1) := by decide +kernel
theorem dX3_init_5 : decode cX3_init 5 = .ok (.bipush 60, 2) := by decide +kernel
theorem dX3_init_7 : decode cX3_init 7 = .ok (.newarray .int, 2) := by decide +kernel
theorem dX3_init_9 : decode cX3_init 9 = .ok (.putfield 9, 3) := by decide +kernel
theorem dX3_init_12 : decode cX3_init 12 = .ok (.return_, 1) := by decide +kernel
theorem dX3_forget_0 : decode cX3_forget 0 = .ok (.aload_n 0, 1) := by decide +kernel
theorem dX3_forget_1 : decode cX3_forget 1 = .ok (.iconst 0, 1) := by decide +kernel
theorem dX3_forget_2 : decode cX3_forget 2 = .ok (.putfield 13, 3) := by decide +kernel
theorem dX3_forget_5 : decode cX3_forget 5 = .ok (.aload_n 0, 1) := by decide +kernel
theorem dX3_forget_6 : decode cX3_forget 6 = .ok (.iconst 0, 1) := by decide +kernel
theorem dX3_forget_7 : decode cX3_forget 7 = .ok (.putfield 17, 3) := by decide +kernel
theorem dX3_forget_10 : decode cX3_forget 10 = .ok (.return_, 1) := by decide +kernel
theorem dX3_note_0 : decode cX3_note 0 = .ok (.aload_n 0, 1) := by decide +kernel
theorem dX3_note_1 : decode cX3_note 1 = .ok (.iconst 0, 1) := by decide +kernel
theorem dX3_note_2 : decode cX3_note 2 = .ok (.putfield 17, 3) := by decide +kernel
theorem dX3_note_5 : decode cX3_note 5 = .ok (.aload_n 0, 1) := by decide +kernel
theorem dX3_note_6 : decode cX3_note 6 = .ok (.getfield 13, 3) := by decide +kernel
theorem dX3_note_9 : decode cX3_note 9 = .ok (.bipush 60, 2) := by decide +kernel
theorem dX3_note_11 : decode cX3_note 11 = .ok (.if_icmp .ne 26, 3) := by decide +kernel
theorem dX3_note_14 : decode cX3_note 14 = .ok (.aload_n 0, 1) := by decide +kernel
theorem dX3_note_15 : decode cX3_note 15 = .ok (.aload_n 0, 1) := by decide +kernel
theorem dX3_note_16 : decode cX3_note 16 = .ok (.getfield 20, 3) := by decide +kernel
theorem dX3_note_19 : decode cX3_note 19 = .ok (.iconst 1, 1) := by decide +kernel
theorem dX3_note_20 : decode cX3_note 20 = .ok (.iadd, 1) := by decide +kernel
theorem dX3_note_21 : decode cX3_note 21 = .ok (.bipush 60, 2) := by decide +kernel
theorem dX3_note_23 : decode cX3_note 23 = .ok (.irem, 1) := by decide +kernel
theorem dX3_note_24 : decode cX3_note 24 = .ok (.putfield 20, 3) := by decide +kernel
theorem dX3_note_27 : decode cX3_note 27 = .ok (.aload_n 0, 1) := by decide +kernel
theorem dX3_note_28 : decode cX3_note 28 = .ok (.dup, 1) := by decide +kernel
theorem dX3_note_29 : decode cX3_note 29 = .ok (.getfield 13, 3) := by decide +kernel
theorem dX3_note_32 : decode cX3_note 32 = .ok (.iconst 1, 1) := by decide +kernel
theorem dX3_note_33 : decode cX3_note 33 = .ok (.isub, 1) := by decide +kernel
theorem dX3_note_34 : decode cX3_note 34 = .ok (.putfield 13, 3) := by decide +kernel
theorem dX3_note_37 : decode cX3_note 37 = .ok (.aload_n 0, 1) := by decide +kernel
theorem dX3_note_38 : decode cX3_note 38 = .ok (.getfield 9, 3) := by decide +kernel
theorem dX3_note_41 : decode cX3_note 41 = .ok (.aload_n 0, 1) := by decide +kernel
theorem dX3_note_42 : decode cX3_note 42 = .ok (.getfield 20, 3) := by decide +kernel
theorem dX3_note_45 : decode cX3_note 45 = .ok (.aload_n 0, 1) := by decide +kernel
theorem dX3_note_46 : decode cX3_note 46 = .ok (.getfield 13, 3) := by decide +kernel
theorem dX3_note_49 : decode cX3_note 49 = .ok (.iadd, 1) := by decide +kernel
theorem dX3_note_50 : decode cX3_note 50 = .ok (.bipush 60, 2) := by decide +kernel
theorem dX3_note_52 : decode cX3_note 52 = .ok (.irem, 1) := by decide +kernel
theorem dX3_note_53 : decode cX3_note 53 = .ok (.iload_n 1, 1) := by decide +kernel
theorem dX3_note_54 : decode cX3_note 54 = .ok (.iastore, 1) := by decide +kernel
theorem dX3_note_55 : decode cX3_note 55 = .ok (.aload_n 0, 1) := by decide +kernel
theorem dX3_note_56 : decode cX3_note 56 = .ok (.dup, 1) := by decide +kernel
theorem dX3_note_57 : decode cX3_note 57 = .ok (.getfield 13, 3) := by decide +kernel
theorem dX3_note_60 : decode cX3_note 60 = .ok (.iconst 1, 1) := by decide +kernel
theorem dX3_note_61 : decode cX3_note 61 = .ok (.iadd, 1) := by decide +kernel
theorem dX3_note_62 : decode cX3_note 62 = .ok (.putfield 13, 3) := by decide +kernel
theorem dX3_note_65 : decode cX3_note 65 = .ok (.return_, 1) := by decide +kernel
theorem dX3_back_0 : decode cX3_back 0 = .ok (.aload_n 0, 1) := by decide +kernel
theorem dX3_back_1 : decode cX3_back 1 = .ok (.dup, 1) := by decide +kernel
theorem dX3_back_2 : decode cX3_back 2 = .ok (.getfield 13, 3) := by decide +kernel
theorem dX3_back_5 : decode cX3_back 5 = .ok (.iconst 1, 1) := by decide +kernel
theorem dX3_back_6 : decode cX3_back 6 = .ok (.isub, 1) := by decide +kernel
theorem dX3_back_7 : decode cX3_back 7 = .ok (.putfield 13, 3) := by decide +kernel
theorem dX3_back_10 : decode cX3_back 10 = .ok (.aload_n 0, 1) := by decide +kernel
theorem dX3_back_11 : decode cX3_back 11 = .ok (.dup, 1) := by decide +kernel
theorem dX3_back_12 : decode cX3_back 12 = .ok (.getfield 17, 3) := by decide +kernel
theorem dX3_back_15 : decode cX3_back 15 = .ok (.iconst 1, 1) := by decide +kernel
theorem dX3_back_16 : decode cX3_back 16 = .ok (.iadd, 1) := by decide +kernel
theorem dX3_back_17 : decode cX3_back 17 = .ok (.putfield 17, 3) := by decide +kernel
theorem dX3_back_20 : decode cX3_back 20 = .ok (.aload_n 0, 1) := by decide +kernel
theorem dX3_back_21 : decode cX3_back 21 = .ok (.getfield 9, 3) := by decide +kernel
theorem dX3_back_24 : decode cX3_back 24 = .ok (.aload_n 0, 1) := by decide +kernel
theorem dX3_back_25 : decode cX3_back 25 = .ok (.getfield 20, 3) := by decide +kernel
theorem dX3_back_28 : decode cX3_back 28 = .ok (.aload_n 0, 1) := by decide +kernel
theorem dX3_back_29 : decode cX3_back 29 = .ok (.getfield 13, 3) := by decide +kernel
theorem dX3_back_32 : decode cX3_back 32 = .ok (.iadd, 1) := by decide +kernel
theorem dX3_back_33 : decode cX3_back 33 = .ok (.bipush 60, 2) := by decide +kernel
theorem dX3_back_35 : decode cX3_back 35 = .ok (.irem, 1) := by decide +kernel
theorem dX3_back_36 : decode cX3_back 36 = .ok (.iaload, 1) := by decide +kernel
theorem dX3_back_37 : decode cX3_back 37 = .ok (.ireturn, 1) := by decide +kernel
theorem dX3_forth_0 : decode cX3_forth 0 = .ok (.aload_n 0, 1) := by decide +kernel
theorem dX3_forth_1 : decode cX3_forth 1 = .ok (.getfield 9, 3) := by decide +kernel
theorem dX3_forth_4 : decode cX3_forth 4 = .ok (.aload_n 0, 1) := by decide +kernel
theorem dX3_forth_5 : decode cX3_forth 5 = .ok (.getfield 20, 3) := by decide +kernel
theorem dX3_forth_8 : decode cX3_forth 8 = .ok (.aload_n 0, 1) := by decide +kernel
theorem dX3_forth_9 : decode cX3_forth 9 = .ok (.getfield 13, 3) := by decide +kernel
theorem dX3_forth_12 : decode cX3_forth 12 = .ok (.iadd, 1) := by decide +kernel
theorem dX3_forth_13 : decode cX3_forth 13 = .ok (.bipush 60, 2) := by decide +kernel
theorem dX3_forth_15 : decode cX3_forth 15 = .ok (.irem, 1) := by decide +kernel
theorem dX3_forth_16 : decode cX3_forth 16 = .ok (.iaload, 1) := by decide +kernel
theorem dX3_forth_17 : decode cX3_forth 17 = .ok (.istore_n 1, 1) := by decide +kernel
theorem dX3_forth_18 : decode cX3_forth 18 = .ok (.aload_n 0, 1) := by decide +kernel
theorem dX3_forth_19 : decode cX3_forth 19 = .ok (.dup, 1) := by decide +kernel
theorem dX3_forth_20 : decode cX3_forth 20 = .ok (.getfield 13, 3) := by decide +kernel
theorem dX3_forth_23 : decode cX3_forth 23 = .ok (.iconst 1, 1) := by decide +kernel
theorem dX3_forth_24 : decode cX3_forth 24 = .ok (.iadd, 1) := by decide +kernel
theorem dX3_forth_25 : decode cX3_forth 25 = .ok (.putfield 13, 3) := by decide +kernel
theorem dX3_forth_28 : decode cX3_forth 28 = .ok (.aload_n 0, 1) := by decide +kernel
theorem dX3_forth_29 : decode cX3_forth 29 = .ok (.dup, 1) := by decide +kernel
theorem dX3_forth_30 : decode cX3_forth 30 = .ok (.getfield 17, 3) := by decide +kernel
theorem dX3_forth_33 : decode cX3_forth 33 = .ok (.iconst 1, 1) := by decide +kernel
theorem dX3_forth_34 : decode cX3_forth 34 = .ok (.isub, 1) := by decide +kernel
theorem dX3_forth_35 : decode cX3_forth 35 = .ok (.putfield 17, 3) := by decide +kernel
theorem dX3_forth_38 : decode cX3_forth 38 = .ok (.iload_n 1, 1) := by decide +kernel
theorem dX3_forth_39 : decode cX3_forth 39 = .ok (.ireturn, 1) := by decide +kernel
theorem dX4_init_0 : decode cX4_init 0 = .ok (.aload_n 0, 1) := by decide +kernel
theorem dX4_init_1 : decode cX4_init 1 = .ok (.invokespecial 1, 3) := by decide +kernel
theorem dX4_init_4 : decode cX4_init 4 = .ok (.aload_n 0, 1) := by decide +kernel
theorem dX4_init_5 : decode cX4_init 5 = .ok (.sipush 6000, 3) := by decide +kernel
theorem dX4_init_8 : decode cX4_init 8 = .ok (.newarray .int, 2) := by decide +kernel
theorem dX4_init_10 : decode cX4_init 10 = .ok (.putfield 9, 3) := by decide +kernel
theorem dX4_init_13 : decode cX4_init 13 = .ok (.return_, 1) := by decide +kernel
theorem dX4_add_0 : decode cX4_add 0 = .ok (.aload_n 0, 1) := by decide +kernel
theorem dX4_add_1 : decode cX4_add 1 = .ok (.getfield 15, 3) := by decide +kernel
theorem dX4_add_4 : decode cX4_add 4 = .ok (.sipush 6000, 3) := by decide +kernel
theorem dX4_add_7 : decode cX4_add 7 = .ok (.if_icmp .ge 23, 3) := by decide +kernel
theorem dX4_add_10 : decode cX4_add 10 = .ok (.aload_n 0, 1) := by decide +kernel
theorem dX4_add_11 : decode cX4_add 11 = .ok (.getfield 9, 3) := by decide +kernel
theorem dX4_add_14 : decode cX4_add 14 = .ok (.aload_n 0, 1) := by decide +kernel
theorem dX4_add_15 : decode cX4_add 15 = .ok (.getfield 15, 3) := by decide +kernel
theorem dX4_add_18 : decode cX4_add 18 = .ok (.iload_n 1, 1) := by decide +kernel
theorem dX4_add_19 : decode cX4_add 19 = .ok (.iastore, 1) := by decide +kernel
theorem dX4_add_20 : decode cX4_add 20 = .ok (.aload_n 0, 1) := by decide +kernel
theorem dX4_add_21 : decode cX4_add 21 = .ok (.dup, 1) := by decide +kernel
theorem dX4_add_22 : decode cX4_add 22 = .ok (.getfield 15, 3) := by decide +kernel
theorem dX4_add_25 : decode cX4_add 25 = .ok (.iconst 1, 1) := by decide +kernel
theorem dX4_add_26 : decode cX4_add 26 = .ok (.iadd, 1) := by decide +kernel
theorem dX4_add_27 : decode cX4_add 27 = .ok (.putfield 15, 3) := by decide +kernel
theorem dX4_add_30 : decode cX4_add 30 = .ok (.return_, 1) := by decide +kernel
set_option maxRecDepth 20000 in
theorem mc_X5_init_X5_init_r1 : mjIn wsX5_init wsX5_init_r1 := fun w h => (List.mem_cons_of_mem _ (List.mem_append_left _ (List.mem_append_left _ (List.mem_append_left _ h))))
set_option maxRecDepth 20000 in
theorem mc_X5_init_X5_init_r2 : mjIn wsX5_init wsX5_init_r2 := fun w h => (List.mem_cons_of_mem _ (List.mem_append_left _ (List.mem_append_left _ (List.mem_append_right _ h))))
set_option maxRecDepth 20000 in
theorem mc_X5_init_X00 : mjIn wsX5_init wsX00 := fun w h => (List.mem_cons_of_mem _ (List.mem_append_left _ (List.mem_append_right _ h)))
set_option maxRecDepth 20000 in
theorem ggX5_init_X0_init : GoodIn wsX5_init wsX0_init := mj_good (mj_cons (mc_X5_init_X5_init_r1 _ (List.mem_of_getElem? (i := 18) rfl)) (mj_app (mj_cons (mc_X5_init_X5_init_r1 _ (List.mem_of_getElem? (i := 19) rfl)) (mj_cons (mc_X5_init_X5_init_r1 _ (List.mem_of_getElem? (i := 1) rfl)) (mj_cons (mc_X5_init_X5_init_r1 _ (List.mem_of_getElem? (i := 2) rfl)) (mj_cons (mc_X5_init_X5_init_r1 _ (List.mem_of_getElem? (i := 10) rfl)) (mj_cons (mc_X5_init_X5_init_r1 _ (List.mem_of_getElem? (i := 20) rfl)) (mj_cons (mc_X5_init_X5_init_r1 _ (List.mem_of_getElem? (i := 21) rfl)) (mj_cons (mc_X5_init_X5_init_r1 _ (List.mem_of_getElem? (i := 22) rfl)) (mj_cons (mc_X5_init_X5_init_r1 _ (List.mem_of_getElem? (i := 23) rfl)) (mj_cons (mc_X5_init_X5_init_r2 _ (List.mem_of_getElem? (i := 0) rfl)) (mj_cons (mc_X5_init_X5_init_r2 _ (List.mem_of_getElem? (i := 1) rfl)) (mj_cons (mc_X5_init_X5_init_r2 _ (List.mem_of_getElem? (i := 2) rfl)) (mj_cons (mc_X5_init_X5_init_r2 _ (List.mem_of_getElem? (i := 3) rfl)) (mj_cons (mc_X5_init_X5_init_r1 _ (List.mem_of_getElem? (i := 7) rfl)) (mj_cons (mc_X5_init_X5_init_r2 _ (List.mem_of_getElem? (i := 4) rfl)) mj_nil)))))))))))))) mc_X5_init_X00)) (by decide +kernel)
set_option maxRecDepth 20000 in
theorem gX5_init_X0_init_n11 : GoodIn wsX5_init (wsX0_init) := ggX5_init_X0_init
theorem dX5_init_0 : decode cX5_init 0 = .ok (.aload_n 0, 1) := by decide +kernel
theorem dX5_init_1 : decode cX5_init 1 = .ok (.invokespecial 3, 3) := by decide +kernel
theorem dX5_init_4 : decode cX5_init 4 = .ok (.aload_n 0, 1) := by decide +kernel
theorem dX5_init_5 : decode cX5_init 5 = .ok (.new 9, 3) := by decide +kernel
theorem dX5_init_8 : decode cX5_init 8 = .ok (.dup, 1) := by decide +kernel
theorem dX5_init_9 : decode cX5_init 9 = .ok (.invokespecial 11, 3) := by decide +kernel
theorem dX5_init_12 : decode cX5_init 12 = .ok (.putfield 12, 3) := by decide +kernel
theorem dX5_init_15 : decode cX5_init 15 = .ok (.aload_n 0, 1) := by decide +kernel
theorem dX5_init_16 : decode cX5_init 16 = .ok (.sipush 6000, 3) := by decide +kernel
theorem dX5_init_19 : decode cX5_init 19 = .ok (.newarray .long, 2) := by decide +kernel
theorem dX5_init_21 : decode cX5_init 21 = .ok (.putfield 18, 3) := by decide +kernel
theorem dX5_init_24 : decode cX5_init 24 = .ok (.aload_n 0, 1) := by decide +kernel
theorem dX5_init_25 : decode cX5_init 25 = .ok (.sipush 6000, 3) := by decide +kernel
theorem dX5_init_28 : decode cX5_init 28 = .ok (.newarray .long, 2) := by decide +kernel
theorem dX5_init_30 : decode cX5_init 30 = .ok (.putfield 22, 3) := by decide +kernel
theorem dX5_init_33 : decode cX5_init 33 = .ok (.aload_n 0, 1) := by decide +kernel
theorem dX5_init_34 : decode cX5_init 34 = .ok (.sipush 16384, 3) := by decide +kernel
theorem dX5_init_37 : decode cX5_init 37 = .ok (.newarray .int, 2) := by decide +kernel
theorem dX5_init_39 : decode cX5_init 39 = .ok (.putfield 25, 3) := by decide +kernel
theorem dX5_init_42 : decode cX5_init 42 = .ok (.aload_n 0, 1) := by decide +kernel
theorem dX5_init_43 : decode cX5_init 43 = .ok (.sipush 6000, 3) := by decide +kernel
theorem dX5_init_46 : decode cX5_init 46 = .ok (.newarray .int, 2) := by decide +kernel
theorem dX5_init_48 : decode cX5_init 48 = .ok (.putfield 29, 3) := by decide +kernel
theorem dX5_init_51 : decode cX5_init 51 = .ok (.aload_n 0, 1) := by decide +kernel
theorem dX5_init_52 : decode cX5_init 52 = .ok (.sipush 336, 3) := by decide +kernel
theorem dX5_init_55 : decode cX5_init 55 = .ok (.newarray .int, 2) := by decide +kernel
theorem dX5_init_57 : decode cX5_init 57 = .ok (.putfield 32, 3) := by decide +kernel
theorem dX5_init_60 : decode cX5_init 60 = .ok (.aload_n 0, 1) := by decide +kernel
theorem dX5_init_61 : decode cX5_init 61 = .ok (.sipush 6000, 3) := by decide +kernel
theorem dX5_init_64 : decode cX5_init 64 = .ok (.newarray .int, 2) := by decide +kernel
theorem dX5_init_66 : decode cX5_init 66 = .ok (.putfield 35, 3) := by decide +kernel
theorem dX5_init_69 : decode cX5_init 69 = .ok (.aload_n 0, 1) := by decide +kernel
theorem dX5_init_70 : decode cX5_init 70 = .ok (.sipush 6000, 3) := by decide +kernel
theorem dX5_init_73 : decode cX5_init 73 = .ok (.newarray .int, 2) := by decide +kernel
theorem dX5_init_75 : decode cX5_init 75 = .ok (.putfield 38, 3) := by decide +kernel
theorem dX5_init_78 : decode cX5_init 78 = .ok (.aload_n 0, 1) := by decide +kernel
theorem dX5_init_79 : decode cX5_init 79 = .ok (.sipush 6000, 3) := by decide +kernel
theorem dX5_init_82 : decode cX5_init 82 = .ok (.newarray .long, 2) := by decide +kernel
theorem dX5_init_84 : decode cX5_init 84 = .ok (.putfield 41, 3) := by decide +kernel
theorem dX5_init_87 : decode cX5_init 87 = .ok (.return_, 1) := by decide +kernel
set_option maxRecDepth 20000 in
theorem mc_X5_explore_X5_explore_r1 : mjIn wsX5_explore wsX5_explore_r1 := fun w h => (List.mem_cons_of_mem _ (List.mem_append_left _ (List.mem_append_left _ (List.mem_append_left _ h))))
set_option maxRecDepth 20000 in
theorem mc_X5_explore_X50 : mjIn wsX5_explore wsX50 := fun w h => (List.mem_cons_of_mem _ (List.mem_append_left _ (List.mem_append_right _ h)))
set_option maxRecDepth 20000 in
theorem ggX5_explore_X5_clear : GoodIn wsX5_explore wsX5_clear := mj_good (mj_cons (mc_X5_explore_X5_explore_r1 _ (List.mem_of_getElem? (i := 8) rfl)) (mj_app (mj_cons (mc_X5_explore_X5_explore_r1 _ (List.mem_of_getElem? (i := 1) rfl)) (mj_cons (mc_X5_explore_X5_explore_r1 _ (List.mem_of_getElem? (i := 9) rfl)) (mj_cons (mc_X5_explore_X5_explore_r1 _ (List.mem_of_getElem? (i := 10) rfl)) (mj_cons (mc_X5_explore_X5_explore_r1 _ (List.mem_of_getElem? (i := 2) rfl)) mj_nil)))) mc_X5_explore_X50)) (by decide +kernel)
set_option maxRecDepth 20000 in
theorem gX5_explore_X5_clear : GoodIn wsX5_explore (wsV RX5 44 RX5 yX5_clear wsX5_clear) := goodIn_app (mj_good (mj_cons (mc_X5_explore_X5_explore_r1 _ (List.mem_of_getElem? (i := 4) rfl)) (mj_cons (mc_X5_explore_X5_explore_r1 _ (List.mem_of_getElem? (i := 5) rfl)) (mj_cons (mc_X5_explore_X5_explore_r1 _ (List.mem_of_getElem? (i := 6) rfl)) (mj_cons (mc_X5_explore_X5_explore_r1 _ (List.mem_of_getElem? (i := 7) rfl)) mj_nil)))) (by decide +kernel)) ggX5_explore_X5_clear
set_option maxRecDepth 20000 in
theorem mc_X5_explore_X5_explore_r2 : mjIn wsX5_explore wsX5_explore_r2 := fun w h => (List.mem_cons_of_mem _ (List.mem_append_left _ (List.mem_append_left _ (List.mem_append_right _ (List.mem_append_left _ h)))))
set_option maxRecDepth 20000 in
theorem mc_X5_explore_X00 : mjIn wsX5_explore wsX00 := fun w h => (List.mem_cons_of_mem _ (List.mem_append_right _ h))
set_option maxRecDepth 20000 in
theorem ggX5_explore_X0_copyFrom : GoodIn wsX5_explore wsX0_copyFrom := mj_good (mj_cons (mc_X5_explore_X5_explore_r1 _ (List.mem_of_getElem? (i := 15) rfl)) (mj_app (mj_cons (mc_X5_explore_X5_explore_r1 _ (List.mem_of_getElem? (i := 16) rfl)) (mj_cons (mc_X5_explore_X5_explore_r1 _ (List.mem_of_getElem? (i := 17) rfl)) (mj_cons (mc_X5_explore_X5_explore_r1 _ (List.mem_of_getElem? (i := 18) rfl)) (mj_cons (mc_X5_explore_X5_explore_r1 _ (List.mem_of_getElem? (i := 19) rfl)) (mj_cons (mc_X5_explore_X5_explore_r1 _ (List.mem_of_getElem? (i := 20) rfl)) (mj_cons (mc_X5_explore_X5_explore_r1 _ (List.mem_of_getElem? (i := 21) rfl)) (mj_cons (mc_X5_explore_X5_explore_r1 _ (List.mem_of_getElem? (i := 22) rfl)) (mj_cons (mc_X5_explore_X5_explore_r1 _ (List.mem_of_getElem? (i := 23) rfl)) (mj_cons (mc_X5_explore_X5_explore_r1 _ (List.mem_of_getElem? (i := 14) rfl)) (mj_cons (mc_X5_explore_X5_explore_r2 _ (List.mem_of_getElem? (i := 0) rfl)) (mj_cons (mc_X5_explore_X5_explore_r2 _ (List.mem_of_getElem? (i := 1) rfl)) (mj_cons (mc_X5_explore_X5_explore_r2 _ (List.mem_of_getElem? (i := 2) rfl)) (mj_cons (mc_X5_explore_X5_explore_r2 _ (List.mem_of_getElem? (i := 3) rfl)) (mj_cons (mc_X5_explore_X5_explore_r2 _ (List.mem_of_getElem? (i := 4) rfl)) (mj_cons (mc_X5_explore_X5_explore_r2 _ (List.mem_of_getElem? (i := 5) rfl)) (mj_cons (mc_X5_explore_X5_explore_r2 _ (List.mem_of_getElem? (i := 6) rfl)) (mj_cons (mc_X5_explore_X5_explore_r2 _ (List.mem_of_getElem? (i := 7) rfl)) (mj_cons (mc_X5_explore_X5_explore_r2 _ (List.mem_of_getElem? (i := 8) rfl)) mj_nil)))))))))))))))))) mc_X5_explore_X00)) (by decide +kernel)
set_option maxRecDepth 20000 in
theorem gX5_explore_X0_copyFrom : GoodIn wsX5_explore (wsV RX5 47 RX0 yX0_copyFrom wsX0_copyFrom) := goodIn_app (mj_good (mj_cons (mc_X5_explore_X5_explore_r1 _ (List.mem_of_getElem? (i := 11) rfl)) (mj_cons (mc_X5_explore_X5_explore_r1 _ (List.mem_of_getElem? (i := 12) rfl)) (mj_cons (mc_X5_explore_X5_explore_r1 _ (List.mem_of_getElem? (i := 13) rfl)) (mj_cons (mc_X5_explore_X5_explore_r1 _ (List.mem_of_getElem? (i := 14) rfl)) mj_nil)))) (by decide +kernel)) ggX5_explore_X0_copyFrom
set_option maxRecDepth 20000 in
theorem mc_X5_explore_X5_explore_r3 : mjIn wsX5_explore wsX5_explore_r3 := fun w h => (List.mem_cons_of_mem _ (List.mem_append_left _ (List.mem_append_left _ (List.mem_append_right _ (List.mem_append_right _ (List.mem_append_left _ h))))))
set_option maxRecDepth 20000 in
theorem ggX5_explore_X5_meetStart : GoodIn wsX5_explore wsX5_meetStart := mj_good (mj_cons (mc_X5_explore_X5_explore_r2 _ (List.mem_of_getElem? (i := 12) rfl)) (mj_app (mj_app (mj_app (mj_cons (mc_X5_explore_X5_explore_r1 _ (List.mem_of_getElem? (i := 0) rfl)) (mj_cons (mc_X5_explore_X5_explore_r2 _ (List.mem_of_getElem? (i := 13) rfl)) (mj_cons (mc_X5_explore_X5_explore_r2 _ (List.mem_of_getElem? (i := 14) rfl)) (mj_cons (mc_X5_explore_X5_explore_r2 _ (List.mem_of_getElem? (i := 15) rfl)) (mj_cons (mc_X5_explore_X5_explore_r2 _ (List.mem_of_getElem? (i := 16) rfl)) (mj_cons (mc_X5_explore_X5_explore_r1 _ (List.mem_of_getElem? (i := 7) rfl)) (mj_cons (mc_X5_explore_X5_explore_r2 _ (List.mem_of_getElem? (i := 17) rfl)) (mj_cons (mc_X5_explore_X5_explore_r2 _ (List.mem_of_getElem? (i := 18) rfl)) (mj_cons (mc_X5_explore_X5_explore_r2 _ (List.mem_of_getElem? (i := 19) rfl)) (mj_cons (mc_X5_explore_X5_explore_r2 _ (List.mem_of_getElem? (i := 20) rfl)) (mj_cons (mc_X5_explore_X5_explore_r2 _ (List.mem_of_getElem? (i := 21) rfl)) (mj_cons (mc_X5_explore_X5_explore_r2 _ (List.mem_of_getElem? (i := 22) rfl)) (mj_cons (mc_X5_explore_X5_explore_r2 _ (List.mem_of_getElem? (i := 23) rfl)) (mj_cons (mc_X5_explore_X5_explore_r3 _ (List.mem_of_getElem? (i := 0) rfl)) (mj_cons (mc_X5_explore_X5_explore_r1 _ (List.mem_of_getElem? (i := 9) rfl)) (mj_cons (mc_X5_explore_X5_explore_r1 _ (List.mem_of_getElem? (i := 1) rfl)) (mj_cons (mc_X5_explore_X5_explore_r1 _ (List.mem_of_getElem? (i := 2) rfl)) (mj_cons (mc_X5_explore_X5_explore_r3 _ (List.mem_of_getElem? (i := 1) rfl)) (mj_cons (mc_X5_explore_X5_explore_r3 _ (List.mem_of_getElem? (i := 2) rfl)) (mj_cons (mc_X5_explore_X5_explore_r1 _ (List.mem_of_getElem? (i := 10) rfl)) (mj_cons (mc_X5_explore_X5_explore_r3 _ (List.mem_of_getElem? (i := 3) rfl)) (mj_cons (mc_X5_explore_X5_explore_r3 _ (List.mem_of_getElem? (i := 4) rfl)) (mj_cons (mc_X5_explore_X5_explore_r3 _ (List.mem_of_getElem? (i := 5) rfl)) (mj_cons (mc_X5_explore_X5_explore_r3 _ (List.mem_of_getElem? (i := 6) rfl)) mj_nil)))))))))))))))))))))))) (mj_cons (mc_X5_explore_X5_explore_r3 _ (List.mem_of_getElem? (i := 7) rfl)) (mj_cons (mc_X5_explore_X5_explore_r3 _ (List.mem_of_getElem? (i := 8) rfl)) mj_nil))) mc_X5_explore_X50) mc_X5_explore_X00)) (by decide +kernel)
set_option maxRecDepth 20000 in
theorem gX5_explore_X5_meetStart : GoodIn wsX5_explore (wsV RX5 51 RX5 yX5_meetStart wsX5_meetStart) := goodIn_app (mj_good (mj_cons (mc_X5_explore_X5_explore_r2 _ (List.mem_of_getElem? (i := 9) rfl)) (mj_cons (mc_X5_explore_X5_explore_r2 _ (List.mem_of_getElem? (i := 10) rfl)) (mj_cons (mc_X5_explore_X5_explore_r2 _ (List.mem_of_getElem? (i := 11) rfl)) (mj_cons (mc_X5_explore_X5_explore_r1 _ (List.mem_of_getElem? (i := 7) rfl)) mj_nil)))) (by decide +kernel)) ggX5_explore_X5_meetStart
set_option maxRecDepth 20000 in
theorem mc_X5_explore_X5_explore_r4 : mjIn wsX5_explore wsX5_explore_r4 := fun w h => (List.mem_cons_of_mem _ (List.mem_append_left _ (List.mem_append_left _ (List.mem_append_right _ (List.mem_append_right _ (List.mem_append_right _ (List.mem_append_left _ h)))))))
set_option maxRecDepth 20000 in
theorem mc_X5_explore_X5_explore_r5 : mjIn wsX5_explore wsX5_explore_r5 := fun w h => (List.mem_cons_of_mem _ (List.mem_append_left _ (List.mem_append_left _ (List.mem_append_right _ (List.mem_append_right _ (List.mem_append_right _ (List.mem_append_right _ h)))))))
set_option maxRecDepth 20000 in
theorem ggX5_explore_X5_listMoves : GoodIn wsX5_explore wsX5_listMoves := mj_good (mj_cons (mc_X5_explore_X5_explore_r3 _ (List.mem_of_getElem? (i := 12) rfl)) (mj_app (mj_app (mj_app (mj_cons (mc_X5_explore_X5_explore_r1 _ (List.mem_of_getElem? (i := 0) rfl)) (mj_cons (mc_X5_explore_X5_explore_r2 _ (List.mem_of_getElem? (i := 13) rfl)) (mj_cons (mc_X5_explore_X5_explore_r3 _ (List.mem_of_getElem? (i := 13) rfl)) (mj_cons (mc_X5_explore_X5_explore_r3 _ (List.mem_of_getElem? (i := 14) rfl)) (mj_cons (mc_X5_explore_X5_explore_r3 _ (List.mem_of_getElem? (i := 15) rfl)) (mj_cons (mc_X5_explore_X5_explore_r3 _ (List.mem_of_getElem? (i := 16) rfl)) (mj_cons (mc_X5_explore_X5_explore_r1 _ (List.mem_of_getElem? (i := 3) rfl)) (mj_cons (mc_X5_explore_X5_explore_r3 _ (List.mem_of_getElem? (i := 17) rfl)) (mj_cons (mc_X5_explore_X5_explore_r3 _ (List.mem_of_getElem? (i := 18) rfl)) (mj_cons (mc_X5_explore_X5_explore_r3 _ (List.mem_of_getElem? (i := 19) rfl)) (mj_cons (mc_X5_explore_X5_explore_r1 _ (List.mem_of_getElem? (i := 7) rfl)) (mj_cons (mc_X5_explore_X5_explore_r3 _ (List.mem_of_getElem? (i := 20) rfl)) (mj_cons (mc_X5_explore_X5_explore_r1 _ (List.mem_of_getElem? (i := 1) rfl)) (mj_cons (mc_X5_explore_X5_explore_r3 _ (List.mem_of_getElem? (i := 21) rfl)) (mj_cons (mc_X5_explore_X5_explore_r3 _ (List.mem_of_getElem? (i := 1) rfl)) (mj_cons (mc_X5_explore_X5_explore_r3 _ (List.mem_of_getElem? (i := 2) rfl)) (mj_cons (mc_X5_explore_X5_explore_r2 _ (List.mem_of_getElem? (i := 14) rfl)) (mj_cons (mc_X5_explore_X5_explore_r3 _ (List.mem_of_getElem? (i := 22) rfl)) (mj_cons (mc_X5_explore_X5_explore_r3 _ (List.mem_of_getElem? (i := 23) rfl)) (mj_cons (mc_X5_explore_X5_explore_r4 _ (List.mem_of_getElem? (i := 0) rfl)) (mj_cons (mc_X5_explore_X5_explore_r4 _ (List.mem_of_getElem? (i := 1) rfl)) (mj_cons (mc_X5_explore_X5_explore_r1 _ (List.mem_of_getElem? (i := 14) rfl)) (mj_cons (mc_X5_explore_X5_explore_r4 _ (List.mem_of_getElem? (i := 2) rfl)) (mj_cons (mc_X5_explore_X5_explore_r2 _ (List.mem_of_getElem? (i := 8) rfl)) mj_nil)))))))))))))))))))))))) (mj_app (mj_cons (mc_X5_explore_X5_explore_r2 _ (List.mem_of_getElem? (i := 2) rfl)) (mj_cons (mc_X5_explore_X5_explore_r4 _ (List.mem_of_getElem? (i := 3) rfl)) (mj_cons (mc_X5_explore_X5_explore_r4 _ (List.mem_of_getElem? (i := 4) rfl)) (mj_cons (mc_X5_explore_X5_explore_r4 _ (List.mem_of_getElem? (i := 5) rfl)) (mj_cons (mc_X5_explore_X5_explore_r4 _ (List.mem_of_getElem? (i := 6) rfl)) (mj_cons (mc_X5_explore_X5_explore_r4 _ (List.mem_of_getElem? (i := 7) rfl)) (mj_cons (mc_X5_explore_X5_explore_r4 _ (List.mem_of_getElem? (i := 8) rfl)) (mj_cons (mc_X5_explore_X5_explore_r4 _ (List.mem_of_getElem? (i := 9) rfl)) (mj_cons (mc_X5_explore_X5_explore_r4 _ (List.mem_of_getElem? (i := 10) rfl)) (mj_cons (mc_X5_explore_X5_explore_r2 _ (List.mem_of_getElem? (i := 1) rfl)) (mj_cons (mc_X5_explore_X5_explore_r2 _ (List.mem_of_getElem? (i := 5) rfl)) (mj_cons (mc_X5_explore_X5_explore_r2 _ (List.mem_of_getElem? (i := 6) rfl)) (mj_cons (mc_X5_explore_X5_explore_r2 _ (List.mem_of_getElem? (i := 7) rfl)) (mj_cons (mc_X5_explore_X5_explore_r1 _ (List.mem_of_getElem? (i := 19) rfl)) (mj_cons (mc_X5_explore_X5_explore_r1 _ (List.mem_of_getElem? (i := 20) rfl)) (mj_cons (mc_X5_explore_X5_explore_r4 _ (List.mem_of_getElem? (i := 11) rfl)) (mj_cons (mc_X5_explore_X5_explore_r4 _ (List.mem_of_getElem? (i := 12) rfl)) (mj_cons (mc_X5_explore_X5_explore_r4 _ (List.mem_of_getElem? (i := 13) rfl)) (mj_cons (mc_X5_explore_X5_explore_r4 _ (List.mem_of_getElem? (i := 14) rfl)) (mj_cons (mc_X5_explore_X5_explore_r4 _ (List.mem_of_getElem? (i := 15) rfl)) (mj_cons (mc_X5_explore_X5_explore_r4 _ (List.mem_of_getElem? (i := 16) rfl)) (mj_cons (mc_X5_explore_X5_explore_r4 _ (List.mem_of_getElem? (i := 17) rfl)) (mj_cons (mc_X5_explore_X5_explore_r4 _ (List.mem_of_getElem? (i := 18) rfl)) (mj_cons (mc_X5_explore_X5_explore_r1 _ (List.mem_of_getElem? (i := 16) rfl)) mj_nil)))))))))))))))))))))))) (mj_cons (mc_X5_explore_X5_explore_r1 _ (List.mem_of_getElem? (i := 17) rfl)) (mj_cons (mc_X5_explore_X5_explore_r4 _ (List.mem_of_getElem? (i := 19) rfl)) (mj_cons (mc_X5_explore_X5_explore_r4 _ (List.mem_of_getElem? (i := 20) rfl)) (mj_cons (mc_X5_explore_X5_explore_r4 _ (List.mem_of_getElem? (i := 21) rfl)) (mj_cons (mc_X5_explore_X5_explore_r4 _ (List.mem_of_getElem? (i := 22) rfl)) (mj_cons (mc_X5_explore_X5_explore_r4 _ (List.mem_of_getElem? (i := 23) rfl)) (mj_cons (mc_X5_explore_X5_explore_r5 _ (List.mem_of_getElem? (i := 0) rfl)) mj_nil))))))))) mc_X5_explore_X50) mc_X5_explore_X00)) (by decide +kernel)
set_option maxRecDepth 20000 in
theorem gX5_explore_X5_listMoves : GoodIn wsX5_explore (wsV RX5 62 RX5 yX5_listMoves wsX5_listMoves) := goodIn_app (mj_good (mj_cons (mc_X5_explore_X5_explore_r3 _ (List.mem_of_getElem? (i := 9) rfl)) (mj_cons (mc_X5_explore_X5_explore_r3 _ (List.mem_of_getElem? (i := 10) rfl)) (mj_cons (mc_X5_explore_X5_explore_r3 _ (List.mem_of_getElem? (i := 11) rfl)) (mj_cons (mc_X5_explore_X5_explore_r1 _ (List.mem_of_getElem? (i := 7) rfl)) mj_nil)))) (by decide +kernel)) ggX5_explore_X5_listMoves
set_option maxRecDepth 20000 in
theorem ggX5_explore_X5_lowAfter : GoodIn wsX5_explore wsX5_lowAfter := mj_good (mj_cons (mc_X5_explore_X5_explore_r5 _ (List.mem_of_getElem? (i := 4) rfl)) (mj_app (mj_cons (mc_X5_explore_X5_explore_r3 _ (List.mem_of_getElem? (i := 1) rfl)) (mj_cons (mc_X5_explore_X5_explore_r5 _ (List.mem_of_getElem? (i := 5) rfl)) (mj_cons (mc_X5_explore_X5_explore_r4 _ (List.mem_of_getElem? (i := 13) rfl)) (mj_cons (mc_X5_explore_X5_explore_r5 _ (List.mem_of_getElem? (i := 6) rfl)) (mj_cons (mc_X5_explore_X5_explore_r5 _ (List.mem_of_getElem? (i := 7) rfl)) (mj_cons (mc_X5_explore_X5_explore_r5 _ (List.mem_of_getElem? (i := 8) rfl)) (mj_cons (mc_X5_explore_X5_explore_r5 _ (List.mem_of_getElem? (i := 9) rfl)) (mj_cons (mc_X5_explore_X5_explore_r5 _ (List.mem_of_getElem? (i := 10) rfl)) (mj_cons (mc_X5_explore_X5_explore_r2 _ (List.mem_of_getElem? (i := 15) rfl)) (mj_cons (mc_X5_explore_X5_explore_r2 _ (List.mem_of_getElem? (i := 16) rfl)) (mj_cons (mc_X5_explore_X5_explore_r1 _ (List.mem_of_getElem? (i := 7) rfl)) (mj_cons (mc_X5_explore_X5_explore_r2 _ (List.mem_of_getElem? (i := 17) rfl)) mj_nil)))))))))))) mc_X5_explore_X50)) (by decide +kernel)
set_option maxRecDepth 20000 in
theorem gX5_explore_X5_lowAfter : GoodIn wsX5_explore (wsV RX5 66 RX5 yX5_lowAfter wsX5_lowAfter) := goodIn_app (mj_good (mj_cons (mc_X5_explore_X5_explore_r5 _ (List.mem_of_getElem? (i := 1) rfl)) (mj_cons (mc_X5_explore_X5_explore_r5 _ (List.mem_of_getElem? (i := 2) rfl)) (mj_cons (mc_X5_explore_X5_explore_r5 _ (List.mem_of_getElem? (i := 3) rfl)) (mj_cons (mc_X5_explore_X5_explore_r1 _ (List.mem_of_getElem? (i := 7) rfl)) mj_nil)))) (by decide +kernel)) ggX5_explore_X5_lowAfter
set_option maxRecDepth 20000 in
theorem ggX5_explore_X5_highAfter : GoodIn wsX5_explore wsX5_highAfter := mj_good (mj_cons (mc_X5_explore_X5_explore_r5 _ (List.mem_of_getElem? (i := 14) rfl)) (mj_app (mj_cons (mc_X5_explore_X5_explore_r3 _ (List.mem_of_getElem? (i := 2) rfl)) (mj_cons (mc_X5_explore_X5_explore_r5 _ (List.mem_of_getElem? (i := 5) rfl)) (mj_cons (mc_X5_explore_X5_explore_r4 _ (List.mem_of_getElem? (i := 13) rfl)) (mj_cons (mc_X5_explore_X5_explore_r5 _ (List.mem_of_getElem? (i := 6) rfl)) (mj_cons (mc_X5_explore_X5_explore_r5 _ (List.mem_of_getElem? (i := 7) rfl)) (mj_cons (mc_X5_explore_X5_explore_r5 _ (List.mem_of_getElem? (i := 8) rfl)) (mj_cons (mc_X5_explore_X5_explore_r5 _ (List.mem_of_getElem? (i := 9) rfl)) (mj_cons (mc_X5_explore_X5_explore_r5 _ (List.mem_of_getElem? (i := 10) rfl)) (mj_cons (mc_X5_explore_X5_explore_r2 _ (List.mem_of_getElem? (i := 18) rfl)) (mj_cons (mc_X5_explore_X5_explore_r2 _ (List.mem_of_getElem? (i := 19) rfl)) (mj_cons (mc_X5_explore_X5_explore_r1 _ (List.mem_of_getElem? (i := 7) rfl)) (mj_cons (mc_X5_explore_X5_explore_r2 _ (List.mem_of_getElem? (i := 20) rfl)) mj_nil)))))))))))) mc_X5_explore_X50)) (by decide +kernel)
set_option maxRecDepth 20000 in
theorem gX5_explore_X5_highAfter : GoodIn wsX5_explore (wsV RX5 70 RX5 yX5_highAfter wsX5_highAfter) := goodIn_app (mj_good (mj_cons (mc_X5_explore_X5_explore_r5 _ (List.mem_of_getElem? (i := 11) rfl)) (mj_cons (mc_X5_explore_X5_explore_r5 _ (List.mem_of_getElem? (i := 12) rfl)) (mj_cons (mc_X5_explore_X5_explore_r5 _ (List.mem_of_getElem? (i := 13) rfl)) (mj_cons (mc_X5_explore_X5_explore_r1 _ (List.mem_of_getElem? (i := 7) rfl)) mj_nil)))) (by decide +kernel)) ggX5_explore_X5_highAfter
set_option maxRecDepth 20000 in
theorem ggX5_explore_X5_meet : GoodIn wsX5_explore wsX5_meet := mj_good (mj_cons (mc_X5_explore_X5_explore_r3 _ (List.mem_of_getElem? (i := 0) rfl)) (mj_app (mj_cons (mc_X5_explore_X5_explore_r1 _ (List.mem_of_getElem? (i := 9) rfl)) (mj_cons (mc_X5_explore_X5_explore_r1 _ (List.mem_of_getElem? (i := 1) rfl)) (mj_cons (mc_X5_explore_X5_explore_r1 _ (List.mem_of_getElem? (i := 2) rfl)) (mj_cons (mc_X5_explore_X5_explore_r3 _ (List.mem_of_getElem? (i := 1) rfl)) (mj_cons (mc_X5_explore_X5_explore_r3 _ (List.mem_of_getElem? (i := 2) rfl)) (mj_cons (mc_X5_explore_X5_explore_r1 _ (List.mem_of_getElem? (i := 10) rfl)) (mj_cons (mc_X5_explore_X5_explore_r3 _ (List.mem_of_getElem? (i := 3) rfl)) (mj_cons (mc_X5_explore_X5_explore_r3 _ (List.mem_of_getElem? (i := 4) rfl)) (mj_cons (mc_X5_explore_X5_explore_r3 _ (List.mem_of_getElem? (i := 5) rfl)) (mj_cons (mc_X5_explore_X5_explore_r1 _ (List.mem_of_getElem? (i := 7) rfl)) (mj_cons (mc_X5_explore_X5_explore_r3 _ (List.mem_of_getElem? (i := 6) rfl)) (mj_cons (mc_X5_explore_X5_explore_r3 _ (List.mem_of_getElem? (i := 7) rfl)) (mj_cons (mc_X5_explore_X5_explore_r3 _ (List.mem_of_getElem? (i := 8) rfl)) mj_nil))))))))))))) mc_X5_explore_X50)) (by decide +kernel)
set_option maxRecDepth 20000 in
theorem gX5_explore_X5_meet : GoodIn wsX5_explore (wsV RX5 73 RX5 yX5_meet wsX5_meet) := goodIn_app (mj_good (mj_cons (mc_X5_explore_X5_explore_r2 _ (List.mem_of_getElem? (i := 21) rfl)) (mj_cons (mc_X5_explore_X5_explore_r2 _ (List.mem_of_getElem? (i := 22) rfl)) (mj_cons (mc_X5_explore_X5_explore_r2 _ (List.mem_of_getElem? (i := 23) rfl)) (mj_cons (mc_X5_explore_X5_explore_r1 _ (List.mem_of_getElem? (i := 7) rfl)) mj_nil)))) (by decide +kernel)) ggX5_explore_X5_meet
theorem dX5_explore_0 : decode cX5_explore 0 = .ok (.aload_n 0, 1) := by decide +kernel
theorem dX5_explore_1 : decode cX5_explore 1 = .ok (.invokevirtual 44, 3) := by decide +kernel
theorem dX5_explore_4 : decode cX5_explore 4 = .ok (.aload_n 0, 1) := by decide +kernel
theorem dX5_explore_5 : decode cX5_explore 5 = .ok (.getfield 12, 3) := by decide +kernel
theorem dX5_explore_8 : decode cX5_explore 8 = .ok (.aload_n 1, 1) := by decide +kernel
theorem dX5_explore_9 : decode cX5_explore 9 = .ok (.invokevirtual 47, 3) := by decide +kernel
theorem dX5_explore_12 : decode cX5_explore 12 = .ok (.aload_n 0, 1) := by decide +kernel
theorem dX5_explore_13 : decode cX5_explore 13 = .ok (.invokevirtual 51, 3) := by decide +kernel
theorem dX5_explore_16 : decode cX5_explore 16 = .ok (.iconst 0, 1) := by decide +kernel
theorem dX5_explore_17 : decode cX5_explore 17 = .ok (.istore_n 2, 1) := by decide +kernel
theorem dX5_explore_18 : decode cX5_explore 18 = .ok (.iload_n 2, 1) := by decide +kernel
theorem dX5_explore_19 : decode cX5_explore 19 = .ok (.aload_n 0, 1) := by decide +kernel
theorem dX5_explore_20 : decode cX5_explore 20 = .ok (.getfield 54, 3) := by decide +kernel
theorem dX5_explore_23 : decode cX5_explore 23 = .ok (.if_icmp .ge 75, 3) := by decide +kernel
theorem dX5_explore_26 : decode cX5_explore 26 = .ok (.iload_n 2, 1) := by decide +kernel
theorem dX5_explore_27 : decode cX5_explore 27 = .ok (.sipush 6000, 3) := by decide +kernel
theorem dX5_explore_30 : decode cX5_explore 30 = .ok (.if_icmp .ge 68, 3) := by decide +kernel
theorem dX5_explore_33 : decode cX5_explore 33 = .ok (.aload_n 0, 1) := by decide +kernel
theorem dX5_explore_34 : decode cX5_explore 34 = .ok (.getfield 58, 3) := by decide +kernel
theorem dX5_explore_37 : decode cX5_explore 37 = .ok (.ifCond .ne 61, 3) := by decide +kernel
theorem dX5_explore_40 : decode cX5_explore 40 = .ok (.aload_n 0, 1) := by decide +kernel
theorem dX5_explore_41 : decode cX5_explore 41 = .ok (.iload_n 2, 1) := by decide +kernel
theorem dX5_explore_42 : decode cX5_explore 42 = .ok (.bipush 7, 2) := by decide +kernel
theorem dX5_explore_44 : decode cX5_explore 44 = .ok (.iconst 0, 1) := by decide +kernel
theorem dX5_explore_45 : decode cX5_explore 45 = .ok (.invokevirtual 62, 3) := by decide +kernel
theorem dX5_explore_48 : decode cX5_explore 48 = .ok (.istore_n 3, 1) := by decide +kernel
theorem dX5_explore_49 : decode cX5_explore 49 = .ok (.iconst 0, 1) := by decide +kernel
theorem dX5_explore_50 : decode cX5_explore 50 = .ok (.istore 4, 2) := by decide +kernel
theorem dX5_explore_52 : decode cX5_explore 52 = .ok (.iload 4, 2) := by decide +kernel
theorem dX5_explore_54 : decode cX5_explore 54 = .ok (.iload_n 3, 1) := by decide +kernel
theorem dX5_explore_55 : decode cX5_explore 55 = .ok (.if_icmp .ge 37, 3) := by decide +kernel
theorem dX5_explore_58 : decode cX5_explore 58 = .ok (.aload_n 0, 1) := by decide +kernel
theorem dX5_explore_59 : decode cX5_explore 59 = .ok (.aload_n 0, 1) := by decide +kernel
theorem dX5_explore_60 : decode cX5_explore 60 = .ok (.iload_n 2, 1) := by decide +kernel
theorem dX5_explore_61 : decode cX5_explore 61 = .ok (.aload_n 0, 1) := by decide +kernel
theorem dX5_explore_62 : decode cX5_explore 62 = .ok (.getfield 32, 3) := by decide +kernel
theorem dX5_explore_65 : decode cX5_explore 65 = .ok (.iload 4, 2) := by decide +kernel
theorem dX5_explore_67 : decode cX5_explore 67 = .ok (.iaload, 1) := by decide +kernel
theorem dX5_explore_68 : decode cX5_explore 68 = .ok (.invokevirtual 66, 3) := by decide +kernel
theorem dX5_explore_71 : decode cX5_explore 71 = .ok (.aload_n 0, 1) := by decide +kernel
theorem dX5_explore_72 : decode cX5_explore 72 = .ok (.iload_n 2, 1) := by decide +kernel
theorem dX5_explore_73 : decode cX5_explore 73 = .ok (.aload_n 0, 1) := by decide +kernel
theorem dX5_explore_74 : decode cX5_explore 74 = .ok (.getfield 32, 3) := by decide +kernel
theorem dX5_explore_77 : decode cX5_explore 77 = .ok (.iload 4, 2) := by decide +kernel
theorem dX5_explore_79 : decode cX5_explore 79 = .ok (.iaload, 1) := by decide +kernel
theorem dX5_explore_80 : decode cX5_explore 80 = .ok (.invokevirtual 70, 3) := by decide +kernel
theorem dX5_explore_83 : decode cX5_explore 83 = .ok (.invokevirtual 73, 3) := by decide +kernel
theorem dX5_explore_86 : decode cX5_explore 86 = .ok (.iinc 4 1, 3) := by decide +kernel
theorem dX5_explore_89 : decode cX5_explore 89 = .ok (.goto (-37), 3) := by decide +kernel
theorem dX5_explore_92 : decode cX5_explore 92 = .ok (.iinc 2 1, 3) := by decide +kernel
theorem dX5_explore_95 : decode cX5_explore 95 = .ok (.goto (-77), 3) := by decide +kernel
theorem dX5_explore_98 : decode cX5_explore 98 = .ok (.aload_n 0, 1) := by decide +kernel
theorem dX5_explore_99 : decode cX5_explore 99 = .ok (.getfield 58, 3) := by decide +kernel
theorem dX5_explore_102 : decode cX5_explore 102 = .ok (.ifCond .ne 7, 3) := by decide +kernel
theorem dX5_explore_105 : decode cX5_explore 105 = .ok (.iconst 1, 1) := by decide +kernel
theorem dX5_explore_106 : decode cX5_explore 106 = .ok (.goto 4, 3) := by decide +kernel
theorem dX5_explore_109 : decode cX5_explore 109 = .ok (.iconst 0, 1) := by decide +kernel
theorem dX5_explore_110 : decode cX5_explore 110 = .ok (.ireturn, 1) := by decide +kernel
theorem dX5_clear_0 : decode cX5_clear 0 = .ok (.iconst 0, 1) := by decide +kernel
theorem dX5_clear_1 : decode cX5_clear 1 = .ok (.istore_n 1, 1) := by decide +kernel
theorem dX5_clear_2 : decode cX5_clear 2 = .ok (.iload_n 1, 1) := by decide +kernel
theorem dX5_clear_3 : decode cX5_clear 3 = .ok (.aload_n 0, 1) := by decide +kernel
theorem dX5_clear_4 : decode cX5_clear 4 = .ok (.getfield 54, 3) := by decide +kernel
theorem dX5_clear_7 : decode cX5_clear 7 = .ok (.if_icmp .ge 21, 3) := by decide +kernel
theorem dX5_clear_10 : decode cX5_clear 10 = .ok (.aload_n 0, 1) := by decide +kernel
theorem dX5_clear_11 : decode cX5_clear 11 = .ok (.getfield 25, 3) := by decide +kernel
theorem dX5_clear_14 : decode cX5_clear 14 = .ok (.aload_n 0, 1) := by decide +kernel
theorem dX5_clear_15 : decode cX5_clear 15 = .ok (.getfield 29, 3) := by decide +kernel
theorem dX5_clear_18 : decode cX5_clear 18 = .ok (.iload_n 1, 1) := by decide +kernel
theorem dX5_clear_19 : decode cX5_clear 19 = .ok (.iaload, 1) := by decide +kernel
theorem dX5_clear_20 : decode cX5_clear 20 = .ok (.iconst 0, 1) := by decide +kernel
theorem dX5_clear_21 : decode cX5_clear 21 = .ok (.iastore, 1) := by decide +kernel
theorem dX5_clear_22 : decode cX5_clear 22 = .ok (.iinc 1 1, 3) := by decide +kernel
theorem dX5_clear_25 : decode cX5_clear 25 = .ok (.goto (-23), 3) := by decide +kernel
theorem dX5_clear_28 : decode cX5_clear 28 = .ok (.aload_n 0, 1) := by decide +kernel
theorem dX5_clear_29 : decode cX5_clear 29 = .ok (.iconst 0, 1) := by decide +kernel
theorem dX5_clear_30 : decode cX5_clear 30 = .ok (.putfield 54, 3) := by decide +kernel
theorem dX5_clear_33 : decode cX5_clear 33 = .ok (.aload_n 0, 1) := by decide +kernel
theorem dX5_clear_34 : decode cX5_clear 34 = .ok (.iconst 0, 1) := by decide +kernel
theorem dX5_clear_35 : decode cX5_clear 35 = .ok (.putfield 58, 3) := by decide +kernel
theorem dX5_clear_38 : decode cX5_clear 38 = .ok (.return_, 1) := by decide +kernel
set_option maxRecDepth 20000 in
theorem mc_X5_meetStart_X5_meetStart_r1 : mjIn wsX5_meetStart wsX5_meetStart_r1 := fun w h => (List.mem_cons_of_mem _ (List.mem_append_left _ (List.mem_append_left _ (List.mem_append_left _ h))))
set_option maxRecDepth 20000 in
theorem ggX5_meetStart_X5_inLow : GoodIn wsX5_meetStart wsX5_inLow := mj_good (mj_cons (mc_X5_meetStart_X5_meetStart_r1 _ (List.mem_of_getElem? (i := 6) rfl)) mj_nil) (by decide +kernel)
set_option maxRecDepth 20000 in
theorem gX5_meetStart_X5_inLow : GoodIn wsX5_meetStart (va_wsS RX5 83 yX5_inLow wsX5_inLow) := goodIn_app (mj_good (mj_cons (mc_X5_meetStart_X5_meetStart_r1 _ (List.mem_of_getElem? (i := 3) rfl)) (mj_cons (mc_X5_meetStart_X5_meetStart_r1 _ (List.mem_of_getElem? (i := 4) rfl)) (mj_cons (mc_X5_meetStart_X5_meetStart_r1 _ (List.mem_of_getElem? (i := 5) rfl)) mj_nil))) (by decide +kernel)) ggX5_meetStart_X5_inLow
set_option maxRecDepth 20000 in
theorem ggX5_meetStart_X5_inHigh : GoodIn wsX5_meetStart wsX5_inHigh := mj_good (mj_cons (mc_X5_meetStart_X5_meetStart_r1 _ (List.mem_of_getElem? (i := 9) rfl)) mj_nil) (by decide +kernel)
set_option maxRecDepth 20000 in
theorem gX5_meetStart_X5_inHigh : GoodIn wsX5_meetStart (va_wsS RX5 86 yX5_inHigh wsX5_inHigh) := goodIn_app (mj_good (mj_cons (mc_X5_meetStart_X5_meetStart_r1 _ (List.mem_of_getElem? (i := 7) rfl)) (mj_cons (mc_X5_meetStart_X5_meetStart_r1 _ (List.mem_of_getElem? (i := 8) rfl)) (mj_cons (mc_X5_meetStart_X5_meetStart_r1 _ (List.mem_of_getElem? (i := 5) rfl)) mj_nil))) (by decide +kernel)) ggX5_meetStart_X5_inHigh
set_option maxRecDepth 20000 in
theorem mc_X5_meetStart_X5_meetStart_r2 : mjIn wsX5_meetStart wsX5_meetStart_r2 := fun w h => (List.mem_cons_of_mem _ (List.mem_append_left _ (List.mem_append_left _ (List.mem_append_right _ h))))
set_option maxRecDepth 20000 in
theorem mc_X5_meetStart_X50 : mjIn wsX5_meetStart wsX50 := fun w h => (List.mem_cons_of_mem _ (List.mem_append_left _ (List.mem_append_right _ h)))
set_option maxRecDepth 20000 in
theorem ggX5_meetStart_X5_meet : GoodIn wsX5_meetStart wsX5_meet := mj_good (mj_cons (mc_X5_meetStart_X5_meetStart_r1 _ (List.mem_of_getElem? (i := 13) rfl)) (mj_app (mj_cons (mc_X5_meetStart_X5_meetStart_r1 _ (List.mem_of_getElem? (i := 14) rfl)) (mj_cons (mc_X5_meetStart_X5_meetStart_r1 _ (List.mem_of_getElem? (i := 15) rfl)) (mj_cons (mc_X5_meetStart_X5_meetStart_r1 _ (List.mem_of_getElem? (i := 16) rfl)) (mj_cons (mc_X5_meetStart_X5_meetStart_r1 _ (List.mem_of_getElem? (i := 17) rfl)) (mj_cons (mc_X5_meetStart_X5_meetStart_r1 _ (List.mem_of_getElem? (i := 18) rfl)) (mj_cons (mc_X5_meetStart_X5_meetStart_r1 _ (List.mem_of_getElem? (i := 19) rfl)) (mj_cons (mc_X5_meetStart_X5_meetStart_r1 _ (List.mem_of_getElem? (i := 20) rfl)) (mj_cons (mc_X5_meetStart_X5_meetStart_r1 _ (List.mem_of_getElem? (i := 21) rfl)) (mj_cons (mc_X5_meetStart_X5_meetStart_r1 _ (List.mem_of_getElem? (i := 22) rfl)) (mj_cons (mc_X5_meetStart_X5_meetStart_r1 _ (List.mem_of_getElem? (i := 5) rfl)) (mj_cons (mc_X5_meetStart_X5_meetStart_r1 _ (List.mem_of_getElem? (i := 23) rfl)) (mj_cons (mc_X5_meetStart_X5_meetStart_r2 _ (List.mem_of_getElem? (i := 0) rfl)) (mj_cons (mc_X5_meetStart_X5_meetStart_r2 _ (List.mem_of_getElem? (i := 1) rfl)) mj_nil))))))))))))) mc_X5_meetStart_X50)) (by decide +kernel)
set_option maxRecDepth 20000 in
theorem gX5_meetStart_X5_meet : GoodIn wsX5_meetStart (wsV RX5 73 RX5 yX5_meet wsX5_meet) := goodIn_app (mj_good (mj_cons (mc_X5_meetStart_X5_meetStart_r1 _ (List.mem_of_getElem? (i := 10) rfl)) (mj_cons (mc_X5_meetStart_X5_meetStart_r1 _ (List.mem_of_getElem? (i := 11) rfl)) (mj_cons (mc_X5_meetStart_X5_meetStart_r1 _ (List.mem_of_getElem? (i := 12) rfl)) (mj_cons (mc_X5_meetStart_X5_meetStart_r1 _ (List.mem_of_getElem? (i := 5) rfl)) mj_nil)))) (by decide +kernel)) ggX5_meetStart_X5_meet
theorem dX5_meetStart_0 : decode cX5_meetStart 0 = .ok (.lconst 0, 1) := by decide +kernel
theorem dX5_meetStart_1 : decode cX5_meetStart 1 = .ok (.lstore_n 1, 1) := by decide +kernel
theorem dX5_meetStart_2 : decode cX5_meetStart 2 = .ok (.lconst 0, 1) := by decide +kernel
theorem dX5_meetStart_3 : decode cX5_meetStart 3 = .ok (.lstore_n 3, 1) := by decide +kernel
theorem dX5_meetStart_4 : decode cX5_meetStart 4 = .ok (.iconst 0, 1) := by decide +kernel
theorem dX5_meetStart_5 : decode cX5_meetStart 5 = .ok (.istore 5, 2) := by decide +kernel
theorem dX5_meetStart_7 : decode cX5_meetStart 7 = .ok (.iload 5, 2) := by decide +kernel
theorem dX5_meetStart_9 : decode cX5_meetStart 9 = .ok (.aload_n 0, 1) := by decide +kernel
theorem dX5_meetStart_10 : decode cX5_meetStart 10 = .ok (.getfield 12, 3) := by decide +kernel
theorem dX5_meetStart_13 : decode cX5_meetStart 13 = .ok (.getfield 77, 3) := by decide +kernel
theorem dX5_meetStart_16 : decode cX5_meetStart 16 = .ok (.if_icmp .ge 45, 3) := by decide +kernel
theorem dX5_meetStart_19 : decode cX5_meetStart 19 = .ok (.lload_n 1, 1) := by decide +kernel
theorem dX5_meetStart_20 : decode cX5_meetStart 20 = .ok (.iload 5, 2) := by decide +kernel
theorem dX5_meetStart_22 : decode cX5_meetStart 22 = .ok (.aload_n 0, 1) := by decide +kernel
theorem dX5_meetStart_23 : decode cX5_meetStart 23 = .ok (.getfield 12, 3) := by decide +kernel
theorem dX5_meetStart_26 : decode cX5_meetStart 26 = .ok (.getfield 80, 3) := by decide +kernel
theorem dX5_meetStart_29 : decode cX5_meetStart 29 = .ok (.iload 5, 2) := by decide +kernel
theorem dX5_meetStart_31 : decode cX5_meetStart 31 = .ok (.iaload, 1) := by decide +kernel
theorem dX5_meetStart_32 : decode cX5_meetStart 32 = .ok (.invokestatic 83, 3) := by decide +kernel
theorem dX5_meetStart_35 : decode cX5_meetStart 35 = .ok (.ladd, 1) := by decide +kernel
theorem dX5_meetStart_36 : decode cX5_meetStart 36 = .ok (.lstore_n 1, 1) := by decide +kernel
theorem dX5_meetStart_37 : decode cX5_meetStart 37 = .ok (.lload_n 3, 1) := by decide +kernel
theorem dX5_meetStart_38 : decode cX5_meetStart 38 = .ok (.iload 5, 2) := by decide +kernel
theorem dX5_meetStart_40 : decode cX5_meetStart 40 = .ok (.aload_n 0, 1) := by decide +kernel
theorem dX5_meetStart_41 : decode cX5_meetStart 41 = .ok (.getfield 12, 3) := by decide +kernel
theorem dX5_meetStart_44 : decode cX5_meetStart 44 = .ok (.getfield 80, 3) := by decide +kernel
theorem dX5_meetStart_47 : decode cX5_meetStart 47 = .ok (.iload 5, 2) := by decide +kernel
theorem dX5_meetStart_49 : decode cX5_meetStart 49 = .ok (.iaload, 1) := by decide +kernel
theorem dX5_meetStart_50 : decode cX5_meetStart 50 = .ok (.invokestatic 86, 3) := by decide +kernel
theorem dX5_meetStart_53 : decode cX5_meetStart 53 = .ok (.ladd, 1) := by decide +kernel
theorem dX5_meetStart_54 : decode cX5_meetStart 54 = .ok (.lstore_n 3, 1) := by decide +kernel
theorem dX5_meetStart_55 : decode cX5_meetStart 55 = .ok (.iinc 5 1, 3) := by decide +kernel
theorem dX5_meetStart_58 : decode cX5_meetStart 58 = .ok (.goto (-51), 3) := by decide +kernel
theorem dX5_meetStart_61 : decode cX5_meetStart 61 = .ok (.aload_n 0, 1) := by decide +kernel
theorem dX5_meetStart_62 : decode cX5_meetStart 62 = .ok (.lload_n 1, 1) := by decide +kernel
theorem dX5_meetStart_63 : decode cX5_meetStart 63 = .ok (.lload_n 3, 1) := by decide +kernel
theorem dX5_meetStart_64 : decode cX5_meetStart 64 = .ok (.invokevirtual 73, 3) := by decide +kernel
theorem dX5_meetStart_67 : decode cX5_meetStart 67 = .ok (.return_, 1) := by decide +kernel
set_option maxRecDepth 20000 in
theorem mc_X5_meet_X50 : mjIn wsX5_meet wsX50 := fun w h => (List.mem_cons_of_mem _ (List.mem_append_right _ h))
set_option maxRecDepth 20000 in
theorem ggX5_meet_X5_slotOf : GoodIn wsX5_meet wsX5_slotOf := mj_good (mj_cons (List.mem_of_getElem? (i := 11) rfl) (mj_app (mj_cons (List.mem_of_getElem? (i := 12) rfl) (mj_cons (List.mem_of_getElem? (i := 13) rfl) (mj_cons (List.mem_of_getElem? (i := 1) rfl) (mj_cons (List.mem_of_getElem? (i := 4) rfl) (mj_cons (List.mem_of_getElem? (i := 5) rfl) mj_nil))))) mc_X5_meet_X50)) (by decide +kernel)
set_option maxRecDepth 20000 in
theorem gX5_meet_X5_slotOf : GoodIn wsX5_meet (wsV RX5 89 RX5 yX5_slotOf wsX5_slotOf) := goodIn_app (mj_good (mj_cons (List.mem_of_getElem? (i := 7) rfl) (mj_cons (List.mem_of_getElem? (i := 8) rfl) (mj_cons (List.mem_of_getElem? (i := 9) rfl) (mj_cons (List.mem_of_getElem? (i := 10) rfl) mj_nil)))) (by decide +kernel)) ggX5_meet_X5_slotOf
theorem dX5_meet_0 : decode cX5_meet 0 = .ok (.aload_n 0, 1) := by decide +kernel
theorem dX5_meet_1 : decode cX5_meet 1 = .ok (.lload_n 1, 1) := by decide +kernel
theorem dX5_meet_2 : decode cX5_meet 2 = .ok (.lload_n 3, 1) := by decide +kernel
theorem dX5_meet_3 : decode cX5_meet 3 = .ok (.invokevirtual 89, 3) := by decide +kernel
theorem dX5_meet_6 : decode cX5_meet 6 = .ok (.istore 5, 2) := by decide +kernel
theorem dX5_meet_8 : decode cX5_meet 8 = .ok (.aload_n 0, 1) := by decide +kernel
theorem dX5_meet_9 : decode cX5_meet 9 = .ok (.getfield 25, 3) := by decide +kernel
theorem dX5_meet_12 : decode cX5_meet 12 = .ok (.iload 5, 2) := by decide +kernel
theorem dX5_meet_14 : decode cX5_meet 14 = .ok (.iaload, 1) := by decide +kernel
theorem dX5_meet_15 : decode cX5_meet 15 = .ok (.ifCond .eq 4, 3) := by decide +kernel
theorem dX5_meet_18 : decode cX5_meet 18 = .ok (.return_, 1) := by decide +kernel
theorem dX5_meet_19 : decode cX5_meet 19 = .ok (.aload_n 0, 1) := by decide +kernel
theorem dX5_meet_20 : decode cX5_meet 20 = .ok (.getfield 54, 3) := by decide +kernel
theorem dX5_meet_23 : decode cX5_meet 23 = .ok (.sipush 6000, 3) := by decide +kernel
theorem dX5_meet_26 : decode cX5_meet 26 = .ok (.if_icmp .lt 9, 3) := by decide +kernel
theorem dX5_meet_29 : decode cX5_meet 29 = .ok (.aload_n 0, 1) := by decide +kernel
theorem dX5_meet_30 : decode cX5_meet 30 = .ok (.iconst 1, 1) := by decide +kernel
theorem dX5_meet_31 : decode cX5_meet 31 = .ok (.putfield 58, 3) := by decide +kernel
theorem dX5_meet_34 : decode cX5_meet 34 = .ok (.return_, 1) := by decide +kernel
theorem dX5_meet_35 : decode cX5_meet 35 = .ok (.aload_n 0, 1) := by decide +kernel
theorem dX5_meet_36 : decode cX5_meet 36 = .ok (.getfield 18, 3) := by decide +kernel
theorem dX5_meet_39 : decode cX5_meet 39 = .ok (.aload_n 0, 1) := by decide +kernel
theorem dX5_meet_40 : decode cX5_meet 40 = .ok (.getfield 54, 3) := by decide +kernel
theorem dX5_meet_43 : decode cX5_meet 43 = .ok (.lload_n 1, 1) := by decide +kernel
theorem dX5_meet_44 : decode cX5_meet 44 = .ok (.lastore, 1) := by decide +kernel
theorem dX5_meet_45 : decode cX5_meet 45 = .ok (.aload_n 0, 1) := by decide +kernel
theorem dX5_meet_46 : decode cX5_meet 46 = .ok (.getfield 22, 3) := by decide +kernel
theorem dX5_meet_49 : decode cX5_meet 49 = .ok (.aload_n 0, 1) := by decide +kernel
theorem dX5_meet_50 : decode cX5_meet 50 = .ok (.getfield 54, 3) := by decide +kernel
theorem dX5_meet_53 : decode cX5_meet 53 = .ok (.lload_n 3, 1) := by decide +kernel
theorem dX5_meet_54 : decode cX5_meet 54 = .ok (.lastore, 1) := by decide +kernel
theorem dX5_meet_55 : decode cX5_meet 55 = .ok (.aload_n 0, 1) := by decide +kernel
theorem dX5_meet_56 : decode cX5_meet 56 = .ok (.getfield 29, 3) := by decide +kernel
theorem dX5_meet_59 : decode cX5_meet 59 = .ok (.aload_n 0, 1) := by decide +kernel
theorem dX5_meet_60 : decode cX5_meet 60 = .ok (.getfield 54, 3) := by decide +kernel
theorem dX5_meet_63 : decode cX5_meet 63 = .ok (.iload 5, 2) := by decide +kernel
theorem dX5_meet_65 : decode cX5_meet 65 = .ok (.iastore, 1) := by decide +kernel
theorem dX5_meet_66 : decode cX5_meet 66 = .ok (.aload_n 0, 1) := by decide +kernel
theorem dX5_meet_67 : decode cX5_meet 67 = .ok (.dup, 1) := by decide +kernel
theorem dX5_meet_68 : decode cX5_meet 68 = .ok (.getfield 54, 3) := by decide +kernel
theorem dX5_meet_71 : decode cX5_meet 71 = .ok (.iconst 1, 1) := by decide +kernel
theorem dX5_meet_72 : decode cX5_meet 72 = .ok (.iadd, 1) := by decide +kernel
theorem dX5_meet_73 : decode cX5_meet 73 = .ok (.putfield 54, 3) := by decide +kernel
theorem dX5_meet_76 : decode cX5_meet 76 = .ok (.aload_n 0, 1) := by decide +kernel
theorem dX5_meet_77 : decode cX5_meet 77 = .ok (.getfield 25, 3) := by decide +kernel
theorem dX5_meet_80 : decode cX5_meet 80 = .ok (.iload 5, 2) := by decide +kernel
theorem dX5_meet_82 : decode cX5_meet 82 = .ok (.aload_n 0, 1) := by decide +kernel
theorem dX5_meet_83 : decode cX5_meet 83 = .ok (.getfield 54, 3) := by decide +kernel
theorem dX5_meet_86 : decode cX5_meet 86 = .ok (.iastore, 1) := by decide +kernel
theorem dX5_meet_87 : decode cX5_meet 87 = .ok (.return_, 1) := by decide +kernel
theorem dX5_inLow_0 : decode cX5_inLow 0 = .ok (.iload_n 0, 1) := by decide +kernel
theorem dX5_inLow_1 : decode cX5_inLow 1 = .ok (.bipush 6, 2) := by decide +kernel
theorem dX5_inLow_3 : decode cX5_inLow 3 = .ok (.if_icmp .ge 13, 3) := by decide +kernel
theorem dX5_inLow_6 : decode cX5_inLow 6 = .ok (.iload_n 1, 1) := by decide +kernel
theorem dX5_inLow_7 : decode cX5_inLow 7 = .ok (.i2l, 1) := by decide +kernel
theorem dX5_inLow_8 : decode cX5_inLow 8 = .ok (.bipush 6, 2) := by decide +kernel
theorem dX5_inLow_10 : decode cX5_inLow 10 = .ok (.iload_n 0, 1) := by decide +kernel
theorem dX5_inLow_11 : decode cX5_inLow 11 = .ok (.imul, 1) := by decide +kernel
theorem dX5_inLow_12 : decode cX5_inLow 12 = .ok (.lshl, 1) := by decide +kernel
theorem dX5_inLow_13 : decode cX5_inLow 13 = .ok (.goto 4, 3) := by decide +kernel
theorem dX5_inLow_16 : decode cX5_inLow 16 = .ok (.lconst 0, 1) := by decide +kernel
theorem dX5_inLow_17 : decode cX5_inLow 17 = .ok (.lreturn, 1) := by decide +kernel
theorem dX5_inHigh_0 : decode cX5_inHigh 0 = .ok (.iload_n 0, 1) := by decide +kernel
theorem dX5_inHigh_1 : decode cX5_inHigh 1 = .ok (.bipush 6, 2) := by decide +kernel
theorem dX5_inHigh_3 : decode cX5_inHigh 3 = .ok (.if_icmp .ge 7, 3) := by decide +kernel
theorem dX5_inHigh_6 : decode cX5_inHigh 6 = .ok (.lconst 0, 1) := by decide +kernel
theorem dX5_inHigh_7 : decode cX5_inHigh 7 = .ok (.goto 13, 3) := by decide +kernel
theorem dX5_inHigh_10 : decode cX5_inHigh 10 = .ok (.iload_n 1, 1) := by decide +kernel
theorem dX5_inHigh_11 : decode cX5_inHigh 11 = .ok (.i2l, 1) := by decide +kernel
theorem dX5_inHigh_12 : decode cX5_inHigh 12 = .ok (.bipush 6, 2) := by decide +kernel
theorem dX5_inHigh_14 : decode cX5_inHigh 14 = .ok (.iload_n 0, 1) := by decide +kernel
theorem dX5_inHigh_15 : decode cX5_inHigh 15 = .ok (.bipush 6, 2) := by decide +kernel
theorem dX5_inHigh_17 : decode cX5_inHigh 17 = .ok (.isub, 1) := by decide +kernel
theorem dX5_inHigh_18 : decode cX5_inHigh 18 = .ok (.imul, 1) := by decide +kernel
theorem dX5_inHigh_19 : decode cX5_inHigh 19 = .ok (.lshl, 1) := by decide +kernel
theorem dX5_inHigh_20 : decode cX5_inHigh 20 = .ok (.lreturn, 1) := by decide +kernel
set_option maxRecDepth 20000 in
theorem ggX5_lowAfter_X6_bargeOf : GoodIn wsX5_lowAfter wsX6_bargeOf := mj_good (mj_cons (List.mem_of_getElem? (i := 4) rfl) mj_nil) (by decide +kernel)
set_option maxRecDepth 20000 in
theorem gX5_lowAfter_X6_bargeOf_n93 : GoodIn wsX5_lowAfter (wsX6_bargeOf) := ggX5_lowAfter_X6_bargeOf
set_option maxRecDepth 20000 in
theorem ggX5_lowAfter_X6_stepsOf : GoodIn wsX5_lowAfter wsX6_stepsOf := mj_good (mj_cons (List.mem_of_getElem? (i := 6) rfl) mj_nil) (by decide +kernel)
set_option maxRecDepth 20000 in
theorem gX5_lowAfter_X6_stepsOf_n97 : GoodIn wsX5_lowAfter (wsX6_stepsOf) := ggX5_lowAfter_X6_stepsOf
set_option maxRecDepth 20000 in
theorem ggX5_lowAfter_X6_directionOf : GoodIn wsX5_lowAfter wsX6_directionOf := mj_good (mj_cons (List.mem_of_getElem? (i := 8) rfl) mj_nil) (by decide +kernel)
set_option maxRecDepth 20000 in
theorem gX5_lowAfter_X6_directionOf_n103 : GoodIn wsX5_lowAfter (wsX6_directionOf) := ggX5_lowAfter_X6_directionOf
set_option maxRecDepth 20000 in
theorem ggX5_lowAfter_X5_inLow : GoodIn wsX5_lowAfter wsX5_inLow := mj_good (mj_cons (List.mem_of_getElem? (i := 12) rfl) mj_nil) (by decide +kernel)
set_option maxRecDepth 20000 in
theorem gX5_lowAfter_X5_inLow : GoodIn wsX5_lowAfter (va_wsS RX5 83 yX5_inLow wsX5_inLow) := goodIn_app (mj_good (mj_cons (List.mem_of_getElem? (i := 9) rfl) (mj_cons (List.mem_of_getElem? (i := 10) rfl) (mj_cons (List.mem_of_getElem? (i := 11) rfl) mj_nil))) (by decide +kernel)) ggX5_lowAfter_X5_inLow
theorem dX5_lowAfter_0 : decode cX5_lowAfter 0 = .ok (.aload_n 0, 1) := by decide +kernel
theorem dX5_lowAfter_1 : decode cX5_lowAfter 1 = .ok (.getfield 18, 3) := by decide +kernel
theorem dX5_lowAfter_4 : decode cX5_lowAfter 4 = .ok (.iload_n 1, 1) := by decide +kernel
theorem dX5_lowAfter_5 : decode cX5_lowAfter 5 = .ok (.laload, 1) := by decide +kernel
theorem dX5_lowAfter_6 : decode cX5_lowAfter 6 = .ok (.iload_n 2, 1) := by decide +kernel
theorem dX5_lowAfter_7 : decode cX5_lowAfter 7 = .ok (.invokestatic 93, 3) := by decide +kernel
theorem dX5_lowAfter_10 : decode cX5_lowAfter 10 = .ok (.iload_n 2, 1) := by decide +kernel
theorem dX5_lowAfter_11 : decode cX5_lowAfter 11 = .ok (.invokestatic 97, 3) := by decide +kernel
theorem dX5_lowAfter_14 : decode cX5_lowAfter 14 = .ok (.getstatic 100, 3) := by decide +kernel
theorem dX5_lowAfter_17 : decode cX5_lowAfter 17 = .ok (.iload_n 2, 1) := by decide +kernel
theorem dX5_lowAfter_18 : decode cX5_lowAfter 18 = .ok (.invokestatic 103, 3) := by decide +kernel
theorem dX5_lowAfter_21 : decode cX5_lowAfter 21 = .ok (.iaload, 1) := by decide +kernel
theorem dX5_lowAfter_22 : decode cX5_lowAfter 22 = .ok (.imul, 1) := by decide +kernel
theorem dX5_lowAfter_23 : decode cX5_lowAfter 23 = .ok (.invokestatic 83, 3) := by decide +kernel
theorem dX5_lowAfter_26 : decode cX5_lowAfter 26 = .ok (.ladd, 1) := by decide +kernel
theorem dX5_lowAfter_27 : decode cX5_lowAfter 27 = .ok (.lreturn, 1) := by decide +kernel
set_option maxRecDepth 20000 in
theorem ggX5_highAfter_X6_bargeOf : GoodIn wsX5_highAfter wsX6_bargeOf := mj_good (mj_cons (List.mem_of_getElem? (i := 4) rfl) mj_nil) (by decide +kernel)
set_option maxRecDepth 20000 in
theorem gX5_highAfter_X6_bargeOf_n93 : GoodIn wsX5_highAfter (wsX6_bargeOf) := ggX5_highAfter_X6_bargeOf
set_option maxRecDepth 20000 in
theorem ggX5_highAfter_X6_stepsOf : GoodIn wsX5_highAfter wsX6_stepsOf := mj_good (mj_cons (List.mem_of_getElem? (i := 6) rfl) mj_nil) (by decide +kernel)
set_option maxRecDepth 20000 in
theorem gX5_highAfter_X6_stepsOf_n97 : GoodIn wsX5_highAfter (wsX6_stepsOf) := ggX5_highAfter_X6_stepsOf
set_option maxRecDepth 20000 in
theorem ggX5_highAfter_X6_directionOf : GoodIn wsX5_highAfter wsX6_directionOf := mj_good (mj_cons (List.mem_of_getElem? (i := 8) rfl) mj_nil) (by decide +kernel)
set_option maxRecDepth 20000 in
theorem gX5_highAfter_X6_directionOf_n103 : GoodIn wsX5_highAfter (wsX6_directionOf) := ggX5_highAfter_X6_directionOf
set_option maxRecDepth 20000 in
theorem ggX5_highAfter_X5_inHigh : GoodIn wsX5_highAfter wsX5_inHigh := mj_good (mj_cons (List.mem_of_getElem? (i := 12) rfl) mj_nil) (by decide +kernel)
set_option maxRecDepth 20000 in
theorem gX5_highAfter_X5_inHigh : GoodIn wsX5_highAfter (va_wsS RX5 86 yX5_inHigh wsX5_inHigh) := goodIn_app (mj_good (mj_cons (List.mem_of_getElem? (i := 9) rfl) (mj_cons (List.mem_of_getElem? (i := 10) rfl) (mj_cons (List.mem_of_getElem? (i := 11) rfl) mj_nil))) (by decide +kernel)) ggX5_highAfter_X5_inHigh
theorem dX5_highAfter_0 : decode cX5_highAfter 0 = .ok (.aload_n 0, 1) := by decide +kernel
theorem dX5_highAfter_1 : decode cX5_highAfter 1 = .ok (.getfield 22, 3) := by decide +kernel
theorem dX5_highAfter_4 : decode cX5_highAfter 4 = .ok (.iload_n 1, 1) := by decide +kernel
theorem dX5_highAfter_5 : decode cX5_highAfter 5 = .ok (.laload, 1) := by decide +kernel
theorem dX5_highAfter_6 : decode cX5_highAfter 6 = .ok (.iload_n 2, 1) := by decide +kernel
theorem dX5_highAfter_7 : decode cX5_highAfter 7 = .ok (.invokestatic 93, 3) := by decide +kernel
theorem dX5_highAfter_10 : decode cX5_highAfter 10 = .ok (.iload_n 2, 1) := by decide +kernel
theorem dX5_highAfter_11 : decode cX5_highAfter 11 = .ok (.invokestatic 97, 3) := by decide +kernel
theorem dX5_highAfter_14 : decode cX5_highAfter 14 = .ok (.getstatic 100, 3) := by decide +kernel
theorem dX5_highAfter_17 : decode cX5_highAfter 17 = .ok (.iload_n 2, 1) := by decide +kernel
theorem dX5_highAfter_18 : decode cX5_highAfter 18 = .ok (.invokestatic 103, 3) := by decide +kernel
theorem dX5_highAfter_21 : decode cX5_highAfter 21 = .ok (.iaload, 1) := by decide +kernel
theorem dX5_highAfter_22 : decode cX5_highAfter 22 = .ok (.imul, 1) := by decide +kernel
theorem dX5_highAfter_23 : decode cX5_highAfter 23 = .ok (.invokestatic 86, 3) := by decide +kernel
theorem dX5_highAfter_26 : decode cX5_highAfter 26 = .ok (.ladd, 1) := by decide +kernel
theorem dX5_highAfter_27 : decode cX5_highAfter 27 = .ok (.lreturn, 1) := by decide +kernel
theorem dX5_slotOf_0 : decode cX5_slotOf 0 = .ok (.lload_n 1, 1) := by decide +kernel
theorem dX5_slotOf_1 : decode cX5_slotOf 1 = .ok (.ldc2_w 106, 3) := by decide +kernel
theorem dX5_slotOf_4 : decode cX5_slotOf 4 = .ok (.lmul, 1) := by decide +kernel
theorem dX5_slotOf_5 : decode cX5_slotOf 5 = .ok (.lload_n 3, 1) := by decide +kernel
theorem dX5_slotOf_6 : decode cX5_slotOf 6 = .ok (.lxor, 1) := by decide +kernel
theorem dX5_slotOf_7 : decode cX5_slotOf 7 = .ok (.ldc2_w 108, 3) := by decide +kernel
theorem dX5_slotOf_10 : decode cX5_slotOf 10 = .ok (.lmul, 1) := by decide +kernel
theorem dX5_slotOf_11 : decode cX5_slotOf 11 = .ok (.lstore 5, 2) := by decide +kernel
theorem dX5_slotOf_13 : decode cX5_slotOf 13 = .ok (.lload 5, 2) := by decide +kernel
theorem dX5_slotOf_15 : decode cX5_slotOf 15 = .ok (.bipush 50, 2) := by decide +kernel
theorem dX5_slotOf_17 : decode cX5_slotOf 17 = .ok (.lushr, 1) := by decide +kernel
theorem dX5_slotOf_18 : decode cX5_slotOf 18 = .ok (.l2i, 1) := by decide +kernel
theorem dX5_slotOf_19 : decode cX5_slotOf 19 = .ok (.istore 7, 2) := by decide +kernel
theorem dX5_slotOf_21 : decode cX5_slotOf 21 = .ok (.iconst 0, 1) := by decide +kernel
theorem dX5_slotOf_22 : decode cX5_slotOf 22 = .ok (.istore 8, 2) := by decide +kernel
theorem dX5_slotOf_24 : decode cX5_slotOf 24 = .ok (.iload 8, 2) := by decide +kernel
theorem dX5_slotOf_26 : decode cX5_slotOf 26 = .ok (.sipush 16384, 3) := by decide +kernel
theorem dX5_slotOf_29 : decode cX5_slotOf 29 = .ok (.if_icmp .ge 62, 3) := by decide +kernel
theorem dX5_slotOf_32 : decode cX5_slotOf 32 = .ok (.aload_n 0, 1) := by decide +kernel
theorem dX5_slotOf_33 : decode cX5_slotOf 33 = .ok (.getfield 25, 3) := by decide +kernel
theorem dX5_slotOf_36 : decode cX5_slotOf 36 = .ok (.iload 7, 2) := by decide +kernel
theorem dX5_slotOf_38 : decode cX5_slotOf 38 = .ok (.iaload, 1) := by decide +kernel
theorem dX5_slotOf_39 : decode cX5_slotOf 39 = .ok (.iconst 1, 1) := by decide +kernel
theorem dX5_slotOf_40 : decode cX5_slotOf 40 = .ok (.isub, 1) := by decide +kernel
theorem dX5_slotOf_41 : decode cX5_slotOf 41 = .ok (.istore 9, 2) := by decide +kernel
theorem dX5_slotOf_43 : decode cX5_slotOf 43 = .ok (.iload 9, 2) := by decide +kernel
theorem dX5_slotOf_45 : decode cX5_slotOf 45 = .ok (.ifCond .lt 27, 3) := by decide +kernel
theorem dX5_slotOf_48 : decode cX5_slotOf 48 = .ok (.aload_n 0, 1) := by decide +kernel
theorem dX5_slotOf_49 : decode cX5_slotOf 49 = .ok (.getfield 18, 3) := by decide +kernel
theorem dX5_slotOf_52 : decode cX5_slotOf 52 = .ok (.iload 9, 2) := by decide +kernel
theorem dX5_slotOf_54 : decode cX5_slotOf 54 = .ok (.laload, 1) := by decide +kernel
theorem dX5_slotOf_55 : decode cX5_slotOf 55 = .ok (.lload_n 1, 1) := by decide +kernel
theorem dX5_slotOf_56 : decode cX5_slotOf 56 = .ok (.lcmp, 1) := by decide +kernel
theorem dX5_slotOf_57 : decode cX5_slotOf 57 = .ok (.ifCond .ne 18, 3) := by decide +kernel
theorem dX5_slotOf_60 : decode cX5_slotOf 60 = .ok (.aload_n 0, 1) := by decide +kernel
theorem dX5_slotOf_61 : decode cX5_slotOf 61 = .ok (.getfield 22, 3) := by decide +kernel
theorem dX5_slotOf_64 : decode cX5_slotOf 64 = .ok (.iload 9, 2) := by decide +kernel
theorem dX5_slotOf_66 : decode cX5_slotOf 66 = .ok (.laload, 1) := by decide +kernel
theorem dX5_slotOf_67 : decode cX5_slotOf 67 = .ok (.lload_n 3, 1) := by decide +kernel
theorem dX5_slotOf_68 : decode cX5_slotOf 68 = .ok (.lcmp, 1) := by decide +kernel
theorem dX5_slotOf_69 : decode cX5_slotOf 69 = .ok (.ifCond .ne 6, 3) := by decide +kernel
theorem dX5_slotOf_72 : decode cX5_slotOf 72 = .ok (.iload 7, 2) := by decide +kernel
theorem dX5_slotOf_74 : decode cX5_slotOf 74 = .ok (.ireturn, 1) := by decide +kernel
theorem dX5_slotOf_75 : decode cX5_slotOf 75 = .ok (.iload 7, 2) := by decide +kernel
theorem dX5_slotOf_77 : decode cX5_slotOf 77 = .ok (.iconst 1, 1) := by decide +kernel
theorem dX5_slotOf_78 : decode cX5_slotOf 78 = .ok (.iadd, 1) := by decide +kernel
theorem dX5_slotOf_79 : decode cX5_slotOf 79 = .ok (.sipush 16383, 3) := by decide +kernel
theorem dX5_slotOf_82 : decode cX5_slotOf 82 = .ok (.iand, 1) := by decide +kernel
theorem dX5_slotOf_83 : decode cX5_slotOf 83 = .ok (.istore 7, 2) := by decide +kernel
theorem dX5_slotOf_85 : decode cX5_slotOf 85 = .ok (.iinc 8 1, 3) := by decide +kernel
theorem dX5_slotOf_88 : decode cX5_slotOf 88 = .ok (.goto (-64), 3) := by decide +kernel
theorem dX5_slotOf_91 : decode cX5_slotOf 91 = .ok (.iload 7, 2) := by decide +kernel
theorem dX5_slotOf_93 : decode cX5_slotOf 93 = .ok (.ireturn, 1) := by decide +kernel
set_option maxRecDepth 20000 in
theorem mc_X5_after_X5_after_r1 : mjIn wsX5_after wsX5_after_r1 := fun w h => (List.mem_cons_of_mem _ (List.mem_append_left _ (List.mem_append_left _ h)))
set_option maxRecDepth 20000 in
theorem mc_X5_after_X50 : mjIn wsX5_after wsX50 := fun w h => (List.mem_cons_of_mem _ (List.mem_append_right _ h))
set_option maxRecDepth 20000 in
theorem ggX5_after_X5_lowAfter : GoodIn wsX5_after wsX5_lowAfter := mj_good (mj_cons (mc_X5_after_X5_after_r1 _ (List.mem_of_getElem? (i := 5) rfl)) (mj_app (mj_cons (mc_X5_after_X5_after_r1 _ (List.mem_of_getElem? (i := 6) rfl)) (mj_cons (mc_X5_after_X5_after_r1 _ (List.mem_of_getElem? (i := 7) rfl)) (mj_cons (mc_X5_after_X5_after_r1 _ (List.mem_of_getElem? (i := 8) rfl)) (mj_cons (mc_X5_after_X5_after_r1 _ (List.mem_of_getElem? (i := 9) rfl)) (mj_cons (mc_X5_after_X5_after_r1 _ (List.mem_of_getElem? (i := 10) rfl)) (mj_cons (mc_X5_after_X5_after_r1 _ (List.mem_of_getElem? (i := 11) rfl)) (mj_cons (mc_X5_after_X5_after_r1 _ (List.mem_of_getElem? (i := 12) rfl)) (mj_cons (mc_X5_after_X5_after_r1 _ (List.mem_of_getElem? (i := 13) rfl)) (mj_cons (mc_X5_after_X5_after_r1 _ (List.mem_of_getElem? (i := 14) rfl)) (mj_cons (mc_X5_after_X5_after_r1 _ (List.mem_of_getElem? (i := 15) rfl)) (mj_cons (mc_X5_after_X5_after_r1 _ (List.mem_of_getElem? (i := 4) rfl)) (mj_cons (mc_X5_after_X5_after_r1 _ (List.mem_of_getElem? (i := 16) rfl)) mj_nil)))))))))))) mc_X5_after_X50)) (by decide +kernel)
set_option maxRecDepth 20000 in
theorem gX5_after_X5_lowAfter : GoodIn wsX5_after (wsV RX5 66 RX5 yX5_lowAfter wsX5_lowAfter) := goodIn_app (mj_good (mj_cons (mc_X5_after_X5_after_r1 _ (List.mem_of_getElem? (i := 1) rfl)) (mj_cons (mc_X5_after_X5_after_r1 _ (List.mem_of_getElem? (i := 2) rfl)) (mj_cons (mc_X5_after_X5_after_r1 _ (List.mem_of_getElem? (i := 3) rfl)) (mj_cons (mc_X5_after_X5_after_r1 _ (List.mem_of_getElem? (i := 4) rfl)) mj_nil)))) (by decide +kernel)) ggX5_after_X5_lowAfter
set_option maxRecDepth 20000 in
theorem mc_X5_after_X5_after_r2 : mjIn wsX5_after wsX5_after_r2 := fun w h => (List.mem_cons_of_mem _ (List.mem_append_left _ (List.mem_append_right _ h)))
set_option maxRecDepth 20000 in
theorem ggX5_after_X5_highAfter : GoodIn wsX5_after wsX5_highAfter := mj_good (mj_cons (mc_X5_after_X5_after_r1 _ (List.mem_of_getElem? (i := 20) rfl)) (mj_app (mj_cons (mc_X5_after_X5_after_r1 _ (List.mem_of_getElem? (i := 21) rfl)) (mj_cons (mc_X5_after_X5_after_r1 _ (List.mem_of_getElem? (i := 7) rfl)) (mj_cons (mc_X5_after_X5_after_r1 _ (List.mem_of_getElem? (i := 8) rfl)) (mj_cons (mc_X5_after_X5_after_r1 _ (List.mem_of_getElem? (i := 9) rfl)) (mj_cons (mc_X5_after_X5_after_r1 _ (List.mem_of_getElem? (i := 10) rfl)) (mj_cons (mc_X5_after_X5_after_r1 _ (List.mem_of_getElem? (i := 11) rfl)) (mj_cons (mc_X5_after_X5_after_r1 _ (List.mem_of_getElem? (i := 12) rfl)) (mj_cons (mc_X5_after_X5_after_r1 _ (List.mem_of_getElem? (i := 13) rfl)) (mj_cons (mc_X5_after_X5_after_r1 _ (List.mem_of_getElem? (i := 22) rfl)) (mj_cons (mc_X5_after_X5_after_r1 _ (List.mem_of_getElem? (i := 23) rfl)) (mj_cons (mc_X5_after_X5_after_r1 _ (List.mem_of_getElem? (i := 4) rfl)) (mj_cons (mc_X5_after_X5_after_r2 _ (List.mem_of_getElem? (i := 0) rfl)) mj_nil)))))))))))) mc_X5_after_X50)) (by decide +kernel)
set_option maxRecDepth 20000 in
theorem gX5_after_X5_highAfter : GoodIn wsX5_after (wsV RX5 70 RX5 yX5_highAfter wsX5_highAfter) := goodIn_app (mj_good (mj_cons (mc_X5_after_X5_after_r1 _ (List.mem_of_getElem? (i := 17) rfl)) (mj_cons (mc_X5_after_X5_after_r1 _ (List.mem_of_getElem? (i := 18) rfl)) (mj_cons (mc_X5_after_X5_after_r1 _ (List.mem_of_getElem? (i := 19) rfl)) (mj_cons (mc_X5_after_X5_after_r1 _ (List.mem_of_getElem? (i := 4) rfl)) mj_nil)))) (by decide +kernel)) ggX5_after_X5_highAfter
set_option maxRecDepth 20000 in
theorem ggX5_after_X5_slotOf : GoodIn wsX5_after wsX5_slotOf := mj_good (mj_cons (mc_X5_after_X5_after_r2 _ (List.mem_of_getElem? (i := 4) rfl)) (mj_app (mj_cons (mc_X5_after_X5_after_r2 _ (List.mem_of_getElem? (i := 5) rfl)) (mj_cons (mc_X5_after_X5_after_r2 _ (List.mem_of_getElem? (i := 6) rfl)) (mj_cons (mc_X5_after_X5_after_r1 _ (List.mem_of_getElem? (i := 0) rfl)) (mj_cons (mc_X5_after_X5_after_r1 _ (List.mem_of_getElem? (i := 6) rfl)) (mj_cons (mc_X5_after_X5_after_r1 _ (List.mem_of_getElem? (i := 21) rfl)) mj_nil))))) mc_X5_after_X50)) (by decide +kernel)
set_option maxRecDepth 20000 in
theorem gX5_after_X5_slotOf : GoodIn wsX5_after (wsV RX5 89 RX5 yX5_slotOf wsX5_slotOf) := goodIn_app (mj_good (mj_cons (mc_X5_after_X5_after_r2 _ (List.mem_of_getElem? (i := 1) rfl)) (mj_cons (mc_X5_after_X5_after_r2 _ (List.mem_of_getElem? (i := 2) rfl)) (mj_cons (mc_X5_after_X5_after_r2 _ (List.mem_of_getElem? (i := 3) rfl)) (mj_cons (mc_X5_after_X5_after_r1 _ (List.mem_of_getElem? (i := 4) rfl)) mj_nil)))) (by decide +kernel)) ggX5_after_X5_slotOf
theorem dX5_after_0 : decode cX5_after 0 = .ok (.aload_n 0, 1) := by decide +kernel
theorem dX5_after_1 : decode cX5_after 1 = .ok (.getfield 25, 3) := by decide +kernel
theorem dX5_after_4 : decode cX5_after 4 = .ok (.aload_n 0, 1) := by decide +kernel
theorem dX5_after_5 : decode cX5_after 5 = .ok (.aload_n 0, 1) := by decide +kernel
theorem dX5_after_6 : decode cX5_after 6 = .ok (.iload_n 1, 1) := by decide +kernel
theorem dX5_after_7 : decode cX5_after 7 = .ok (.iload_n 2, 1) := by decide +kernel
theorem dX5_after_8 : decode cX5_after 8 = .ok (.invokevirtual 66, 3) := by decide +kernel
theorem dX5_after_11 : decode cX5_after 11 = .ok (.aload_n 0, 1) := by decide +kernel
theorem dX5_after_12 : decode cX5_after 12 = .ok (.iload_n 1, 1) := by decide +kernel
theorem dX5_after_13 : decode cX5_after 13 = .ok (.iload_n 2, 1) := by decide +kernel
theorem dX5_after_14 : decode cX5_after 14 = .ok (.invokevirtual 70, 3) := by decide +kernel
theorem dX5_after_17 : decode cX5_after 17 = .ok (.invokevirtual 89, 3) := by decide +kernel
theorem dX5_after_20 : decode cX5_after 20 = .ok (.iaload, 1) := by decide +kernel
theorem dX5_after_21 : decode cX5_after 21 = .ok (.iconst 1, 1) := by decide +kernel
theorem dX5_after_22 : decode cX5_after 22 = .ok (.isub, 1) := by decide +kernel
theorem dX5_after_23 : decode cX5_after 23 = .ok (.ireturn, 1) := by decide +kernel
set_option maxRecDepth 20000 in
theorem mc_X5_layOut_X00 : mjIn wsX5_layOut wsX00 := fun w h => (List.mem_cons_of_mem _ (List.mem_append_right _ h))
set_option maxRecDepth 20000 in
theorem ggX5_layOut_X0_fieldsOf : GoodIn wsX5_layOut wsX0_fieldsOf := mj_good (mj_cons (List.mem_of_getElem? (i := 12) rfl) (mj_app (mj_cons (List.mem_of_getElem? (i := 13) rfl) (mj_cons (List.mem_of_getElem? (i := 14) rfl) mj_nil)) mc_X5_layOut_X00)) (by decide +kernel)
set_option maxRecDepth 20000 in
theorem gX5_layOut_X0_fieldsOf : GoodIn wsX5_layOut (wsV RX5 116 RX0 yX0_fieldsOf wsX0_fieldsOf) := goodIn_app (mj_good (mj_cons (List.mem_of_getElem? (i := 8) rfl) (mj_cons (List.mem_of_getElem? (i := 9) rfl) (mj_cons (List.mem_of_getElem? (i := 10) rfl) (mj_cons (List.mem_of_getElem? (i := 11) rfl) mj_nil)))) (by decide +kernel)) ggX5_layOut_X0_fieldsOf
theorem dX5_layOut_0 : decode cX5_layOut 0 = .ok (.iload_n 1, 1) := by decide +kernel
theorem dX5_layOut_1 : decode cX5_layOut 1 = .ok (.ifCond .lt 11, 3) := by decide +kernel
theorem dX5_layOut_4 : decode cX5_layOut 4 = .ok (.iload_n 1, 1) := by decide +kernel
theorem dX5_layOut_5 : decode cX5_layOut 5 = .ok (.aload_n 0, 1) := by decide +kernel
theorem dX5_layOut_6 : decode cX5_layOut 6 = .ok (.getfield 54, 3) := by decide +kernel
theorem dX5_layOut_9 : decode cX5_layOut 9 = .ok (.if_icmp .lt 4, 3) := by decide +kernel
theorem dX5_layOut_12 : decode cX5_layOut 12 = .ok (.return_, 1) := by decide +kernel
theorem dX5_layOut_13 : decode cX5_layOut 13 = .ok (.aload_n 2, 1) := by decide +kernel
theorem dX5_layOut_14 : decode cX5_layOut 14 = .ok (.lconst 0, 1) := by decide +kernel
theorem dX5_layOut_15 : decode cX5_layOut 15 = .ok (.putfield 110, 3) := by decide +kernel
theorem dX5_layOut_18 : decode cX5_layOut 18 = .ok (.iconst 0, 1) := by decide +kernel
theorem dX5_layOut_19 : decode cX5_layOut 19 = .ok (.istore_n 3, 1) := by decide +kernel
theorem dX5_layOut_20 : decode cX5_layOut 20 = .ok (.iload_n 3, 1) := by decide +kernel
theorem dX5_layOut_21 : decode cX5_layOut 21 = .ok (.aload_n 2, 1) := by decide +kernel
theorem dX5_layOut_22 : decode cX5_layOut 22 = .ok (.getfield 77, 3) := by decide +kernel
theorem dX5_layOut_25 : decode cX5_layOut 25 = .ok (.if_icmp .ge 72, 3) := by decide +kernel
theorem dX5_layOut_28 : decode cX5_layOut 28 = .ok (.iload_n 3, 1) := by decide +kernel
theorem dX5_layOut_29 : decode cX5_layOut 29 = .ok (.bipush 6, 2) := by decide +kernel
theorem dX5_layOut_31 : decode cX5_layOut 31 = .ok (.if_icmp .ge 17, 3) := by decide +kernel
theorem dX5_layOut_34 : decode cX5_layOut 34 = .ok (.aload_n 0, 1) := by decide +kernel
theorem dX5_layOut_35 : decode cX5_layOut 35 = .ok (.getfield 18, 3) := by decide +kernel
theorem dX5_layOut_38 : decode cX5_layOut 38 = .ok (.iload_n 1, 1) := by decide +kernel
theorem dX5_layOut_39 : decode cX5_layOut 39 = .ok (.laload, 1) := by decide +kernel
theorem dX5_layOut_40 : decode cX5_layOut 40 = .ok (.bipush 6, 2) := by decide +kernel
theorem dX5_layOut_42 : decode cX5_layOut 42 = .ok (.iload_n 3, 1) := by decide +kernel
theorem dX5_layOut_43 : decode cX5_layOut 43 = .ok (.imul, 1) := by decide +kernel
theorem dX5_layOut_44 : decode cX5_layOut 44 = .ok (.lushr, 1) := by decide +kernel
theorem dX5_layOut_45 : decode cX5_layOut 45 = .ok (.goto 17, 3) := by decide +kernel
theorem dX5_layOut_48 : decode cX5_layOut 48 = .ok (.aload_n 0, 1) := by decide +kernel
theorem dX5_layOut_49 : decode cX5_layOut 49 = .ok (.getfield 22, 3) := by decide +kernel
theorem dX5_layOut_52 : decode cX5_layOut 52 = .ok (.iload_n 1, 1) := by decide +kernel
theorem dX5_layOut_53 : decode cX5_layOut 53 = .ok (.laload, 1) := by decide +kernel
theorem dX5_layOut_54 : decode cX5_layOut 54 = .ok (.bipush 6, 2) := by decide +kernel
theorem dX5_layOut_56 : decode cX5_layOut 56 = .ok (.iload_n 3, 1) := by decide +kernel
theorem dX5_layOut_57 : decode cX5_layOut 57 = .ok (.bipush 6, 2) := by decide +kernel
theorem dX5_layOut_59 : decode cX5_layOut 59 = .ok (.isub, 1) := by decide +kernel
theorem dX5_layOut_60 : decode cX5_layOut 60 = .ok (.imul, 1) := by decide +kernel
theorem dX5_layOut_61 : decode cX5_layOut 61 = .ok (.lushr, 1) := by decide +kernel
theorem dX5_layOut_62 : decode cX5_layOut 62 = .ok (.lstore 4, 2) := by decide +kernel
theorem dX5_layOut_64 : decode cX5_layOut 64 = .ok (.aload_n 2, 1) := by decide +kernel
theorem dX5_layOut_65 : decode cX5_layOut 65 = .ok (.getfield 80, 3) := by decide +kernel
theorem dX5_layOut_68 : decode cX5_layOut 68 = .ok (.iload_n 3, 1) := by decide +kernel
theorem dX5_layOut_69 : decode cX5_layOut 69 = .ok (.lload 4, 2) := by decide +kernel
theorem dX5_layOut_71 : decode cX5_layOut 71 = .ok (.ldc2_w 114, 3) := by decide +kernel
theorem dX5_layOut_74 : decode cX5_layOut 74 = .ok (.land, 1) := by decide +kernel
theorem dX5_layOut_75 : decode cX5_layOut 75 = .ok (.l2i, 1) := by decide +kernel
theorem dX5_layOut_76 : decode cX5_layOut 76 = .ok (.iastore, 1) := by decide +kernel
theorem dX5_layOut_77 : decode cX5_layOut 77 = .ok (.aload_n 2, 1) := by decide +kernel
theorem dX5_layOut_78 : decode cX5_layOut 78 = .ok (.dup, 1) := by decide +kernel
theorem dX5_layOut_79 : decode cX5_layOut 79 = .ok (.getfield 110, 3) := by decide +kernel
theorem dX5_layOut_82 : decode cX5_layOut 82 = .ok (.aload_n 2, 1) := by decide +kernel
theorem dX5_layOut_83 : decode cX5_layOut 83 = .ok (.iload_n 3, 1) := by decide +kernel
theorem dX5_layOut_84 : decode cX5_layOut 84 = .ok (.invokevirtual 116, 3) := by decide +kernel
theorem dX5_layOut_87 : decode cX5_layOut 87 = .ok (.lor, 1) := by decide +kernel
theorem dX5_layOut_88 : decode cX5_layOut 88 = .ok (.putfield 110, 3) := by decide +kernel
theorem dX5_layOut_91 : decode cX5_layOut 91 = .ok (.iinc 3 1, 3) := by decide +kernel
theorem dX5_layOut_94 : decode cX5_layOut 94 = .ok (.goto (-74), 3) := by decide +kernel
theorem dX5_layOut_97 : decode cX5_layOut 97 = .ok (.return_, 1) := by decide +kernel
set_option maxRecDepth 20000 in
theorem mc_X5_listMoves_X5_listMoves_r1 : mjIn wsX5_listMoves wsX5_listMoves_r1 := fun w h => (List.mem_cons_of_mem _ (List.mem_append_left _ (List.mem_append_left _ (List.mem_append_left _ h))))
set_option maxRecDepth 20000 in
theorem mc_X5_listMoves_X5_listMoves_r2 : mjIn wsX5_listMoves wsX5_listMoves_r2 := fun w h => (List.mem_cons_of_mem _ (List.mem_append_left _ (List.mem_append_left _ (List.mem_append_right _ (List.mem_append_left _ h)))))
set_option maxRecDepth 20000 in
theorem mc_X5_listMoves_X50 : mjIn wsX5_listMoves wsX50 := fun w h => (List.mem_cons_of_mem _ (List.mem_append_left _ (List.mem_append_right _ h)))
set_option maxRecDepth 20000 in
theorem mc_X5_listMoves_X00 : mjIn wsX5_listMoves wsX00 := fun w h => (List.mem_cons_of_mem _ (List.mem_append_right _ h))
set_option maxRecDepth 20000 in
theorem ggX5_listMoves_X5_layOut : GoodIn wsX5_listMoves wsX5_layOut := mj_good (mj_cons (mc_X5_listMoves_X5_listMoves_r1 _ (List.mem_of_getElem? (i := 11) rfl)) (mj_app (mj_app (mj_cons (mc_X5_listMoves_X5_listMoves_r1 _ (List.mem_of_getElem? (i := 12) rfl)) (mj_cons (mc_X5_listMoves_X5_listMoves_r1 _ (List.mem_of_getElem? (i := 13) rfl)) (mj_cons (mc_X5_listMoves_X5_listMoves_r1 _ (List.mem_of_getElem? (i := 1) rfl)) (mj_cons (mc_X5_listMoves_X5_listMoves_r1 _ (List.mem_of_getElem? (i := 14) rfl)) (mj_cons (mc_X5_listMoves_X5_listMoves_r1 _ (List.mem_of_getElem? (i := 15) rfl)) (mj_cons (mc_X5_listMoves_X5_listMoves_r1 _ (List.mem_of_getElem? (i := 16) rfl)) (mj_cons (mc_X5_listMoves_X5_listMoves_r1 _ (List.mem_of_getElem? (i := 17) rfl)) (mj_cons (mc_X5_listMoves_X5_listMoves_r1 _ (List.mem_of_getElem? (i := 18) rfl)) (mj_cons (mc_X5_listMoves_X5_listMoves_r1 _ (List.mem_of_getElem? (i := 19) rfl)) (mj_cons (mc_X5_listMoves_X5_listMoves_r1 _ (List.mem_of_getElem? (i := 20) rfl)) (mj_cons (mc_X5_listMoves_X5_listMoves_r1 _ (List.mem_of_getElem? (i := 21) rfl)) (mj_cons (mc_X5_listMoves_X5_listMoves_r1 _ (List.mem_of_getElem? (i := 22) rfl)) (mj_cons (mc_X5_listMoves_X5_listMoves_r1 _ (List.mem_of_getElem? (i := 23) rfl)) (mj_cons (mc_X5_listMoves_X5_listMoves_r2 _ (List.mem_of_getElem? (i := 0) rfl)) mj_nil)))))))))))))) mc_X5_listMoves_X50) mc_X5_listMoves_X00)) (by decide +kernel)
set_option maxRecDepth 20000 in
theorem gX5_listMoves_X5_layOut : GoodIn wsX5_listMoves (wsV RX5 120 RX5 yX5_layOut wsX5_layOut) := goodIn_app (mj_good (mj_cons (mc_X5_listMoves_X5_listMoves_r1 _ (List.mem_of_getElem? (i := 7) rfl)) (mj_cons (mc_X5_listMoves_X5_listMoves_r1 _ (List.mem_of_getElem? (i := 8) rfl)) (mj_cons (mc_X5_listMoves_X5_listMoves_r1 _ (List.mem_of_getElem? (i := 9) rfl)) (mj_cons (mc_X5_listMoves_X5_listMoves_r1 _ (List.mem_of_getElem? (i := 10) rfl)) mj_nil)))) (by decide +kernel)) ggX5_listMoves_X5_layOut
set_option maxRecDepth 20000 in
theorem mc_X5_listMoves_X5_listMoves_r3 : mjIn wsX5_listMoves wsX5_listMoves_r3 := fun w h => (List.mem_cons_of_mem _ (List.mem_append_left _ (List.mem_append_left _ (List.mem_append_right _ (List.mem_append_right _ h)))))
set_option maxRecDepth 20000 in
theorem ggX5_listMoves_X0_stepsFrom : GoodIn wsX5_listMoves wsX0_stepsFrom := mj_good (mj_cons (mc_X5_listMoves_X5_listMoves_r2 _ (List.mem_of_getElem? (i := 4) rfl)) (mj_app (mj_app (mj_cons (mc_X5_listMoves_X5_listMoves_r2 _ (List.mem_of_getElem? (i := 0) rfl)) (mj_cons (mc_X5_listMoves_X5_listMoves_r2 _ (List.mem_of_getElem? (i := 5) rfl)) (mj_cons (mc_X5_listMoves_X5_listMoves_r2 _ (List.mem_of_getElem? (i := 6) rfl)) (mj_cons (mc_X5_listMoves_X5_listMoves_r2 _ (List.mem_of_getElem? (i := 7) rfl)) (mj_cons (mc_X5_listMoves_X5_listMoves_r1 _ (List.mem_of_getElem? (i := 21) rfl)) (mj_cons (mc_X5_listMoves_X5_listMoves_r2 _ (List.mem_of_getElem? (i := 8) rfl)) (mj_cons (mc_X5_listMoves_X5_listMoves_r2 _ (List.mem_of_getElem? (i := 9) rfl)) (mj_cons (mc_X5_listMoves_X5_listMoves_r2 _ (List.mem_of_getElem? (i := 10) rfl)) (mj_cons (mc_X5_listMoves_X5_listMoves_r2 _ (List.mem_of_getElem? (i := 11) rfl)) (mj_cons (mc_X5_listMoves_X5_listMoves_r2 _ (List.mem_of_getElem? (i := 12) rfl)) (mj_cons (mc_X5_listMoves_X5_listMoves_r1 _ (List.mem_of_getElem? (i := 23) rfl)) (mj_cons (mc_X5_listMoves_X5_listMoves_r2 _ (List.mem_of_getElem? (i := 13) rfl)) (mj_cons (mc_X5_listMoves_X5_listMoves_r2 _ (List.mem_of_getElem? (i := 14) rfl)) (mj_cons (mc_X5_listMoves_X5_listMoves_r2 _ (List.mem_of_getElem? (i := 15) rfl)) (mj_cons (mc_X5_listMoves_X5_listMoves_r2 _ (List.mem_of_getElem? (i := 16) rfl)) (mj_cons (mc_X5_listMoves_X5_listMoves_r2 _ (List.mem_of_getElem? (i := 17) rfl)) (mj_cons (mc_X5_listMoves_X5_listMoves_r2 _ (List.mem_of_getElem? (i := 18) rfl)) (mj_cons (mc_X5_listMoves_X5_listMoves_r2 _ (List.mem_of_getElem? (i := 19) rfl)) (mj_cons (mc_X5_listMoves_X5_listMoves_r2 _ (List.mem_of_getElem? (i := 20) rfl)) (mj_cons (mc_X5_listMoves_X5_listMoves_r2 _ (List.mem_of_getElem? (i := 21) rfl)) (mj_cons (mc_X5_listMoves_X5_listMoves_r2 _ (List.mem_of_getElem? (i := 22) rfl)) (mj_cons (mc_X5_listMoves_X5_listMoves_r2 _ (List.mem_of_getElem? (i := 23) rfl)) (mj_cons (mc_X5_listMoves_X5_listMoves_r3 _ (List.mem_of_getElem? (i := 0) rfl)) (mj_cons (mc_X5_listMoves_X5_listMoves_r3 _ (List.mem_of_getElem? (i := 1) rfl)) mj_nil)))))))))))))))))))))))) (mj_cons (mc_X5_listMoves_X5_listMoves_r1 _ (List.mem_of_getElem? (i := 19) rfl)) (mj_cons (mc_X5_listMoves_X5_listMoves_r1 _ (List.mem_of_getElem? (i := 20) rfl)) (mj_cons (mc_X5_listMoves_X5_listMoves_r1 _ (List.mem_of_getElem? (i := 22) rfl)) (mj_cons (mc_X5_listMoves_X5_listMoves_r3 _ (List.mem_of_getElem? (i := 2) rfl)) (mj_cons (mc_X5_listMoves_X5_listMoves_r3 _ (List.mem_of_getElem? (i := 3) rfl)) (mj_cons (mc_X5_listMoves_X5_listMoves_r3 _ (List.mem_of_getElem? (i := 4) rfl)) mj_nil))))))) mc_X5_listMoves_X00)) (by decide +kernel)
set_option maxRecDepth 20000 in
theorem gX5_listMoves_X0_stepsFrom : GoodIn wsX5_listMoves (wsV RX5 124 RX0 yX0_stepsFrom wsX0_stepsFrom) := goodIn_app (mj_good (mj_cons (mc_X5_listMoves_X5_listMoves_r2 _ (List.mem_of_getElem? (i := 1) rfl)) (mj_cons (mc_X5_listMoves_X5_listMoves_r2 _ (List.mem_of_getElem? (i := 2) rfl)) (mj_cons (mc_X5_listMoves_X5_listMoves_r2 _ (List.mem_of_getElem? (i := 3) rfl)) (mj_cons (mc_X5_listMoves_X5_listMoves_r1 _ (List.mem_of_getElem? (i := 21) rfl)) mj_nil)))) (by decide +kernel)) ggX5_listMoves_X0_stepsFrom
set_option maxRecDepth 20000 in
theorem ggX5_listMoves_X6_moveOf : GoodIn wsX5_listMoves wsX6_moveOf := mj_good (mj_cons (mc_X5_listMoves_X5_listMoves_r3 _ (List.mem_of_getElem? (i := 6) rfl)) mj_nil) (by decide +kernel)
set_option maxRecDepth 20000 in
theorem gX5_listMoves_X6_moveOf_n133 : GoodIn wsX5_listMoves (wsX6_moveOf) := ggX5_listMoves_X6_moveOf
theorem dX5_listMoves_0 : decode cX5_listMoves 0 = .ok (.aload_n 0, 1) := by decide +kernel
theorem dX5_listMoves_1 : decode cX5_listMoves 1 = .ok (.iload_n 1, 1) := by decide +kernel
theorem dX5_listMoves_2 : decode cX5_listMoves 2 = .ok (.aload_n 0, 1) := by decide +kernel
theorem dX5_listMoves_3 : decode cX5_listMoves 3 = .ok (.getfield 12, 3) := by decide +kernel
theorem dX5_listMoves_6 : decode cX5_listMoves 6 = .ok (.invokevirtual 120, 3) := by decide +kernel
theorem dX5_listMoves_9 : decode cX5_listMoves 9 = .ok (.iconst 0, 1) := by decide +kernel
theorem dX5_listMoves_10 : decode cX5_listMoves 10 = .ok (.istore 4, 2) := by decide +kernel
theorem dX5_listMoves_12 : decode cX5_listMoves 12 = .ok (.iconst 0, 1) := by decide +kernel
theorem dX5_listMoves_13 : decode cX5_listMoves 13 = .ok (.istore 5, 2) := by decide +kernel
theorem dX5_listMoves_15 : decode cX5_listMoves 15 = .ok (.iload 5, 2) := by decide +kernel
theorem dX5_listMoves_17 : decode cX5_listMoves 17 = .ok (.aload_n 0, 1) := by decide +kernel
theorem dX5_listMoves_18 : decode cX5_listMoves 18 = .ok (.getfield 12, 3) := by decide +kernel
theorem dX5_listMoves_21 : decode cX5_listMoves 21 = .ok (.getfield 77, 3) := by decide +kernel
theorem dX5_listMoves_24 : decode cX5_listMoves 24 = .ok (.if_icmp .ge 77, 3) := by decide +kernel
theorem dX5_listMoves_27 : decode cX5_listMoves 27 = .ok (.iconst 0, 1) := by decide +kernel
theorem dX5_listMoves_28 : decode cX5_listMoves 28 = .ok (.istore 6, 2) := by decide +kernel
theorem dX5_listMoves_30 : decode cX5_listMoves 30 = .ok (.iload 6, 2) := by decide +kernel
theorem dX5_listMoves_32 : decode cX5_listMoves 32 = .ok (.iconst 4, 1) := by decide +kernel
theorem dX5_listMoves_33 : decode cX5_listMoves 33 = .ok (.if_icmp .ge 62, 3) := by decide +kernel
theorem dX5_listMoves_36 : decode cX5_listMoves 36 = .ok (.iload_n 2, 1) := by decide +kernel
theorem dX5_listMoves_37 : decode cX5_listMoves 37 = .ok (.aload_n 0, 1) := by decide +kernel
theorem dX5_listMoves_38 : decode cX5_listMoves 38 = .ok (.getfield 12, 3) := by decide +kernel
theorem dX5_listMoves_41 : decode cX5_listMoves 41 = .ok (.iload 5, 2) := by decide +kernel
theorem dX5_listMoves_43 : decode cX5_listMoves 43 = .ok (.iload 6, 2) := by decide +kernel
theorem dX5_listMoves_45 : decode cX5_listMoves 45 = .ok (.iload_n 3, 1) := by decide +kernel
theorem dX5_listMoves_46 : decode cX5_listMoves 46 = .ok (.invokevirtual 124, 3) := by decide +kernel
theorem dX5_listMoves_49 : decode cX5_listMoves 49 = .ok (.invokestatic 127, 3) := by decide +kernel
theorem dX5_listMoves_52 : decode cX5_listMoves 52 = .ok (.istore 7, 2) := by decide +kernel
theorem dX5_listMoves_54 : decode cX5_listMoves 54 = .ok (.iconst 1, 1) := by decide +kernel
theorem dX5_listMoves_55 : decode cX5_listMoves 55 = .ok (.istore 8, 2) := by decide +kernel
theorem dX5_listMoves_57 : decode cX5_listMoves 57 = .ok (.iload 8, 2) := by decide +kernel
theorem dX5_listMoves_59 : decode cX5_listMoves 59 = .ok (.iload 7, 2) := by decide +kernel
theorem dX5_listMoves_61 : decode cX5_listMoves 61 = .ok (.if_icmp .gt 28, 3) := by decide +kernel
theorem dX5_listMoves_64 : decode cX5_listMoves 64 = .ok (.aload_n 0, 1) := by decide +kernel
theorem dX5_listMoves_65 : decode cX5_listMoves 65 = .ok (.getfield 32, 3) := by decide +kernel
theorem dX5_listMoves_68 : decode cX5_listMoves 68 = .ok (.iload 4, 2) := by decide +kernel
theorem dX5_listMoves_70 : decode cX5_listMoves 70 = .ok (.iload 5, 2) := by decide +kernel
theorem dX5_listMoves_72 : decode cX5_listMoves 72 = .ok (.iload 6, 2) := by decide +kernel
theorem dX5_listMoves_74 : decode cX5_listMoves 74 = .ok (.iload 8, 2) := by decide +kernel
theorem dX5_listMoves_76 : decode cX5_listMoves 76 = .ok (.invokestatic 133, 3) := by decide +kernel
theorem dX5_listMoves_79 : decode cX5_listMoves 79 = .ok (.iastore, 1) := by decide +kernel
theorem dX5_listMoves_80 : decode cX5_listMoves 80 = .ok (.iinc 4 1, 3) := by decide +kernel
theorem dX5_listMoves_83 : decode cX5_listMoves 83 = .ok (.iinc 8 1, 3) := by decide +kernel
theorem dX5_listMoves_86 : decode cX5_listMoves 86 = .ok (.goto (-29), 3) := by decide +kernel
theorem dX5_listMoves_89 : decode cX5_listMoves 89 = .ok (.iinc 6 1, 3) := by decide +kernel
theorem dX5_listMoves_92 : decode cX5_listMoves 92 = .ok (.goto (-62), 3) := by decide +kernel
theorem dX5_listMoves_95 : decode cX5_listMoves 95 = .ok (.iinc 5 1, 3) := by decide +kernel
theorem dX5_listMoves_98 : decode cX5_listMoves 98 = .ok (.goto (-83), 3) := by decide +kernel
theorem dX5_listMoves_101 : decode cX5_listMoves 101 = .ok (.iload 4, 2) := by decide +kernel
theorem dX5_listMoves_103 : decode cX5_listMoves 103 = .ok (.ireturn, 1) := by decide +kernel
set_option maxRecDepth 20000 in
theorem mc_X5_measure_X5_measure_r1 : mjIn wsX5_measure wsX5_measure_r1 := fun w h => (List.mem_cons_of_mem _ (List.mem_append_left _ (List.mem_append_left _ (List.mem_append_left _ h))))
set_option maxRecDepth 20000 in
theorem mc_X5_measure_X50 : mjIn wsX5_measure wsX50 := fun w h => (List.mem_cons_of_mem _ (List.mem_append_left _ (List.mem_append_right _ h)))
set_option maxRecDepth 20000 in
theorem mc_X5_measure_X00 : mjIn wsX5_measure wsX00 := fun w h => (List.mem_cons_of_mem _ (List.mem_append_right _ h))
set_option maxRecDepth 20000 in
theorem ggX5_measure_X5_layOut : GoodIn wsX5_measure wsX5_layOut := mj_good (mj_cons (mc_X5_measure_X5_measure_r1 _ (List.mem_of_getElem? (i := 10) rfl)) (mj_app (mj_app (mj_cons (mc_X5_measure_X5_measure_r1 _ (List.mem_of_getElem? (i := 1) rfl)) (mj_cons (mc_X5_measure_X5_measure_r1 _ (List.mem_of_getElem? (i := 11) rfl)) (mj_cons (mc_X5_measure_X5_measure_r1 _ (List.mem_of_getElem? (i := 12) rfl)) (mj_cons (mc_X5_measure_X5_measure_r1 _ (List.mem_of_getElem? (i := 13) rfl)) (mj_cons (mc_X5_measure_X5_measure_r1 _ (List.mem_of_getElem? (i := 14) rfl)) (mj_cons (mc_X5_measure_X5_measure_r1 _ (List.mem_of_getElem? (i := 15) rfl)) (mj_cons (mc_X5_measure_X5_measure_r1 _ (List.mem_of_getElem? (i := 16) rfl)) (mj_cons (mc_X5_measure_X5_measure_r1 _ (List.mem_of_getElem? (i := 17) rfl)) (mj_cons (mc_X5_measure_X5_measure_r1 _ (List.mem_of_getElem? (i := 18) rfl)) (mj_cons (mc_X5_measure_X5_measure_r1 _ (List.mem_of_getElem? (i := 19) rfl)) (mj_cons (mc_X5_measure_X5_measure_r1 _ (List.mem_of_getElem? (i := 20) rfl)) (mj_cons (mc_X5_measure_X5_measure_r1 _ (List.mem_of_getElem? (i := 21) rfl)) (mj_cons (mc_X5_measure_X5_measure_r1 _ (List.mem_of_getElem? (i := 22) rfl)) (mj_cons (mc_X5_measure_X5_measure_r1 _ (List.mem_of_getElem? (i := 23) rfl)) mj_nil)))))))))))))) mc_X5_measure_X50) mc_X5_measure_X00)) (by decide +kernel)
set_option maxRecDepth 20000 in
theorem gX5_measure_X5_layOut : GoodIn wsX5_measure (wsV RX5 120 RX5 yX5_layOut wsX5_layOut) := goodIn_app (mj_good (mj_cons (mc_X5_measure_X5_measure_r1 _ (List.mem_of_getElem? (i := 6) rfl)) (mj_cons (mc_X5_measure_X5_measure_r1 _ (List.mem_of_getElem? (i := 7) rfl)) (mj_cons (mc_X5_measure_X5_measure_r1 _ (List.mem_of_getElem? (i := 8) rfl)) (mj_cons (mc_X5_measure_X5_measure_r1 _ (List.mem_of_getElem? (i := 9) rfl)) mj_nil)))) (by decide +kernel)) ggX5_measure_X5_layOut
set_option maxRecDepth 20000 in
theorem mc_X5_measure_X5_measure_r2 : mjIn wsX5_measure wsX5_measure_r2 := fun w h => (List.mem_cons_of_mem _ (List.mem_append_left _ (List.mem_append_left _ (List.mem_append_right _ (List.mem_append_left _ h)))))
set_option maxRecDepth 20000 in
theorem ggX5_measure_X0_isFreed : GoodIn wsX5_measure wsX0_isFreed := mj_good (mj_cons (mc_X5_measure_X5_measure_r2 _ (List.mem_of_getElem? (i := 3) rfl)) (mj_app (mj_cons (mc_X5_measure_X5_measure_r2 _ (List.mem_of_getElem? (i := 4) rfl)) (mj_cons (mc_X5_measure_X5_measure_r2 _ (List.mem_of_getElem? (i := 5) rfl)) (mj_cons (mc_X5_measure_X5_measure_r2 _ (List.mem_of_getElem? (i := 6) rfl)) (mj_cons (mc_X5_measure_X5_measure_r2 _ (List.mem_of_getElem? (i := 7) rfl)) (mj_cons (mc_X5_measure_X5_measure_r1 _ (List.mem_of_getElem? (i := 20) rfl)) (mj_cons (mc_X5_measure_X5_measure_r2 _ (List.mem_of_getElem? (i := 8) rfl)) (mj_cons (mc_X5_measure_X5_measure_r2 _ (List.mem_of_getElem? (i := 9) rfl)) (mj_cons (mc_X5_measure_X5_measure_r1 _ (List.mem_of_getElem? (i := 23) rfl)) (mj_cons (mc_X5_measure_X5_measure_r2 _ (List.mem_of_getElem? (i := 10) rfl)) mj_nil))))))))) mc_X5_measure_X00)) (by decide +kernel)
set_option maxRecDepth 20000 in
theorem gX5_measure_X0_isFreed : GoodIn wsX5_measure (wsV RX5 140 RX0 yX0_isFreed wsX0_isFreed) := goodIn_app (mj_good (mj_cons (mc_X5_measure_X5_measure_r2 _ (List.mem_of_getElem? (i := 0) rfl)) (mj_cons (mc_X5_measure_X5_measure_r2 _ (List.mem_of_getElem? (i := 1) rfl)) (mj_cons (mc_X5_measure_X5_measure_r2 _ (List.mem_of_getElem? (i := 2) rfl)) (mj_cons (mc_X5_measure_X5_measure_r1 _ (List.mem_of_getElem? (i := 20) rfl)) mj_nil)))) (by decide +kernel)) ggX5_measure_X0_isFreed
set_option maxRecDepth 20000 in
theorem ggX5_measure_X5_enqueue : GoodIn wsX5_measure wsX5_enqueue := mj_good (mj_cons (mc_X5_measure_X5_measure_r2 _ (List.mem_of_getElem? (i := 14) rfl)) (mj_app (mj_cons (mc_X5_measure_X5_measure_r1 _ (List.mem_of_getElem? (i := 0) rfl)) (mj_cons (mc_X5_measure_X5_measure_r1 _ (List.mem_of_getElem? (i := 3) rfl)) (mj_cons (mc_X5_measure_X5_measure_r1 _ (List.mem_of_getElem? (i := 4) rfl)) mj_nil))) mc_X5_measure_X50)) (by decide +kernel)
set_option maxRecDepth 20000 in
theorem gX5_measure_X5_enqueue : GoodIn wsX5_measure (wsV RX5 144 RX5 yX5_enqueue wsX5_enqueue) := goodIn_app (mj_good (mj_cons (mc_X5_measure_X5_measure_r2 _ (List.mem_of_getElem? (i := 11) rfl)) (mj_cons (mc_X5_measure_X5_measure_r2 _ (List.mem_of_getElem? (i := 12) rfl)) (mj_cons (mc_X5_measure_X5_measure_r2 _ (List.mem_of_getElem? (i := 13) rfl)) (mj_cons (mc_X5_measure_X5_measure_r1 _ (List.mem_of_getElem? (i := 9) rfl)) mj_nil)))) (by decide +kernel)) ggX5_measure_X5_enqueue
set_option maxRecDepth 20000 in
theorem mc_X5_measure_X5_measure_r3 : mjIn wsX5_measure wsX5_measure_r3 := fun w h => (List.mem_cons_of_mem _ (List.mem_append_left _ (List.mem_append_left _ (List.mem_append_right _ (List.mem_append_right _ (List.mem_append_left _ h))))))
set_option maxRecDepth 20000 in
theorem mc_X5_measure_X5_measure_r4 : mjIn wsX5_measure wsX5_measure_r4 := fun w h => (List.mem_cons_of_mem _ (List.mem_append_left _ (List.mem_append_left _ (List.mem_append_right _ (List.mem_append_right _ (List.mem_append_right _ (List.mem_append_left _ h)))))))
set_option maxRecDepth 20000 in
theorem ggX5_measure_X5_listMoves : GoodIn wsX5_measure wsX5_listMoves := mj_good (mj_cons (mc_X5_measure_X5_measure_r2 _ (List.mem_of_getElem? (i := 18) rfl)) (mj_app (mj_app (mj_app (mj_cons (mc_X5_measure_X5_measure_r1 _ (List.mem_of_getElem? (i := 2) rfl)) (mj_cons (mc_X5_measure_X5_measure_r1 _ (List.mem_of_getElem? (i := 12) rfl)) (mj_cons (mc_X5_measure_X5_measure_r2 _ (List.mem_of_getElem? (i := 19) rfl)) (mj_cons (mc_X5_measure_X5_measure_r2 _ (List.mem_of_getElem? (i := 20) rfl)) (mj_cons (mc_X5_measure_X5_measure_r2 _ (List.mem_of_getElem? (i := 21) rfl)) (mj_cons (mc_X5_measure_X5_measure_r2 _ (List.mem_of_getElem? (i := 22) rfl)) (mj_cons (mc_X5_measure_X5_measure_r1 _ (List.mem_of_getElem? (i := 5) rfl)) (mj_cons (mc_X5_measure_X5_measure_r1 _ (List.mem_of_getElem? (i := 6) rfl)) (mj_cons (mc_X5_measure_X5_measure_r1 _ (List.mem_of_getElem? (i := 7) rfl)) (mj_cons (mc_X5_measure_X5_measure_r1 _ (List.mem_of_getElem? (i := 8) rfl)) (mj_cons (mc_X5_measure_X5_measure_r1 _ (List.mem_of_getElem? (i := 9) rfl)) (mj_cons (mc_X5_measure_X5_measure_r1 _ (List.mem_of_getElem? (i := 10) rfl)) (mj_cons (mc_X5_measure_X5_measure_r1 _ (List.mem_of_getElem? (i := 1) rfl)) (mj_cons (mc_X5_measure_X5_measure_r1 _ (List.mem_of_getElem? (i := 11) rfl)) (mj_cons (mc_X5_measure_X5_measure_r1 _ (List.mem_of_getElem? (i := 13) rfl)) (mj_cons (mc_X5_measure_X5_measure_r1 _ (List.mem_of_getElem? (i := 14) rfl)) (mj_cons (mc_X5_measure_X5_measure_r1 _ (List.mem_of_getElem? (i := 15) rfl)) (mj_cons (mc_X5_measure_X5_measure_r1 _ (List.mem_of_getElem? (i := 16) rfl)) (mj_cons (mc_X5_measure_X5_measure_r1 _ (List.mem_of_getElem? (i := 17) rfl)) (mj_cons (mc_X5_measure_X5_measure_r1 _ (List.mem_of_getElem? (i := 18) rfl)) (mj_cons (mc_X5_measure_X5_measure_r1 _ (List.mem_of_getElem? (i := 19) rfl)) (mj_cons (mc_X5_measure_X5_measure_r1 _ (List.mem_of_getElem? (i := 20) rfl)) (mj_cons (mc_X5_measure_X5_measure_r1 _ (List.mem_of_getElem? (i := 21) rfl)) (mj_cons (mc_X5_measure_X5_measure_r1 _ (List.mem_of_getElem? (i := 22) rfl)) mj_nil)))))))))))))))))))))))) (mj_app (mj_cons (mc_X5_measure_X5_measure_r1 _ (List.mem_of_getElem? (i := 23) rfl)) (mj_cons (mc_X5_measure_X5_measure_r2 _ (List.mem_of_getElem? (i := 23) rfl)) (mj_cons (mc_X5_measure_X5_measure_r3 _ (List.mem_of_getElem? (i := 0) rfl)) (mj_cons (mc_X5_measure_X5_measure_r3 _ (List.mem_of_getElem? (i := 1) rfl)) (mj_cons (mc_X5_measure_X5_measure_r3 _ (List.mem_of_getElem? (i := 2) rfl)) (mj_cons (mc_X5_measure_X5_measure_r3 _ (List.mem_of_getElem? (i := 3) rfl)) (mj_cons (mc_X5_measure_X5_measure_r3 _ (List.mem_of_getElem? (i := 4) rfl)) (mj_cons (mc_X5_measure_X5_measure_r3 _ (List.mem_of_getElem? (i := 5) rfl)) (mj_cons (mc_X5_measure_X5_measure_r3 _ (List.mem_of_getElem? (i := 6) rfl)) (mj_cons (mc_X5_measure_X5_measure_r2 _ (List.mem_of_getElem? (i := 9) rfl)) (mj_cons (mc_X5_measure_X5_measure_r3 _ (List.mem_of_getElem? (i := 7) rfl)) (mj_cons (mc_X5_measure_X5_measure_r3 _ (List.mem_of_getElem? (i := 8) rfl)) (mj_cons (mc_X5_measure_X5_measure_r3 _ (List.mem_of_getElem? (i := 9) rfl)) (mj_cons (mc_X5_measure_X5_measure_r3 _ (List.mem_of_getElem? (i := 10) rfl)) (mj_cons (mc_X5_measure_X5_measure_r3 _ (List.mem_of_getElem? (i := 11) rfl)) (mj_cons (mc_X5_measure_X5_measure_r3 _ (List.mem_of_getElem? (i := 12) rfl)) (mj_cons (mc_X5_measure_X5_measure_r3 _ (List.mem_of_getElem? (i := 13) rfl)) (mj_cons (mc_X5_measure_X5_measure_r3 _ (List.mem_of_getElem? (i := 14) rfl)) (mj_cons (mc_X5_measure_X5_measure_r3 _ (List.mem_of_getElem? (i := 15) rfl)) (mj_cons (mc_X5_measure_X5_measure_r3 _ (List.mem_of_getElem? (i := 16) rfl)) (mj_cons (mc_X5_measure_X5_measure_r3 _ (List.mem_of_getElem? (i := 17) rfl)) (mj_cons (mc_X5_measure_X5_measure_r3 _ (List.mem_of_getElem? (i := 18) rfl)) (mj_cons (mc_X5_measure_X5_measure_r3 _ (List.mem_of_getElem? (i := 19) rfl)) (mj_cons (mc_X5_measure_X5_measure_r3 _ (List.mem_of_getElem? (i := 20) rfl)) mj_nil)))))))))))))))))))))))) (mj_cons (mc_X5_measure_X5_measure_r3 _ (List.mem_of_getElem? (i := 21) rfl)) (mj_cons (mc_X5_measure_X5_measure_r3 _ (List.mem_of_getElem? (i := 22) rfl)) (mj_cons (mc_X5_measure_X5_measure_r3 _ (List.mem_of_getElem? (i := 23) rfl)) (mj_cons (mc_X5_measure_X5_measure_r4 _ (List.mem_of_getElem? (i := 0) rfl)) (mj_cons (mc_X5_measure_X5_measure_r4 _ (List.mem_of_getElem? (i := 1) rfl)) (mj_cons (mc_X5_measure_X5_measure_r4 _ (List.mem_of_getElem? (i := 2) rfl)) (mj_cons (mc_X5_measure_X5_measure_r4 _ (List.mem_of_getElem? (i := 3) rfl)) mj_nil))))))))) mc_X5_measure_X50) mc_X5_measure_X00)) (by decide +kernel)
set_option maxRecDepth 20000 in
theorem gX5_measure_X5_listMoves : GoodIn wsX5_measure (wsV RX5 62 RX5 yX5_listMoves wsX5_listMoves) := goodIn_app (mj_good (mj_cons (mc_X5_measure_X5_measure_r2 _ (List.mem_of_getElem? (i := 15) rfl)) (mj_cons (mc_X5_measure_X5_measure_r2 _ (List.mem_of_getElem? (i := 16) rfl)) (mj_cons (mc_X5_measure_X5_measure_r2 _ (List.mem_of_getElem? (i := 17) rfl)) (mj_cons (mc_X5_measure_X5_measure_r1 _ (List.mem_of_getElem? (i := 9) rfl)) mj_nil)))) (by decide +kernel)) ggX5_measure_X5_listMoves
set_option maxRecDepth 20000 in
theorem mc_X5_measure_X5_measure_r5 : mjIn wsX5_measure wsX5_measure_r5 := fun w h => (List.mem_cons_of_mem _ (List.mem_append_left _ (List.mem_append_left _ (List.mem_append_right _ (List.mem_append_right _ (List.mem_append_right _ (List.mem_append_right _ h)))))))
set_option maxRecDepth 20000 in
theorem ggX5_measure_X5_after : GoodIn wsX5_measure wsX5_after := mj_good (mj_cons (mc_X5_measure_X5_measure_r4 _ (List.mem_of_getElem? (i := 7) rfl)) (mj_app (mj_app (mj_cons (mc_X5_measure_X5_measure_r4 _ (List.mem_of_getElem? (i := 8) rfl)) (mj_cons (mc_X5_measure_X5_measure_r4 _ (List.mem_of_getElem? (i := 9) rfl)) (mj_cons (mc_X5_measure_X5_measure_r4 _ (List.mem_of_getElem? (i := 10) rfl)) (mj_cons (mc_X5_measure_X5_measure_r4 _ (List.mem_of_getElem? (i := 11) rfl)) (mj_cons (mc_X5_measure_X5_measure_r1 _ (List.mem_of_getElem? (i := 9) rfl)) (mj_cons (mc_X5_measure_X5_measure_r4 _ (List.mem_of_getElem? (i := 12) rfl)) (mj_cons (mc_X5_measure_X5_measure_r1 _ (List.mem_of_getElem? (i := 13) rfl)) (mj_cons (mc_X5_measure_X5_measure_r4 _ (List.mem_of_getElem? (i := 13) rfl)) (mj_cons (mc_X5_measure_X5_measure_r3 _ (List.mem_of_getElem? (i := 14) rfl)) (mj_cons (mc_X5_measure_X5_measure_r4 _ (List.mem_of_getElem? (i := 14) rfl)) (mj_cons (mc_X5_measure_X5_measure_r4 _ (List.mem_of_getElem? (i := 15) rfl)) (mj_cons (mc_X5_measure_X5_measure_r4 _ (List.mem_of_getElem? (i := 16) rfl)) (mj_cons (mc_X5_measure_X5_measure_r4 _ (List.mem_of_getElem? (i := 17) rfl)) (mj_cons (mc_X5_measure_X5_measure_r4 _ (List.mem_of_getElem? (i := 18) rfl)) (mj_cons (mc_X5_measure_X5_measure_r4 _ (List.mem_of_getElem? (i := 19) rfl)) (mj_cons (mc_X5_measure_X5_measure_r4 _ (List.mem_of_getElem? (i := 20) rfl)) (mj_cons (mc_X5_measure_X5_measure_r4 _ (List.mem_of_getElem? (i := 21) rfl)) (mj_cons (mc_X5_measure_X5_measure_r4 _ (List.mem_of_getElem? (i := 22) rfl)) (mj_cons (mc_X5_measure_X5_measure_r4 _ (List.mem_of_getElem? (i := 23) rfl)) (mj_cons (mc_X5_measure_X5_measure_r5 _ (List.mem_of_getElem? (i := 0) rfl)) (mj_cons (mc_X5_measure_X5_measure_r5 _ (List.mem_of_getElem? (i := 1) rfl)) (mj_cons (mc_X5_measure_X5_measure_r1 _ (List.mem_of_getElem? (i := 14) rfl)) (mj_cons (mc_X5_measure_X5_measure_r5 _ (List.mem_of_getElem? (i := 2) rfl)) (mj_cons (mc_X5_measure_X5_measure_r5 _ (List.mem_of_getElem? (i := 3) rfl)) mj_nil)))))))))))))))))))))))) (mj_cons (mc_X5_measure_X5_measure_r5 _ (List.mem_of_getElem? (i := 4) rfl)) (mj_cons (mc_X5_measure_X5_measure_r5 _ (List.mem_of_getElem? (i := 5) rfl)) (mj_cons (mc_X5_measure_X5_measure_r5 _ (List.mem_of_getElem? (i := 6) rfl)) (mj_cons (mc_X5_measure_X5_measure_r5 _ (List.mem_of_getElem? (i := 7) rfl)) (mj_cons (mc_X5_measure_X5_measure_r5 _ (List.mem_of_getElem? (i := 8) rfl)) (mj_cons (mc_X5_measure_X5_measure_r5 _ (List.mem_of_getElem? (i := 9) rfl)) (mj_cons (mc_X5_measure_X5_measure_r5 _ (List.mem_of_getElem? (i := 10) rfl)) mj_nil)))))))) mc_X5_measure_X50)) (by decide +kernel)
set_option maxRecDepth 20000 in
theorem gX5_measure_X5_after : GoodIn wsX5_measure (wsV RX5 148 RX5 yX5_after wsX5_after) := goodIn_app (mj_good (mj_cons (mc_X5_measure_X5_measure_r4 _ (List.mem_of_getElem? (i := 4) rfl)) (mj_cons (mc_X5_measure_X5_measure_r4 _ (List.mem_of_getElem? (i := 5) rfl)) (mj_cons (mc_X5_measure_X5_measure_r4 _ (List.mem_of_getElem? (i := 6) rfl)) (mj_cons (mc_X5_measure_X5_measure_r1 _ (List.mem_of_getElem? (i := 9) rfl)) mj_nil)))) (by decide +kernel)) ggX5_measure_X5_after
theorem dX5_measure_0 : decode cX5_measure 0 = .ok (.aload_n 0, 1) := by decide +kernel
theorem dX5_measure_1 : decode cX5_measure 1 = .ok (.iconst 0, 1) := by decide +kernel
theorem dX5_measure_2 : decode cX5_measure 2 = .ok (.putfield 137, 3) := by decide +kernel
theorem dX5_measure_5 : decode cX5_measure 5 = .ok (.iconst 0, 1) := by decide +kernel
theorem dX5_measure_6 : decode cX5_measure 6 = .ok (.istore_n 2, 1) := by decide +kernel
theorem dX5_measure_7 : decode cX5_measure 7 = .ok (.iload_n 2, 1) := by decide +kernel
theorem dX5_measure_8 : decode cX5_measure 8 = .ok (.aload_n 0, 1) := by decide +kernel
theorem dX5_measure_9 : decode cX5_measure 9 = .ok (.getfield 54, 3) := by decide +kernel
theorem dX5_measure_12 : decode cX5_measure 12 = .ok (.if_icmp .ge 41, 3) := by decide +kernel
theorem dX5_measure_15 : decode cX5_measure 15 = .ok (.aload_n 0, 1) := by decide +kernel
theorem dX5_measure_16 : decode cX5_measure 16 = .ok (.iload_n 2, 1) := by decide +kernel
theorem dX5_measure_17 : decode cX5_measure 17 = .ok (.aload_n 0, 1) := by decide +kernel
theorem dX5_measure_18 : decode cX5_measure 18 = .ok (.getfield 12, 3) := by decide +kernel
theorem dX5_measure_21 : decode cX5_measure 21 = .ok (.invokevirtual 120, 3) := by decide +kernel
theorem dX5_measure_24 : decode cX5_measure 24 = .ok (.aload_n 0, 1) := by decide +kernel
theorem dX5_measure_25 : decode cX5_measure 25 = .ok (.getfield 35, 3) := by decide +kernel
theorem dX5_measure_28 : decode cX5_measure 28 = .ok (.iload_n 2, 1) := by decide +kernel
theorem dX5_measure_29 : decode cX5_measure 29 = .ok (.iconst (-1), 1) := by decide +kernel
theorem dX5_measure_30 : decode cX5_measure 30 = .ok (.iastore, 1) := by decide +kernel
theorem dX5_measure_31 : decode cX5_measure 31 = .ok (.aload_n 0, 1) := by decide +kernel
theorem dX5_measure_32 : decode cX5_measure 32 = .ok (.getfield 12, 3) := by decide +kernel
theorem dX5_measure_35 : decode cX5_measure 35 = .ok (.invokevirtual 140, 3) := by decide +kernel
theorem dX5_measure_38 : decode cX5_measure 38 = .ok (.ifCond .eq 9, 3) := by decide +kernel
theorem dX5_measure_41 : decode cX5_measure 41 = .ok (.aload_n 0, 1) := by decide +kernel
theorem dX5_measure_42 : decode cX5_measure 42 = .ok (.iload_n 2, 1) := by decide +kernel
theorem dX5_measure_43 : decode cX5_measure 43 = .ok (.iconst 0, 1) := by decide +kernel
theorem dX5_measure_44 : decode cX5_measure 44 = .ok (.invokevirtual 144, 3) := by decide +kernel
theorem dX5_measure_47 : decode cX5_measure 47 = .ok (.iinc 2 1, 3) := by decide +kernel
theorem dX5_measure_50 : decode cX5_measure 50 = .ok (.goto (-43), 3) := by decide +kernel
theorem dX5_measure_53 : decode cX5_measure 53 = .ok (.iconst 0, 1) := by decide +kernel
theorem dX5_measure_54 : decode cX5_measure 54 = .ok (.istore_n 2, 1) := by decide +kernel
theorem dX5_measure_55 : decode cX5_measure 55 = .ok (.iload_n 2, 1) := by decide +kernel
theorem dX5_measure_56 : decode cX5_measure 56 = .ok (.aload_n 0, 1) := by decide +kernel
theorem dX5_measure_57 : decode cX5_measure 57 = .ok (.getfield 137, 3) := by decide +kernel
theorem dX5_measure_60 : decode cX5_measure 60 = .ok (.if_icmp .ge 100, 3) := by decide +kernel
theorem dX5_measure_63 : decode cX5_measure 63 = .ok (.iload_n 2, 1) := by decide +kernel
theorem dX5_measure_64 : decode cX5_measure 64 = .ok (.sipush 6000, 3) := by decide +kernel
theorem dX5_measure_67 : decode cX5_measure 67 = .ok (.if_icmp .ge 93, 3) := by decide +kernel
theorem dX5_measure_70 : decode cX5_measure 70 = .ok (.aload_n 0, 1) := by decide +kernel
theorem dX5_measure_71 : decode cX5_measure 71 = .ok (.getfield 38, 3) := by decide +kernel
theorem dX5_measure_74 : decode cX5_measure 74 = .ok (.iload_n 2, 1) := by decide +kernel
theorem dX5_measure_75 : decode cX5_measure 75 = .ok (.iaload, 1) := by decide +kernel
theorem dX5_measure_76 : decode cX5_measure 76 = .ok (.istore_n 3, 1) := by decide +kernel
theorem dX5_measure_77 : decode cX5_measure 77 = .ok (.aload_n 0, 1) := by decide +kernel
theorem dX5_measure_78 : decode cX5_measure 78 = .ok (.iload_n 3, 1) := by decide +kernel
theorem dX5_measure_79 : decode cX5_measure 79 = .ok (.iload_n 1, 1) := by decide +kernel
theorem dX5_measure_80 : decode cX5_measure 80 = .ok (.ifCond .eq 7, 3) := by decide +kernel
theorem dX5_measure_83 : decode cX5_measure 83 = .ok (.iconst 1, 1) := by decide +kernel
theorem dX5_measure_84 : decode cX5_measure 84 = .ok (.goto 5, 3) := by decide +kernel
theorem dX5_measure_87 : decode cX5_measure 87 = .ok (.bipush 7, 2) := by decide +kernel
theorem dX5_measure_89 : decode cX5_measure 89 = .ok (.iconst 1, 1) := by decide +kernel
theorem dX5_measure_90 : decode cX5_measure 90 = .ok (.invokevirtual 62, 3) := by decide +kernel
theorem dX5_measure_93 : decode cX5_measure 93 = .ok (.istore 4, 2) := by decide +kernel
theorem dX5_measure_95 : decode cX5_measure 95 = .ok (.iconst 0, 1) := by decide +kernel
theorem dX5_measure_96 : decode cX5_measure 96 = .ok (.istore 5, 2) := by decide +kernel
theorem dX5_measure_98 : decode cX5_measure 98 = .ok (.iload 5, 2) := by decide +kernel
theorem dX5_measure_100 : decode cX5_measure 100 = .ok (.iload 4, 2) := by decide +kernel
theorem dX5_measure_102 : decode cX5_measure 102 = .ok (.if_icmp .ge 52, 3) := by decide +kernel
theorem dX5_measure_105 : decode cX5_measure 105 = .ok (.aload_n 0, 1) := by decide +kernel
theorem dX5_measure_106 : decode cX5_measure 106 = .ok (.iload_n 3, 1) := by decide +kernel
theorem dX5_measure_107 : decode cX5_measure 107 = .ok (.aload_n 0, 1) := by decide +kernel
theorem dX5_measure_108 : decode cX5_measure 108 = .ok (.getfield 32, 3) := by decide +kernel
theorem dX5_measure_111 : decode cX5_measure 111 = .ok (.iload 5, 2) := by decide +kernel
theorem dX5_measure_113 : decode cX5_measure 113 = .ok (.iaload, 1) := by decide +kernel
theorem dX5_measure_114 : decode cX5_measure 114 = .ok (.invokevirtual 148, 3) := by decide +kernel
theorem dX5_measure_117 : decode cX5_measure 117 = .ok (.istore 6, 2) := by decide +kernel
theorem dX5_measure_119 : decode cX5_measure 119 = .ok (.iload 6, 2) := by decide +kernel
theorem dX5_measure_121 : decode cX5_measure 121 = .ok (.ifCond .lt 27, 3) := by decide +kernel
theorem dX5_measure_124 : decode cX5_measure 124 = .ok (.aload_n 0, 1) := by decide +kernel
theorem dX5_measure_125 : decode cX5_measure 125 = .ok (.getfield 35, 3) := by decide +kernel
theorem dX5_measure_128 : decode cX5_measure 128 = .ok (.iload 6, 2) := by decide +kernel
theorem dX5_measure_130 : decode cX5_measure 130 = .ok (.iaload, 1) := by decide +kernel
theorem dX5_measure_131 : decode cX5_measure 131 = .ok (.ifCond .ge 17, 3) := by decide +kernel
theorem dX5_measure_134 : decode cX5_measure 134 = .ok (.aload_n 0, 1) := by decide +kernel
theorem dX5_measure_135 : decode cX5_measure 135 = .ok (.iload 6, 2) := by decide +kernel
theorem dX5_measure_137 : decode cX5_measure 137 = .ok (.aload_n 0, 1) := by decide +kernel
theorem dX5_measure_138 : decode cX5_measure 138 = .ok (.getfield 35, 3) := by decide +kernel
theorem dX5_measure_141 : decode cX5_measure 141 = .ok (.iload_n 3, 1) := by decide +kernel
theorem dX5_measure_142 : decode cX5_measure 142 = .ok (.iaload, 1) := by decide +kernel
theorem dX5_measure_143 : decode cX5_measure 143 = .ok (.iconst 1, 1) := by decide +kernel
theorem dX5_measure_144 : decode cX5_measure 144 = .ok (.iadd, 1) := by decide +kernel
theorem dX5_measure_145 : decode cX5_measure 145 = .ok (.invokevirtual 144, 3) := by decide +kernel
theorem dX5_measure_148 : decode cX5_measure 148 = .ok (.iinc 5 1, 3) := by decide +kernel
theorem dX5_measure_151 : decode cX5_measure 151 = .ok (.goto (-53), 3) := by decide +kernel
theorem dX5_measure_154 : decode cX5_measure 154 = .ok (.iinc 2 1, 3) := by decide +kernel
theorem dX5_measure_157 : decode cX5_measure 157 = .ok (.goto (-102), 3) := by decide +kernel
theorem dX5_measure_160 : decode cX5_measure 160 = .ok (.return_, 1) := by decide +kernel
theorem dX5_enqueue_0 : decode cX5_enqueue 0 = .ok (.aload_n 0, 1) := by decide +kernel
theorem dX5_enqueue_1 : decode cX5_enqueue 1 = .ok (.getfield 137, 3) := by decide +kernel
theorem dX5_enqueue_4 : decode cX5_enqueue 4 = .ok (.sipush 6000, 3) := by decide +kernel
theorem dX5_enqueue_7 : decode cX5_enqueue 7 = .ok (.if_icmp .ge 30, 3) := by decide +kernel
theorem dX5_enqueue_10 : decode cX5_enqueue 10 = .ok (.aload_n 0, 1) := by decide +kernel
theorem dX5_enqueue_11 : decode cX5_enqueue 11 = .ok (.getfield 35, 3) := by decide +kernel
theorem dX5_enqueue_14 : decode cX5_enqueue 14 = .ok (.iload_n 1, 1) := by decide +kernel
theorem dX5_enqueue_15 : decode cX5_enqueue 15 = .ok (.iload_n 2, 1) := by decide +kernel
theorem dX5_enqueue_16 : decode cX5_enqueue 16 = .ok (.iastore, 1) := by decide +kernel
theorem dX5_enqueue_17 : decode cX5_enqueue 17 = .ok (.aload_n 0, 1) := by decide +kernel
theorem dX5_enqueue_18 : decode cX5_enqueue 18 = .ok (.getfield 38, 3) := by decide +kernel
theorem dX5_enqueue_21 : decode cX5_enqueue 21 = .ok (.aload_n 0, 1) := by decide +kernel
theorem dX5_enqueue_22 : decode cX5_enqueue 22 = .ok (.getfield 137, 3) := by decide +kernel
theorem dX5_enqueue_25 : decode cX5_enqueue 25 = .ok (.iload_n 1, 1) := by decide +kernel
theorem dX5_enqueue_26 : decode cX5_enqueue 26 = .ok (.iastore, 1) := by decide +kernel
theorem dX5_enqueue_27 : decode cX5_enqueue 27 = .ok (.aload_n 0, 1) := by decide +kernel
theorem dX5_enqueue_28 : decode cX5_enqueue 28 = .ok (.dup, 1) := by decide +kernel
theorem dX5_enqueue_29 : decode cX5_enqueue 29 = .ok (.getfield 137, 3) := by decide +kernel
theorem dX5_enqueue_32 : decode cX5_enqueue 32 = .ok (.iconst 1, 1) := by decide +kernel
theorem dX5_enqueue_33 : decode cX5_enqueue 33 = .ok (.iadd, 1) := by decide +kernel
theorem dX5_enqueue_34 : decode cX5_enqueue 34 = .ok (.putfield 137, 3) := by decide +kernel
theorem dX5_enqueue_37 : decode cX5_enqueue 37 = .ok (.return_, 1) := by decide +kernel
theorem dX5_farOf_0 : decode cX5_farOf 0 = .ok (.iload_n 1, 1) := by decide +kernel
theorem dX5_farOf_1 : decode cX5_farOf 1 = .ok (.ifCond .lt 11, 3) := by decide +kernel
theorem dX5_farOf_4 : decode cX5_farOf 4 = .ok (.iload_n 1, 1) := by decide +kernel
theorem dX5_farOf_5 : decode cX5_farOf 5 = .ok (.aload_n 0, 1) := by decide +kernel
theorem dX5_farOf_6 : decode cX5_farOf 6 = .ok (.getfield 54, 3) := by decide +kernel
theorem dX5_farOf_9 : decode cX5_farOf 9 = .ok (.if_icmp .lt 7, 3) := by decide +kernel
theorem dX5_farOf_12 : decode cX5_farOf 12 = .ok (.iconst (-1), 1) := by decide +kernel
theorem dX5_farOf_13 : decode cX5_farOf 13 = .ok (.goto 9, 3) := by decide +kernel
theorem dX5_farOf_16 : decode cX5_farOf 16 = .ok (.aload_n 0, 1) := by decide +kernel
theorem dX5_farOf_17 : decode cX5_farOf 17 = .ok (.getfield 35, 3) := by decide +kernel
theorem dX5_farOf_20 : decode cX5_farOf 20 = .ok (.iload_n 1, 1) := by decide +kernel
theorem dX5_farOf_21 : decode cX5_farOf 21 = .ok (.iaload, 1) := by decide +kernel
theorem dX5_farOf_22 : decode cX5_farOf 22 = .ok (.ireturn, 1) := by decide +kernel
set_option maxRecDepth 20000 in
theorem mc_X5_hardest_X50 : mjIn wsX5_hardest wsX50 := fun w h => (List.mem_cons_of_mem _ (List.mem_append_right _ h))
set_option maxRecDepth 20000 in
theorem ggX5_hardest_X5_farOf : GoodIn wsX5_hardest wsX5_farOf := mj_good (mj_cons (List.mem_of_getElem? (i := 7) rfl) (mj_app (mj_cons (List.mem_of_getElem? (i := 1) rfl) (mj_cons (List.mem_of_getElem? (i := 2) rfl) mj_nil)) mc_X5_hardest_X50)) (by decide +kernel)
set_option maxRecDepth 20000 in
theorem gX5_hardest_X5_farOf : GoodIn wsX5_hardest (wsV RX5 151 RX5 yX5_farOf wsX5_farOf) := goodIn_app (mj_good (mj_cons (List.mem_of_getElem? (i := 3) rfl) (mj_cons (List.mem_of_getElem? (i := 4) rfl) (mj_cons (List.mem_of_getElem? (i := 5) rfl) (mj_cons (List.mem_of_getElem? (i := 6) rfl) mj_nil)))) (by decide +kernel)) ggX5_hardest_X5_farOf
theorem dX5_hardest_0 : decode cX5_hardest 0 = .ok (.iconst (-1), 1) := by decide +kernel
theorem dX5_hardest_1 : decode cX5_hardest 1 = .ok (.istore_n 1, 1) := by decide +kernel
theorem dX5_hardest_2 : decode cX5_hardest 2 = .ok (.iconst 0, 1) := by decide +kernel
theorem dX5_hardest_3 : decode cX5_hardest 3 = .ok (.istore_n 2, 1) := by decide +kernel
theorem dX5_hardest_4 : decode cX5_hardest 4 = .ok (.iload_n 2, 1) := by decide +kernel
theorem dX5_hardest_5 : decode cX5_hardest 5 = .ok (.aload_n 0, 1) := by decide +kernel
theorem dX5_hardest_6 : decode cX5_hardest 6 = .ok (.getfield 54, 3) := by decide +kernel
theorem dX5_hardest_9 : decode cX5_hardest 9 = .ok (.if_icmp .ge 25, 3) := by decide +kernel
theorem dX5_hardest_12 : decode cX5_hardest 12 = .ok (.aload_n 0, 1) := by decide +kernel
theorem dX5_hardest_13 : decode cX5_hardest 13 = .ok (.getfield 35, 3) := by decide +kernel
theorem dX5_hardest_16 : decode cX5_hardest 16 = .ok (.iload_n 2, 1) := by decide +kernel
theorem dX5_hardest_17 : decode cX5_hardest 17 = .ok (.iaload, 1) := by decide +kernel
theorem dX5_hardest_18 : decode cX5_hardest 18 = .ok (.aload_n 0, 1) := by decide +kernel
theorem dX5_hardest_19 : decode cX5_hardest 19 = .ok (.iload_n 1, 1) := by decide +kernel
theorem dX5_hardest_20 : decode cX5_hardest 20 = .ok (.invokevirtual 151, 3) := by decide +kernel
theorem dX5_hardest_23 : decode cX5_hardest 23 = .ok (.if_icmp .le 5, 3) := by decide +kernel
theorem dX5_hardest_26 : decode cX5_hardest 26 = .ok (.iload_n 2, 1) := by decide +kernel
theorem dX5_hardest_27 : decode cX5_hardest 27 = .ok (.istore_n 1, 1) := by decide +kernel
theorem dX5_hardest_28 : decode cX5_hardest 28 = .ok (.iinc 2 1, 3) := by decide +kernel
theorem dX5_hardest_31 : decode cX5_hardest 31 = .ok (.goto (-27), 3) := by decide +kernel
theorem dX5_hardest_34 : decode cX5_hardest 34 = .ok (.iload_n 1, 1) := by decide +kernel
theorem dX5_hardest_35 : decode cX5_hardest 35 = .ok (.ireturn, 1) := by decide +kernel
set_option maxRecDepth 20000 in
theorem mc_X5_farthest_X50 : mjIn wsX5_farthest wsX50 := fun w h => (List.mem_cons_of_mem _ (List.mem_append_right _ h))
set_option maxRecDepth 20000 in
theorem ggX5_farthest_X5_hardest : GoodIn wsX5_farthest wsX5_hardest := mj_good (mj_cons (List.mem_of_getElem? (i := 5) rfl) (mj_app (mj_cons (List.mem_of_getElem? (i := 6) rfl) (mj_cons (List.mem_of_getElem? (i := 7) rfl) (mj_cons (List.mem_of_getElem? (i := 8) rfl) (mj_cons (List.mem_of_getElem? (i := 9) rfl) (mj_cons (List.mem_of_getElem? (i := 10) rfl) (mj_cons (List.mem_of_getElem? (i := 4) rfl) (mj_cons (List.mem_of_getElem? (i := 11) rfl) mj_nil))))))) mc_X5_farthest_X50)) (by decide +kernel)
set_option maxRecDepth 20000 in
theorem gX5_farthest_X5_hardest : GoodIn wsX5_farthest (wsV RX5 154 RX5 yX5_hardest wsX5_hardest) := goodIn_app (mj_good (mj_cons (List.mem_of_getElem? (i := 1) rfl) (mj_cons (List.mem_of_getElem? (i := 2) rfl) (mj_cons (List.mem_of_getElem? (i := 3) rfl) (mj_cons (List.mem_of_getElem? (i := 4) rfl) mj_nil)))) (by decide +kernel)) ggX5_farthest_X5_hardest
set_option maxRecDepth 20000 in
theorem ggX5_farthest_X5_farOf : GoodIn wsX5_farthest wsX5_farOf := mj_good (mj_cons (List.mem_of_getElem? (i := 11) rfl) (mj_app (mj_cons (List.mem_of_getElem? (i := 6) rfl) (mj_cons (List.mem_of_getElem? (i := 7) rfl) mj_nil)) mc_X5_farthest_X50)) (by decide +kernel)
set_option maxRecDepth 20000 in
theorem gX5_farthest_X5_farOf : GoodIn wsX5_farthest (wsV RX5 151 RX5 yX5_farOf wsX5_farOf) := goodIn_app (mj_good (mj_cons (List.mem_of_getElem? (i := 8) rfl) (mj_cons (List.mem_of_getElem? (i := 9) rfl) (mj_cons (List.mem_of_getElem? (i := 10) rfl) (mj_cons (List.mem_of_getElem? (i := 4) rfl) mj_nil)))) (by decide +kernel)) ggX5_farthest_X5_farOf
theorem dX5_farthest_0 : decode cX5_farthest 0 = .ok (.aload_n 0, 1) := by decide +kernel
theorem dX5_farthest_1 : decode cX5_farthest 1 = .ok (.aload_n 0, 1) := by decide +kernel
theorem dX5_farthest_2 : decode cX5_farthest 2 = .ok (.invokevirtual 154, 3) := by decide +kernel
theorem dX5_farthest_5 : decode cX5_farthest 5 = .ok (.invokevirtual 151, 3) := by decide +kernel
theorem dX5_farthest_8 : decode cX5_farthest 8 = .ok (.ireturn, 1) := by decide +kernel
set_option maxRecDepth 20000 in
theorem mc_X5_writePlan_X5_writePlan_r1 : mjIn wsX5_writePlan wsX5_writePlan_r1 := fun w h => (List.mem_cons_of_mem _ (List.mem_append_left _ (List.mem_append_left _ (List.mem_append_left _ (List.mem_append_left _ h)))))
set_option maxRecDepth 20000 in
theorem mc_X5_writePlan_X50 : mjIn wsX5_writePlan wsX50 := fun w h => (List.mem_cons_of_mem _ (List.mem_append_left _ (List.mem_append_right _ h)))
set_option maxRecDepth 20000 in
theorem ggX5_writePlan_X5_farOf : GoodIn wsX5_writePlan wsX5_farOf := mj_good (mj_cons (mc_X5_writePlan_X5_writePlan_r1 _ (List.mem_of_getElem? (i := 5) rfl)) (mj_app (mj_cons (mc_X5_writePlan_X5_writePlan_r1 _ (List.mem_of_getElem? (i := 6) rfl)) (mj_cons (mc_X5_writePlan_X5_writePlan_r1 _ (List.mem_of_getElem? (i := 7) rfl)) mj_nil)) mc_X5_writePlan_X50)) (by decide +kernel)
set_option maxRecDepth 20000 in
theorem gX5_writePlan_X5_farOf : GoodIn wsX5_writePlan (wsV RX5 151 RX5 yX5_farOf wsX5_farOf) := goodIn_app (mj_good (mj_cons (mc_X5_writePlan_X5_writePlan_r1 _ (List.mem_of_getElem? (i := 1) rfl)) (mj_cons (mc_X5_writePlan_X5_writePlan_r1 _ (List.mem_of_getElem? (i := 2) rfl)) (mj_cons (mc_X5_writePlan_X5_writePlan_r1 _ (List.mem_of_getElem? (i := 3) rfl)) (mj_cons (mc_X5_writePlan_X5_writePlan_r1 _ (List.mem_of_getElem? (i := 4) rfl)) mj_nil)))) (by decide +kernel)) ggX5_writePlan_X5_farOf
set_option maxRecDepth 20000 in
theorem mc_X5_writePlan_X5_writePlan_r2 : mjIn wsX5_writePlan wsX5_writePlan_r2 := fun w h => (List.mem_cons_of_mem _ (List.mem_append_left _ (List.mem_append_left _ (List.mem_append_left _ (List.mem_append_right _ (List.mem_append_left _ h))))))
set_option maxRecDepth 20000 in
theorem mc_X5_writePlan_X5_writePlan_r3 : mjIn wsX5_writePlan wsX5_writePlan_r3 := fun w h => (List.mem_cons_of_mem _ (List.mem_append_left _ (List.mem_append_left _ (List.mem_append_left _ (List.mem_append_right _ (List.mem_append_right _ (List.mem_append_left _ h)))))))
set_option maxRecDepth 20000 in
theorem mc_X5_writePlan_X5_writePlan_r4 : mjIn wsX5_writePlan wsX5_writePlan_r4 := fun w h => (List.mem_cons_of_mem _ (List.mem_append_left _ (List.mem_append_left _ (List.mem_append_left _ (List.mem_append_right _ (List.mem_append_right _ (List.mem_append_right _ (List.mem_append_left _ h))))))))
set_option maxRecDepth 20000 in
theorem mc_X5_writePlan_X5_writePlan_r5 : mjIn wsX5_writePlan wsX5_writePlan_r5 := fun w h => (List.mem_cons_of_mem _ (List.mem_append_left _ (List.mem_append_left _ (List.mem_append_left _ (List.mem_append_right _ (List.mem_append_right _ (List.mem_append_right _ (List.mem_append_right _ h))))))))
set_option maxRecDepth 20000 in
theorem mc_X5_writePlan_X00 : mjIn wsX5_writePlan wsX00 := fun w h => (List.mem_cons_of_mem _ (List.mem_append_right _ h))
set_option maxRecDepth 20000 in
theorem ggX5_writePlan_X5_firstTo : GoodIn wsX5_writePlan wsX5_firstTo := mj_good (mj_cons (mc_X5_writePlan_X5_writePlan_r1 _ (List.mem_of_getElem? (i := 11) rfl)) (mj_app (mj_app (mj_app (mj_cons (mc_X5_writePlan_X5_writePlan_r1 _ (List.mem_of_getElem? (i := 12) rfl)) (mj_cons (mc_X5_writePlan_X5_writePlan_r1 _ (List.mem_of_getElem? (i := 13) rfl)) (mj_cons (mc_X5_writePlan_X5_writePlan_r1 _ (List.mem_of_getElem? (i := 14) rfl)) (mj_cons (mc_X5_writePlan_X5_writePlan_r1 _ (List.mem_of_getElem? (i := 15) rfl)) (mj_cons (mc_X5_writePlan_X5_writePlan_r1 _ (List.mem_of_getElem? (i := 4) rfl)) (mj_cons (mc_X5_writePlan_X5_writePlan_r1 _ (List.mem_of_getElem? (i := 16) rfl)) (mj_cons (mc_X5_writePlan_X5_writePlan_r1 _ (List.mem_of_getElem? (i := 17) rfl)) (mj_cons (mc_X5_writePlan_X5_writePlan_r1 _ (List.mem_of_getElem? (i := 18) rfl)) (mj_cons (mc_X5_writePlan_X5_writePlan_r1 _ (List.mem_of_getElem? (i := 19) rfl)) (mj_cons (mc_X5_writePlan_X5_writePlan_r1 _ (List.mem_of_getElem? (i := 20) rfl)) (mj_cons (mc_X5_writePlan_X5_writePlan_r1 _ (List.mem_of_getElem? (i := 21) rfl)) (mj_cons (mc_X5_writePlan_X5_writePlan_r1 _ (List.mem_of_getElem? (i := 22) rfl)) (mj_cons (mc_X5_writePlan_X5_writePlan_r1 _ (List.mem_of_getElem? (i := 23) rfl)) (mj_cons (mc_X5_writePlan_X5_writePlan_r2 _ (List.mem_of_getElem? (i := 0) rfl)) (mj_cons (mc_X5_writePlan_X5_writePlan_r2 _ (List.mem_of_getElem? (i := 1) rfl)) (mj_cons (mc_X5_writePlan_X5_writePlan_r2 _ (List.mem_of_getElem? (i := 2) rfl)) (mj_cons (mc_X5_writePlan_X5_writePlan_r1 _ (List.mem_of_getElem? (i := 6) rfl)) (mj_cons (mc_X5_writePlan_X5_writePlan_r2 _ (List.mem_of_getElem? (i := 3) rfl)) (mj_cons (mc_X5_writePlan_X5_writePlan_r2 _ (List.mem_of_getElem? (i := 4) rfl)) (mj_cons (mc_X5_writePlan_X5_writePlan_r2 _ (List.mem_of_getElem? (i := 5) rfl)) (mj_cons (mc_X5_writePlan_X5_writePlan_r2 _ (List.mem_of_getElem? (i := 6) rfl)) (mj_cons (mc_X5_writePlan_X5_writePlan_r2 _ (List.mem_of_getElem? (i := 7) rfl)) (mj_cons (mc_X5_writePlan_X5_writePlan_r2 _ (List.mem_of_getElem? (i := 8) rfl)) (mj_cons (mc_X5_writePlan_X5_writePlan_r2 _ (List.mem_of_getElem? (i := 9) rfl)) mj_nil)))))))))))))))))))))))) (mj_app (mj_cons (mc_X5_writePlan_X5_writePlan_r2 _ (List.mem_of_getElem? (i := 10) rfl)) (mj_cons (mc_X5_writePlan_X5_writePlan_r2 _ (List.mem_of_getElem? (i := 11) rfl)) (mj_cons (mc_X5_writePlan_X5_writePlan_r2 _ (List.mem_of_getElem? (i := 12) rfl)) (mj_cons (mc_X5_writePlan_X5_writePlan_r2 _ (List.mem_of_getElem? (i := 13) rfl)) (mj_cons (mc_X5_writePlan_X5_writePlan_r2 _ (List.mem_of_getElem? (i := 14) rfl)) (mj_cons (mc_X5_writePlan_X5_writePlan_r2 _ (List.mem_of_getElem? (i := 15) rfl)) (mj_cons (mc_X5_writePlan_X5_writePlan_r2 _ (List.mem_of_getElem? (i := 16) rfl)) (mj_cons (mc_X5_writePlan_X5_writePlan_r2 _ (List.mem_of_getElem? (i := 17) rfl)) (mj_cons (mc_X5_writePlan_X5_writePlan_r2 _ (List.mem_of_getElem? (i := 18) rfl)) (mj_cons (mc_X5_writePlan_X5_writePlan_r2 _ (List.mem_of_getElem? (i := 19) rfl)) (mj_cons (mc_X5_writePlan_X5_writePlan_r2 _ (List.mem_of_getElem? (i := 20) rfl)) (mj_cons (mc_X5_writePlan_X5_writePlan_r2 _ (List.mem_of_getElem? (i := 21) rfl)) (mj_cons (mc_X5_writePlan_X5_writePlan_r2 _ (List.mem_of_getElem? (i := 22) rfl)) (mj_cons (mc_X5_writePlan_X5_writePlan_r2 _ (List.mem_of_getElem? (i := 23) rfl)) (mj_cons (mc_X5_writePlan_X5_writePlan_r3 _ (List.mem_of_getElem? (i := 0) rfl)) (mj_cons (mc_X5_writePlan_X5_writePlan_r3 _ (List.mem_of_getElem? (i := 1) rfl)) (mj_cons (mc_X5_writePlan_X5_writePlan_r3 _ (List.mem_of_getElem? (i := 2) rfl)) (mj_cons (mc_X5_writePlan_X5_writePlan_r3 _ (List.mem_of_getElem? (i := 3) rfl)) (mj_cons (mc_X5_writePlan_X5_writePlan_r3 _ (List.mem_of_getElem? (i := 4) rfl)) (mj_cons (mc_X5_writePlan_X5_writePlan_r3 _ (List.mem_of_getElem? (i := 5) rfl)) (mj_cons (mc_X5_writePlan_X5_writePlan_r3 _ (List.mem_of_getElem? (i := 6) rfl)) (mj_cons (mc_X5_writePlan_X5_writePlan_r3 _ (List.mem_of_getElem? (i := 7) rfl)) (mj_cons (mc_X5_writePlan_X5_writePlan_r3 _ (List.mem_of_getElem? (i := 8) rfl)) (mj_cons (mc_X5_writePlan_X5_writePlan_r3 _ (List.mem_of_getElem? (i := 9) rfl)) mj_nil)))))))))))))))))))))))) (mj_app (mj_cons (mc_X5_writePlan_X5_writePlan_r3 _ (List.mem_of_getElem? (i := 10) rfl)) (mj_cons (mc_X5_writePlan_X5_writePlan_r3 _ (List.mem_of_getElem? (i := 11) rfl)) (mj_cons (mc_X5_writePlan_X5_writePlan_r3 _ (List.mem_of_getElem? (i := 12) rfl)) (mj_cons (mc_X5_writePlan_X5_writePlan_r3 _ (List.mem_of_getElem? (i := 13) rfl)) (mj_cons (mc_X5_writePlan_X5_writePlan_r3 _ (List.mem_of_getElem? (i := 14) rfl)) (mj_cons (mc_X5_writePlan_X5_writePlan_r3 _ (List.mem_of_getElem? (i := 15) rfl)) (mj_cons (mc_X5_writePlan_X5_writePlan_r3 _ (List.mem_of_getElem? (i := 16) rfl)) (mj_cons (mc_X5_writePlan_X5_writePlan_r3 _ (List.mem_of_getElem? (i := 17) rfl)) (mj_cons (mc_X5_writePlan_X5_writePlan_r3 _ (List.mem_of_getElem? (i := 18) rfl)) (mj_cons (mc_X5_writePlan_X5_writePlan_r3 _ (List.mem_of_getElem? (i := 19) rfl)) (mj_cons (mc_X5_writePlan_X5_writePlan_r3 _ (List.mem_of_getElem? (i := 20) rfl)) (mj_cons (mc_X5_writePlan_X5_writePlan_r3 _ (List.mem_of_getElem? (i := 21) rfl)) (mj_cons (mc_X5_writePlan_X5_writePlan_r3 _ (List.mem_of_getElem? (i := 22) rfl)) (mj_cons (mc_X5_writePlan_X5_writePlan_r3 _ (List.mem_of_getElem? (i := 23) rfl)) (mj_cons (mc_X5_writePlan_X5_writePlan_r4 _ (List.mem_of_getElem? (i := 0) rfl)) (mj_cons (mc_X5_writePlan_X5_writePlan_r4 _ (List.mem_of_getElem? (i := 1) rfl)) (mj_cons (mc_X5_writePlan_X5_writePlan_r4 _ (List.mem_of_getElem? (i := 2) rfl)) (mj_cons (mc_X5_writePlan_X5_writePlan_r4 _ (List.mem_of_getElem? (i := 3) rfl)) (mj_cons (mc_X5_writePlan_X5_writePlan_r4 _ (List.mem_of_getElem? (i := 4) rfl)) (mj_cons (mc_X5_writePlan_X5_writePlan_r4 _ (List.mem_of_getElem? (i := 5) rfl)) (mj_cons (mc_X5_writePlan_X5_writePlan_r4 _ (List.mem_of_getElem? (i := 6) rfl)) (mj_cons (mc_X5_writePlan_X5_writePlan_r4 _ (List.mem_of_getElem? (i := 7) rfl)) (mj_cons (mc_X5_writePlan_X5_writePlan_r4 _ (List.mem_of_getElem? (i := 8) rfl)) (mj_cons (mc_X5_writePlan_X5_writePlan_r4 _ (List.mem_of_getElem? (i := 9) rfl)) mj_nil)))))))))))))))))))))))) (mj_cons (mc_X5_writePlan_X5_writePlan_r4 _ (List.mem_of_getElem? (i := 10) rfl)) (mj_cons (mc_X5_writePlan_X5_writePlan_r4 _ (List.mem_of_getElem? (i := 11) rfl)) (mj_cons (mc_X5_writePlan_X5_writePlan_r4 _ (List.mem_of_getElem? (i := 12) rfl)) (mj_cons (mc_X5_writePlan_X5_writePlan_r4 _ (List.mem_of_getElem? (i := 13) rfl)) (mj_cons (mc_X5_writePlan_X5_writePlan_r4 _ (List.mem_of_getElem? (i := 14) rfl)) (mj_cons (mc_X5_writePlan_X5_writePlan_r4 _ (List.mem_of_getElem? (i := 15) rfl)) (mj_cons (mc_X5_writePlan_X5_writePlan_r4 _ (List.mem_of_getElem? (i := 16) rfl)) (mj_cons (mc_X5_writePlan_X5_writePlan_r4 _ (List.mem_of_getElem? (i := 17) rfl)) (mj_cons (mc_X5_writePlan_X5_writePlan_r4 _ (List.mem_of_getElem? (i := 18) rfl)) (mj_cons (mc_X5_writePlan_X5_writePlan_r4 _ (List.mem_of_getElem? (i := 19) rfl)) (mj_cons (mc_X5_writePlan_X5_writePlan_r4 _ (List.mem_of_getElem? (i := 20) rfl)) (mj_cons (mc_X5_writePlan_X5_writePlan_r4 _ (List.mem_of_getElem? (i := 21) rfl)) (mj_cons (mc_X5_writePlan_X5_writePlan_r4 _ (List.mem_of_getElem? (i := 22) rfl)) (mj_cons (mc_X5_writePlan_X5_writePlan_r4 _ (List.mem_of_getElem? (i := 23) rfl)) (mj_cons (mc_X5_writePlan_X5_writePlan_r5 _ (List.mem_of_getElem? (i := 0) rfl)) (mj_cons (mc_X5_writePlan_X5_writePlan_r5 _ (List.mem_of_getElem? (i := 1) rfl)) (mj_cons (mc_X5_writePlan_X5_writePlan_r5 _ (List.mem_of_getElem? (i := 2) rfl)) (mj_cons (mc_X5_writePlan_X5_writePlan_r5 _ (List.mem_of_getElem? (i := 3) rfl)) (mj_cons (mc_X5_writePlan_X5_writePlan_r1 _ (List.mem_of_getElem? (i := 1) rfl)) (mj_cons (mc_X5_writePlan_X5_writePlan_r1 _ (List.mem_of_getElem? (i := 2) rfl)) (mj_cons (mc_X5_writePlan_X5_writePlan_r1 _ (List.mem_of_getElem? (i := 3) rfl)) (mj_cons (mc_X5_writePlan_X5_writePlan_r1 _ (List.mem_of_getElem? (i := 5) rfl)) (mj_cons (mc_X5_writePlan_X5_writePlan_r1 _ (List.mem_of_getElem? (i := 7) rfl)) mj_nil)))))))))))))))))))))))))) mc_X5_writePlan_X50) mc_X5_writePlan_X00)) (by decide +kernel)
set_option maxRecDepth 20000 in
theorem gX5_writePlan_X5_firstTo : GoodIn wsX5_writePlan (wsV RX5 163 RX5 yX5_firstTo wsX5_firstTo) := goodIn_app (mj_good (mj_cons (mc_X5_writePlan_X5_writePlan_r1 _ (List.mem_of_getElem? (i := 8) rfl)) (mj_cons (mc_X5_writePlan_X5_writePlan_r1 _ (List.mem_of_getElem? (i := 9) rfl)) (mj_cons (mc_X5_writePlan_X5_writePlan_r1 _ (List.mem_of_getElem? (i := 10) rfl)) (mj_cons (mc_X5_writePlan_X5_writePlan_r1 _ (List.mem_of_getElem? (i := 4) rfl)) mj_nil)))) (by decide +kernel)) ggX5_writePlan_X5_firstTo
set_option maxRecDepth 20000 in
theorem mc_X5_writePlan_X40 : mjIn wsX5_writePlan wsX40 := fun w h => (List.mem_cons_of_mem _ (List.mem_append_left _ (List.mem_append_left _ (List.mem_append_right _ h))))
set_option maxRecDepth 20000 in
theorem ggX5_writePlan_X4_add : GoodIn wsX5_writePlan wsX4_add := mj_good (mj_cons (mc_X5_writePlan_X5_writePlan_r5 _ (List.mem_of_getElem? (i := 8) rfl)) (mj_app (mj_cons (mc_X5_writePlan_X5_writePlan_r5 _ (List.mem_of_getElem? (i := 9) rfl)) (mj_cons (mc_X5_writePlan_X5_writePlan_r5 _ (List.mem_of_getElem? (i := 10) rfl)) mj_nil)) mc_X5_writePlan_X40)) (by decide +kernel)
set_option maxRecDepth 20000 in
theorem gX5_writePlan_X4_add : GoodIn wsX5_writePlan (wsV RX5 166 RX4 yX4_add wsX4_add) := goodIn_app (mj_good (mj_cons (mc_X5_writePlan_X5_writePlan_r5 _ (List.mem_of_getElem? (i := 4) rfl)) (mj_cons (mc_X5_writePlan_X5_writePlan_r5 _ (List.mem_of_getElem? (i := 5) rfl)) (mj_cons (mc_X5_writePlan_X5_writePlan_r5 _ (List.mem_of_getElem? (i := 6) rfl)) (mj_cons (mc_X5_writePlan_X5_writePlan_r5 _ (List.mem_of_getElem? (i := 7) rfl)) mj_nil)))) (by decide +kernel)) ggX5_writePlan_X4_add
set_option maxRecDepth 20000 in
theorem ggX5_writePlan_X5_after : GoodIn wsX5_writePlan wsX5_after := mj_good (mj_cons (mc_X5_writePlan_X5_writePlan_r4 _ (List.mem_of_getElem? (i := 0) rfl)) (mj_app (mj_app (mj_cons (mc_X5_writePlan_X5_writePlan_r4 _ (List.mem_of_getElem? (i := 1) rfl)) (mj_cons (mc_X5_writePlan_X5_writePlan_r4 _ (List.mem_of_getElem? (i := 2) rfl)) (mj_cons (mc_X5_writePlan_X5_writePlan_r4 _ (List.mem_of_getElem? (i := 3) rfl)) (mj_cons (mc_X5_writePlan_X5_writePlan_r4 _ (List.mem_of_getElem? (i := 4) rfl)) (mj_cons (mc_X5_writePlan_X5_writePlan_r1 _ (List.mem_of_getElem? (i := 4) rfl)) (mj_cons (mc_X5_writePlan_X5_writePlan_r4 _ (List.mem_of_getElem? (i := 5) rfl)) (mj_cons (mc_X5_writePlan_X5_writePlan_r2 _ (List.mem_of_getElem? (i := 4) rfl)) (mj_cons (mc_X5_writePlan_X5_writePlan_r4 _ (List.mem_of_getElem? (i := 6) rfl)) (mj_cons (mc_X5_writePlan_X5_writePlan_r3 _ (List.mem_of_getElem? (i := 7) rfl)) (mj_cons (mc_X5_writePlan_X5_writePlan_r4 _ (List.mem_of_getElem? (i := 7) rfl)) (mj_cons (mc_X5_writePlan_X5_writePlan_r4 _ (List.mem_of_getElem? (i := 8) rfl)) (mj_cons (mc_X5_writePlan_X5_writePlan_r4 _ (List.mem_of_getElem? (i := 9) rfl)) (mj_cons (mc_X5_writePlan_X5_writePlan_r4 _ (List.mem_of_getElem? (i := 10) rfl)) (mj_cons (mc_X5_writePlan_X5_writePlan_r4 _ (List.mem_of_getElem? (i := 11) rfl)) (mj_cons (mc_X5_writePlan_X5_writePlan_r4 _ (List.mem_of_getElem? (i := 12) rfl)) (mj_cons (mc_X5_writePlan_X5_writePlan_r4 _ (List.mem_of_getElem? (i := 13) rfl)) (mj_cons (mc_X5_writePlan_X5_writePlan_r4 _ (List.mem_of_getElem? (i := 14) rfl)) (mj_cons (mc_X5_writePlan_X5_writePlan_r4 _ (List.mem_of_getElem? (i := 15) rfl)) (mj_cons (mc_X5_writePlan_X5_writePlan_r4 _ (List.mem_of_getElem? (i := 16) rfl)) (mj_cons (mc_X5_writePlan_X5_writePlan_r4 _ (List.mem_of_getElem? (i := 17) rfl)) (mj_cons (mc_X5_writePlan_X5_writePlan_r4 _ (List.mem_of_getElem? (i := 18) rfl)) (mj_cons (mc_X5_writePlan_X5_writePlan_r2 _ (List.mem_of_getElem? (i := 5) rfl)) (mj_cons (mc_X5_writePlan_X5_writePlan_r4 _ (List.mem_of_getElem? (i := 19) rfl)) (mj_cons (mc_X5_writePlan_X5_writePlan_r4 _ (List.mem_of_getElem? (i := 20) rfl)) mj_nil)))))))))))))))))))))))) (mj_cons (mc_X5_writePlan_X5_writePlan_r4 _ (List.mem_of_getElem? (i := 21) rfl)) (mj_cons (mc_X5_writePlan_X5_writePlan_r4 _ (List.mem_of_getElem? (i := 22) rfl)) (mj_cons (mc_X5_writePlan_X5_writePlan_r4 _ (List.mem_of_getElem? (i := 23) rfl)) (mj_cons (mc_X5_writePlan_X5_writePlan_r5 _ (List.mem_of_getElem? (i := 0) rfl)) (mj_cons (mc_X5_writePlan_X5_writePlan_r5 _ (List.mem_of_getElem? (i := 1) rfl)) (mj_cons (mc_X5_writePlan_X5_writePlan_r5 _ (List.mem_of_getElem? (i := 2) rfl)) (mj_cons (mc_X5_writePlan_X5_writePlan_r5 _ (List.mem_of_getElem? (i := 3) rfl)) mj_nil)))))))) mc_X5_writePlan_X50)) (by decide +kernel)
set_option maxRecDepth 20000 in
theorem gX5_writePlan_X5_after : GoodIn wsX5_writePlan (wsV RX5 148 RX5 yX5_after wsX5_after) := goodIn_app (mj_good (mj_cons (mc_X5_writePlan_X5_writePlan_r3 _ (List.mem_of_getElem? (i := 21) rfl)) (mj_cons (mc_X5_writePlan_X5_writePlan_r3 _ (List.mem_of_getElem? (i := 22) rfl)) (mj_cons (mc_X5_writePlan_X5_writePlan_r3 _ (List.mem_of_getElem? (i := 23) rfl)) (mj_cons (mc_X5_writePlan_X5_writePlan_r1 _ (List.mem_of_getElem? (i := 4) rfl)) mj_nil)))) (by decide +kernel)) ggX5_writePlan_X5_after
theorem dX5_writePlan_0 : decode cX5_writePlan 0 = .ok (.aload_n 1, 1) := by decide +kernel
theorem dX5_writePlan_1 : decode cX5_writePlan 1 = .ok (.iconst 0, 1) := by decide +kernel
theorem dX5_writePlan_2 : decode cX5_writePlan 2 = .ok (.putfield 158, 3) := by decide +kernel
theorem dX5_writePlan_5 : decode cX5_writePlan 5 = .ok (.iconst 0, 1) := by decide +kernel
theorem dX5_writePlan_6 : decode cX5_writePlan 6 = .ok (.istore_n 3, 1) := by decide +kernel
theorem dX5_writePlan_7 : decode cX5_writePlan 7 = .ok (.aload_n 0, 1) := by decide +kernel
theorem dX5_writePlan_8 : decode cX5_writePlan 8 = .ok (.iconst 0, 1) := by decide +kernel
theorem dX5_writePlan_9 : decode cX5_writePlan 9 = .ok (.invokevirtual 151, 3) := by decide +kernel
theorem dX5_writePlan_12 : decode cX5_writePlan 12 = .ok (.iconst 1, 1) := by decide +kernel
theorem dX5_writePlan_13 : decode cX5_writePlan 13 = .ok (.isub, 1) := by decide +kernel
theorem dX5_writePlan_14 : decode cX5_writePlan 14 = .ok (.istore 4, 2) := by decide +kernel
theorem dX5_writePlan_16 : decode cX5_writePlan 16 = .ok (.iload 4, 2) := by decide +kernel
theorem dX5_writePlan_18 : decode cX5_writePlan 18 = .ok (.ifCond .lt 46, 3) := by decide +kernel
theorem dX5_writePlan_21 : decode cX5_writePlan 21 = .ok (.iload_n 3, 1) := by decide +kernel
theorem dX5_writePlan_22 : decode cX5_writePlan 22 = .ok (.ifCond .lt 42, 3) := by decide +kernel
theorem dX5_writePlan_25 : decode cX5_writePlan 25 = .ok (.aload_n 0, 1) := by decide +kernel
theorem dX5_writePlan_26 : decode cX5_writePlan 26 = .ok (.iload_n 3, 1) := by decide +kernel
theorem dX5_writePlan_27 : decode cX5_writePlan 27 = .ok (.iload 4, 2) := by decide +kernel
theorem dX5_writePlan_29 : decode cX5_writePlan 29 = .ok (.iload_n 2, 1) := by decide +kernel
theorem dX5_writePlan_30 : decode cX5_writePlan 30 = .ok (.ifCond .eq 7, 3) := by decide +kernel
theorem dX5_writePlan_33 : decode cX5_writePlan 33 = .ok (.iconst 1, 1) := by decide +kernel
theorem dX5_writePlan_34 : decode cX5_writePlan 34 = .ok (.goto 5, 3) := by decide +kernel
theorem dX5_writePlan_37 : decode cX5_writePlan 37 = .ok (.bipush 7, 2) := by decide +kernel
theorem dX5_writePlan_39 : decode cX5_writePlan 39 = .ok (.invokevirtual 163, 3) := by decide +kernel
theorem dX5_writePlan_42 : decode cX5_writePlan 42 = .ok (.istore 5, 2) := by decide +kernel
theorem dX5_writePlan_44 : decode cX5_writePlan 44 = .ok (.aload_n 1, 1) := by decide +kernel
theorem dX5_writePlan_45 : decode cX5_writePlan 45 = .ok (.iload 5, 2) := by decide +kernel
theorem dX5_writePlan_47 : decode cX5_writePlan 47 = .ok (.invokevirtual 166, 3) := by decide +kernel
theorem dX5_writePlan_50 : decode cX5_writePlan 50 = .ok (.aload_n 0, 1) := by decide +kernel
theorem dX5_writePlan_51 : decode cX5_writePlan 51 = .ok (.iload_n 3, 1) := by decide +kernel
theorem dX5_writePlan_52 : decode cX5_writePlan 52 = .ok (.iload 5, 2) := by decide +kernel
theorem dX5_writePlan_54 : decode cX5_writePlan 54 = .ok (.invokevirtual 148, 3) := by decide +kernel
theorem dX5_writePlan_57 : decode cX5_writePlan 57 = .ok (.istore_n 3, 1) := by decide +kernel
theorem dX5_writePlan_58 : decode cX5_writePlan 58 = .ok (.iinc 4 (-1), 3) := by decide +kernel
theorem dX5_writePlan_61 : decode cX5_writePlan 61 = .ok (.goto (-45), 3) := by decide +kernel
theorem dX5_writePlan_64 : decode cX5_writePlan 64 = .ok (.aload_n 1, 1) := by decide +kernel
theorem dX5_writePlan_65 : decode cX5_writePlan 65 = .ok (.getfield 158, 3) := by decide +kernel
theorem dX5_writePlan_68 : decode cX5_writePlan 68 = .ok (.ireturn, 1) := by decide +kernel
set_option maxRecDepth 20000 in
theorem mc_X5_firstTo_X5_firstTo_r1 : mjIn wsX5_firstTo wsX5_firstTo_r1 := fun w h => (List.mem_cons_of_mem _ (List.mem_append_left _ (List.mem_append_left _ (List.mem_append_left _ h))))
set_option maxRecDepth 20000 in
theorem mc_X5_firstTo_X5_firstTo_r2 : mjIn wsX5_firstTo wsX5_firstTo_r2 := fun w h => (List.mem_cons_of_mem _ (List.mem_append_left _ (List.mem_append_left _ (List.mem_append_right _ (List.mem_append_left _ h)))))
set_option maxRecDepth 20000 in
theorem mc_X5_firstTo_X5_firstTo_r3 : mjIn wsX5_firstTo wsX5_firstTo_r3 := fun w h => (List.mem_cons_of_mem _ (List.mem_append_left _ (List.mem_append_left _ (List.mem_append_right _ (List.mem_append_right _ (List.mem_append_left _ h))))))
set_option maxRecDepth 20000 in
theorem mc_X5_firstTo_X50 : mjIn wsX5_firstTo wsX50 := fun w h => (List.mem_cons_of_mem _ (List.mem_append_left _ (List.mem_append_right _ h)))
set_option maxRecDepth 20000 in
theorem mc_X5_firstTo_X00 : mjIn wsX5_firstTo wsX00 := fun w h => (List.mem_cons_of_mem _ (List.mem_append_right _ h))
set_option maxRecDepth 20000 in
theorem ggX5_firstTo_X5_listMoves : GoodIn wsX5_firstTo wsX5_listMoves := mj_good (mj_cons (mc_X5_firstTo_X5_firstTo_r1 _ (List.mem_of_getElem? (i := 5) rfl)) (mj_app (mj_app (mj_app (mj_cons (mc_X5_firstTo_X5_firstTo_r1 _ (List.mem_of_getElem? (i := 6) rfl)) (mj_cons (mc_X5_firstTo_X5_firstTo_r1 _ (List.mem_of_getElem? (i := 7) rfl)) (mj_cons (mc_X5_firstTo_X5_firstTo_r1 _ (List.mem_of_getElem? (i := 8) rfl)) (mj_cons (mc_X5_firstTo_X5_firstTo_r1 _ (List.mem_of_getElem? (i := 9) rfl)) (mj_cons (mc_X5_firstTo_X5_firstTo_r1 _ (List.mem_of_getElem? (i := 10) rfl)) (mj_cons (mc_X5_firstTo_X5_firstTo_r1 _ (List.mem_of_getElem? (i := 11) rfl)) (mj_cons (mc_X5_firstTo_X5_firstTo_r1 _ (List.mem_of_getElem? (i := 0) rfl)) (mj_cons (mc_X5_firstTo_X5_firstTo_r1 _ (List.mem_of_getElem? (i := 12) rfl)) (mj_cons (mc_X5_firstTo_X5_firstTo_r1 _ (List.mem_of_getElem? (i := 13) rfl)) (mj_cons (mc_X5_firstTo_X5_firstTo_r1 _ (List.mem_of_getElem? (i := 14) rfl)) (mj_cons (mc_X5_firstTo_X5_firstTo_r1 _ (List.mem_of_getElem? (i := 4) rfl)) (mj_cons (mc_X5_firstTo_X5_firstTo_r1 _ (List.mem_of_getElem? (i := 15) rfl)) (mj_cons (mc_X5_firstTo_X5_firstTo_r1 _ (List.mem_of_getElem? (i := 16) rfl)) (mj_cons (mc_X5_firstTo_X5_firstTo_r1 _ (List.mem_of_getElem? (i := 17) rfl)) (mj_cons (mc_X5_firstTo_X5_firstTo_r1 _ (List.mem_of_getElem? (i := 18) rfl)) (mj_cons (mc_X5_firstTo_X5_firstTo_r1 _ (List.mem_of_getElem? (i := 19) rfl)) (mj_cons (mc_X5_firstTo_X5_firstTo_r1 _ (List.mem_of_getElem? (i := 20) rfl)) (mj_cons (mc_X5_firstTo_X5_firstTo_r1 _ (List.mem_of_getElem? (i := 21) rfl)) (mj_cons (mc_X5_firstTo_X5_firstTo_r1 _ (List.mem_of_getElem? (i := 22) rfl)) (mj_cons (mc_X5_firstTo_X5_firstTo_r1 _ (List.mem_of_getElem? (i := 23) rfl)) (mj_cons (mc_X5_firstTo_X5_firstTo_r2 _ (List.mem_of_getElem? (i := 0) rfl)) (mj_cons (mc_X5_firstTo_X5_firstTo_r2 _ (List.mem_of_getElem? (i := 1) rfl)) (mj_cons (mc_X5_firstTo_X5_firstTo_r2 _ (List.mem_of_getElem? (i := 2) rfl)) (mj_cons (mc_X5_firstTo_X5_firstTo_r2 _ (List.mem_of_getElem? (i := 3) rfl)) mj_nil)))))))))))))))))))))))) (mj_app (mj_cons (mc_X5_firstTo_X5_firstTo_r2 _ (List.mem_of_getElem? (i := 4) rfl)) (mj_cons (mc_X5_firstTo_X5_firstTo_r2 _ (List.mem_of_getElem? (i := 5) rfl)) (mj_cons (mc_X5_firstTo_X5_firstTo_r2 _ (List.mem_of_getElem? (i := 6) rfl)) (mj_cons (mc_X5_firstTo_X5_firstTo_r2 _ (List.mem_of_getElem? (i := 7) rfl)) (mj_cons (mc_X5_firstTo_X5_firstTo_r2 _ (List.mem_of_getElem? (i := 8) rfl)) (mj_cons (mc_X5_firstTo_X5_firstTo_r2 _ (List.mem_of_getElem? (i := 9) rfl)) (mj_cons (mc_X5_firstTo_X5_firstTo_r2 _ (List.mem_of_getElem? (i := 10) rfl)) (mj_cons (mc_X5_firstTo_X5_firstTo_r2 _ (List.mem_of_getElem? (i := 11) rfl)) (mj_cons (mc_X5_firstTo_X5_firstTo_r2 _ (List.mem_of_getElem? (i := 12) rfl)) (mj_cons (mc_X5_firstTo_X5_firstTo_r2 _ (List.mem_of_getElem? (i := 13) rfl)) (mj_cons (mc_X5_firstTo_X5_firstTo_r2 _ (List.mem_of_getElem? (i := 14) rfl)) (mj_cons (mc_X5_firstTo_X5_firstTo_r2 _ (List.mem_of_getElem? (i := 15) rfl)) (mj_cons (mc_X5_firstTo_X5_firstTo_r2 _ (List.mem_of_getElem? (i := 16) rfl)) (mj_cons (mc_X5_firstTo_X5_firstTo_r2 _ (List.mem_of_getElem? (i := 17) rfl)) (mj_cons (mc_X5_firstTo_X5_firstTo_r2 _ (List.mem_of_getElem? (i := 18) rfl)) (mj_cons (mc_X5_firstTo_X5_firstTo_r2 _ (List.mem_of_getElem? (i := 19) rfl)) (mj_cons (mc_X5_firstTo_X5_firstTo_r2 _ (List.mem_of_getElem? (i := 20) rfl)) (mj_cons (mc_X5_firstTo_X5_firstTo_r2 _ (List.mem_of_getElem? (i := 21) rfl)) (mj_cons (mc_X5_firstTo_X5_firstTo_r2 _ (List.mem_of_getElem? (i := 22) rfl)) (mj_cons (mc_X5_firstTo_X5_firstTo_r2 _ (List.mem_of_getElem? (i := 23) rfl)) (mj_cons (mc_X5_firstTo_X5_firstTo_r3 _ (List.mem_of_getElem? (i := 0) rfl)) (mj_cons (mc_X5_firstTo_X5_firstTo_r3 _ (List.mem_of_getElem? (i := 1) rfl)) (mj_cons (mc_X5_firstTo_X5_firstTo_r3 _ (List.mem_of_getElem? (i := 2) rfl)) (mj_cons (mc_X5_firstTo_X5_firstTo_r3 _ (List.mem_of_getElem? (i := 3) rfl)) mj_nil)))))))))))))))))))))))) (mj_cons (mc_X5_firstTo_X5_firstTo_r3 _ (List.mem_of_getElem? (i := 4) rfl)) (mj_cons (mc_X5_firstTo_X5_firstTo_r3 _ (List.mem_of_getElem? (i := 5) rfl)) (mj_cons (mc_X5_firstTo_X5_firstTo_r3 _ (List.mem_of_getElem? (i := 6) rfl)) (mj_cons (mc_X5_firstTo_X5_firstTo_r3 _ (List.mem_of_getElem? (i := 7) rfl)) (mj_cons (mc_X5_firstTo_X5_firstTo_r3 _ (List.mem_of_getElem? (i := 8) rfl)) (mj_cons (mc_X5_firstTo_X5_firstTo_r3 _ (List.mem_of_getElem? (i := 9) rfl)) (mj_cons (mc_X5_firstTo_X5_firstTo_r3 _ (List.mem_of_getElem? (i := 10) rfl)) mj_nil))))))))) mc_X5_firstTo_X50) mc_X5_firstTo_X00)) (by decide +kernel)
set_option maxRecDepth 20000 in
theorem gX5_firstTo_X5_listMoves : GoodIn wsX5_firstTo (wsV RX5 62 RX5 yX5_listMoves wsX5_listMoves) := goodIn_app (mj_good (mj_cons (mc_X5_firstTo_X5_firstTo_r1 _ (List.mem_of_getElem? (i := 1) rfl)) (mj_cons (mc_X5_firstTo_X5_firstTo_r1 _ (List.mem_of_getElem? (i := 2) rfl)) (mj_cons (mc_X5_firstTo_X5_firstTo_r1 _ (List.mem_of_getElem? (i := 3) rfl)) (mj_cons (mc_X5_firstTo_X5_firstTo_r1 _ (List.mem_of_getElem? (i := 4) rfl)) mj_nil)))) (by decide +kernel)) ggX5_firstTo_X5_listMoves
set_option maxRecDepth 20000 in
theorem mc_X5_firstTo_X5_firstTo_r4 : mjIn wsX5_firstTo wsX5_firstTo_r4 := fun w h => (List.mem_cons_of_mem _ (List.mem_append_left _ (List.mem_append_left _ (List.mem_append_right _ (List.mem_append_right _ (List.mem_append_right _ h))))))
set_option maxRecDepth 20000 in
theorem ggX5_firstTo_X5_after : GoodIn wsX5_firstTo wsX5_after := mj_good (mj_cons (mc_X5_firstTo_X5_firstTo_r3 _ (List.mem_of_getElem? (i := 14) rfl)) (mj_app (mj_app (mj_cons (mc_X5_firstTo_X5_firstTo_r3 _ (List.mem_of_getElem? (i := 15) rfl)) (mj_cons (mc_X5_firstTo_X5_firstTo_r3 _ (List.mem_of_getElem? (i := 16) rfl)) (mj_cons (mc_X5_firstTo_X5_firstTo_r3 _ (List.mem_of_getElem? (i := 17) rfl)) (mj_cons (mc_X5_firstTo_X5_firstTo_r3 _ (List.mem_of_getElem? (i := 18) rfl)) (mj_cons (mc_X5_firstTo_X5_firstTo_r1 _ (List.mem_of_getElem? (i := 4) rfl)) (mj_cons (mc_X5_firstTo_X5_firstTo_r3 _ (List.mem_of_getElem? (i := 19) rfl)) (mj_cons (mc_X5_firstTo_X5_firstTo_r1 _ (List.mem_of_getElem? (i := 18) rfl)) (mj_cons (mc_X5_firstTo_X5_firstTo_r3 _ (List.mem_of_getElem? (i := 20) rfl)) (mj_cons (mc_X5_firstTo_X5_firstTo_r2 _ (List.mem_of_getElem? (i := 21) rfl)) (mj_cons (mc_X5_firstTo_X5_firstTo_r3 _ (List.mem_of_getElem? (i := 21) rfl)) (mj_cons (mc_X5_firstTo_X5_firstTo_r3 _ (List.mem_of_getElem? (i := 22) rfl)) (mj_cons (mc_X5_firstTo_X5_firstTo_r3 _ (List.mem_of_getElem? (i := 23) rfl)) (mj_cons (mc_X5_firstTo_X5_firstTo_r4 _ (List.mem_of_getElem? (i := 0) rfl)) (mj_cons (mc_X5_firstTo_X5_firstTo_r4 _ (List.mem_of_getElem? (i := 1) rfl)) (mj_cons (mc_X5_firstTo_X5_firstTo_r4 _ (List.mem_of_getElem? (i := 2) rfl)) (mj_cons (mc_X5_firstTo_X5_firstTo_r4 _ (List.mem_of_getElem? (i := 3) rfl)) (mj_cons (mc_X5_firstTo_X5_firstTo_r4 _ (List.mem_of_getElem? (i := 4) rfl)) (mj_cons (mc_X5_firstTo_X5_firstTo_r4 _ (List.mem_of_getElem? (i := 5) rfl)) (mj_cons (mc_X5_firstTo_X5_firstTo_r4 _ (List.mem_of_getElem? (i := 6) rfl)) (mj_cons (mc_X5_firstTo_X5_firstTo_r4 _ (List.mem_of_getElem? (i := 7) rfl)) (mj_cons (mc_X5_firstTo_X5_firstTo_r4 _ (List.mem_of_getElem? (i := 8) rfl)) (mj_cons (mc_X5_firstTo_X5_firstTo_r1 _ (List.mem_of_getElem? (i := 19) rfl)) (mj_cons (mc_X5_firstTo_X5_firstTo_r4 _ (List.mem_of_getElem? (i := 9) rfl)) (mj_cons (mc_X5_firstTo_X5_firstTo_r4 _ (List.mem_of_getElem? (i := 10) rfl)) mj_nil)))))))))))))))))))))))) (mj_cons (mc_X5_firstTo_X5_firstTo_r4 _ (List.mem_of_getElem? (i := 11) rfl)) (mj_cons (mc_X5_firstTo_X5_firstTo_r4 _ (List.mem_of_getElem? (i := 12) rfl)) (mj_cons (mc_X5_firstTo_X5_firstTo_r4 _ (List.mem_of_getElem? (i := 13) rfl)) (mj_cons (mc_X5_firstTo_X5_firstTo_r4 _ (List.mem_of_getElem? (i := 14) rfl)) (mj_cons (mc_X5_firstTo_X5_firstTo_r4 _ (List.mem_of_getElem? (i := 15) rfl)) (mj_cons (mc_X5_firstTo_X5_firstTo_r4 _ (List.mem_of_getElem? (i := 16) rfl)) (mj_cons (mc_X5_firstTo_X5_firstTo_r4 _ (List.mem_of_getElem? (i := 17) rfl)) mj_nil)))))))) mc_X5_firstTo_X50)) (by decide +kernel)
set_option maxRecDepth 20000 in
theorem gX5_firstTo_X5_after : GoodIn wsX5_firstTo (wsV RX5 148 RX5 yX5_after wsX5_after) := goodIn_app (mj_good (mj_cons (mc_X5_firstTo_X5_firstTo_r3 _ (List.mem_of_getElem? (i := 11) rfl)) (mj_cons (mc_X5_firstTo_X5_firstTo_r3 _ (List.mem_of_getElem? (i := 12) rfl)) (mj_cons (mc_X5_firstTo_X5_firstTo_r3 _ (List.mem_of_getElem? (i := 13) rfl)) (mj_cons (mc_X5_firstTo_X5_firstTo_r1 _ (List.mem_of_getElem? (i := 4) rfl)) mj_nil)))) (by decide +kernel)) ggX5_firstTo_X5_after
set_option maxRecDepth 20000 in
theorem ggX5_firstTo_X5_farOf : GoodIn wsX5_firstTo wsX5_farOf := mj_good (mj_cons (mc_X5_firstTo_X5_firstTo_r4 _ (List.mem_of_getElem? (i := 21) rfl)) (mj_app (mj_cons (mc_X5_firstTo_X5_firstTo_r1 _ (List.mem_of_getElem? (i := 16) rfl)) (mj_cons (mc_X5_firstTo_X5_firstTo_r4 _ (List.mem_of_getElem? (i := 22) rfl)) mj_nil)) mc_X5_firstTo_X50)) (by decide +kernel)
set_option maxRecDepth 20000 in
theorem gX5_firstTo_X5_farOf : GoodIn wsX5_firstTo (wsV RX5 151 RX5 yX5_farOf wsX5_farOf) := goodIn_app (mj_good (mj_cons (mc_X5_firstTo_X5_firstTo_r4 _ (List.mem_of_getElem? (i := 18) rfl)) (mj_cons (mc_X5_firstTo_X5_firstTo_r4 _ (List.mem_of_getElem? (i := 19) rfl)) (mj_cons (mc_X5_firstTo_X5_firstTo_r4 _ (List.mem_of_getElem? (i := 20) rfl)) (mj_cons (mc_X5_firstTo_X5_firstTo_r1 _ (List.mem_of_getElem? (i := 4) rfl)) mj_nil)))) (by decide +kernel)) ggX5_firstTo_X5_farOf
theorem dX5_firstTo_0 : decode cX5_firstTo 0 = .ok (.aload_n 0, 1) := by decide +kernel
theorem dX5_firstTo_1 : decode cX5_firstTo 1 = .ok (.iload_n 1, 1) := by decide +kernel
theorem dX5_firstTo_2 : decode cX5_firstTo 2 = .ok (.iload_n 3, 1) := by decide +kernel
theorem dX5_firstTo_3 : decode cX5_firstTo 3 = .ok (.iconst 0, 1) := by decide +kernel
theorem dX5_firstTo_4 : decode cX5_firstTo 4 = .ok (.invokevirtual 62, 3) := by decide +kernel
theorem dX5_firstTo_7 : decode cX5_firstTo 7 = .ok (.istore 4, 2) := by decide +kernel
theorem dX5_firstTo_9 : decode cX5_firstTo 9 = .ok (.iconst 0, 1) := by decide +kernel
theorem dX5_firstTo_10 : decode cX5_firstTo 10 = .ok (.istore 5, 2) := by decide +kernel
theorem dX5_firstTo_12 : decode cX5_firstTo 12 = .ok (.iload 5, 2) := by decide +kernel
theorem dX5_firstTo_14 : decode cX5_firstTo 14 = .ok (.iload 4, 2) := by decide +kernel
theorem dX5_firstTo_16 : decode cX5_firstTo 16 = .ok (.if_icmp .ge 37, 3) := by decide +kernel
theorem dX5_firstTo_19 : decode cX5_firstTo 19 = .ok (.aload_n 0, 1) := by decide +kernel
theorem dX5_firstTo_20 : decode cX5_firstTo 20 = .ok (.aload_n 0, 1) := by decide +kernel
theorem dX5_firstTo_21 : decode cX5_firstTo 21 = .ok (.iload_n 1, 1) := by decide +kernel
theorem dX5_firstTo_22 : decode cX5_firstTo 22 = .ok (.aload_n 0, 1) := by decide +kernel
theorem dX5_firstTo_23 : decode cX5_firstTo 23 = .ok (.getfield 32, 3) := by decide +kernel
theorem dX5_firstTo_26 : decode cX5_firstTo 26 = .ok (.iload 5, 2) := by decide +kernel
theorem dX5_firstTo_28 : decode cX5_firstTo 28 = .ok (.iaload, 1) := by decide +kernel
theorem dX5_firstTo_29 : decode cX5_firstTo 29 = .ok (.invokevirtual 148, 3) := by decide +kernel
theorem dX5_firstTo_32 : decode cX5_firstTo 32 = .ok (.invokevirtual 151, 3) := by decide +kernel
theorem dX5_firstTo_35 : decode cX5_firstTo 35 = .ok (.iload_n 2, 1) := by decide +kernel
theorem dX5_firstTo_36 : decode cX5_firstTo 36 = .ok (.if_icmp .ne 11, 3) := by decide +kernel
theorem dX5_firstTo_39 : decode cX5_firstTo 39 = .ok (.aload_n 0, 1) := by decide +kernel
theorem dX5_firstTo_40 : decode cX5_firstTo 40 = .ok (.getfield 32, 3) := by decide +kernel
theorem dX5_firstTo_43 : decode cX5_firstTo 43 = .ok (.iload 5, 2) := by decide +kernel
theorem dX5_firstTo_45 : decode cX5_firstTo 45 = .ok (.iaload, 1) := by decide +kernel
theorem dX5_firstTo_46 : decode cX5_firstTo 46 = .ok (.ireturn, 1) := by decide +kernel
theorem dX5_firstTo_47 : decode cX5_firstTo 47 = .ok (.iinc 5 1, 3) := by decide +kernel
theorem dX5_firstTo_50 : decode cX5_firstTo 50 = .ok (.goto (-38), 3) := by decide +kernel
theorem dX5_firstTo_53 : decode cX5_firstTo 53 = .ok (.iconst 0, 1) := by decide +kernel
theorem dX5_firstTo_54 : decode cX5_firstTo 54 = .ok (.ireturn, 1) := by decide +kernel
set_option maxRecDepth 20000 in
theorem mc_X5_plansWithout_X5_plansWithout_r1 : mjIn wsX5_plansWithout wsX5_plansWithout_r1 := fun w h => (List.mem_cons_of_mem _ (List.mem_append_left _ (List.mem_append_left _ (List.mem_append_left _ h))))
set_option maxRecDepth 20000 in
theorem mc_X5_plansWithout_X50 : mjIn wsX5_plansWithout wsX50 := fun w h => (List.mem_cons_of_mem _ (List.mem_append_left _ (List.mem_append_right _ h)))
set_option maxRecDepth 20000 in
theorem ggX5_plansWithout_X5_addWays : GoodIn wsX5_plansWithout wsX5_addWays := mj_good (mj_cons (mc_X5_plansWithout_X5_plansWithout_r1 _ (List.mem_of_getElem? (i := 9) rfl)) (mj_app (mj_cons (mc_X5_plansWithout_X5_plansWithout_r1 _ (List.mem_of_getElem? (i := 1) rfl)) (mj_cons (mc_X5_plansWithout_X5_plansWithout_r1 _ (List.mem_of_getElem? (i := 2) rfl)) (mj_cons (mc_X5_plansWithout_X5_plansWithout_r1 _ (List.mem_of_getElem? (i := 3) rfl)) (mj_cons (mc_X5_plansWithout_X5_plansWithout_r1 _ (List.mem_of_getElem? (i := 10) rfl)) (mj_cons (mc_X5_plansWithout_X5_plansWithout_r1 _ (List.mem_of_getElem? (i := 11) rfl)) (mj_cons (mc_X5_plansWithout_X5_plansWithout_r1 _ (List.mem_of_getElem? (i := 8) rfl)) (mj_cons (mc_X5_plansWithout_X5_plansWithout_r1 _ (List.mem_of_getElem? (i := 12) rfl)) (mj_cons (mc_X5_plansWithout_X5_plansWithout_r1 _ (List.mem_of_getElem? (i := 13) rfl)) mj_nil)))))))) mc_X5_plansWithout_X50)) (by decide +kernel)
set_option maxRecDepth 20000 in
theorem gX5_plansWithout_X5_addWays : GoodIn wsX5_plansWithout (wsV RX5 170 RX5 yX5_addWays wsX5_addWays) := goodIn_app (mj_good (mj_cons (mc_X5_plansWithout_X5_plansWithout_r1 _ (List.mem_of_getElem? (i := 5) rfl)) (mj_cons (mc_X5_plansWithout_X5_plansWithout_r1 _ (List.mem_of_getElem? (i := 6) rfl)) (mj_cons (mc_X5_plansWithout_X5_plansWithout_r1 _ (List.mem_of_getElem? (i := 7) rfl)) (mj_cons (mc_X5_plansWithout_X5_plansWithout_r1 _ (List.mem_of_getElem? (i := 8) rfl)) mj_nil)))) (by decide +kernel)) ggX5_plansWithout_X5_addWays
set_option maxRecDepth 20000 in
theorem ggX5_plansWithout_X5_capped : GoodIn wsX5_plansWithout wsX5_capped := mj_good (mj_cons (mc_X5_plansWithout_X5_plansWithout_r1 _ (List.mem_of_getElem? (i := 12) rfl)) (mj_cons (mc_X5_plansWithout_X5_plansWithout_r1 _ (List.mem_of_getElem? (i := 13) rfl)) mj_nil)) (by decide +kernel)
set_option maxRecDepth 20000 in
theorem gX5_plansWithout_X5_capped : GoodIn wsX5_plansWithout (va_wsS RX5 174 yX5_capped wsX5_capped) := goodIn_app (mj_good (mj_cons (mc_X5_plansWithout_X5_plansWithout_r1 _ (List.mem_of_getElem? (i := 10) rfl)) (mj_cons (mc_X5_plansWithout_X5_plansWithout_r1 _ (List.mem_of_getElem? (i := 11) rfl)) (mj_cons (mc_X5_plansWithout_X5_plansWithout_r1 _ (List.mem_of_getElem? (i := 8) rfl)) mj_nil))) (by decide +kernel)) ggX5_plansWithout_X5_capped
set_option maxRecDepth 20000 in
theorem mc_X5_plansWithout_X5_plansWithout_r2 : mjIn wsX5_plansWithout wsX5_plansWithout_r2 := fun w h => (List.mem_cons_of_mem _ (List.mem_append_left _ (List.mem_append_left _ (List.mem_append_right _ (List.mem_append_left _ h)))))
set_option maxRecDepth 20000 in
theorem mc_X5_plansWithout_X5_plansWithout_r3 : mjIn wsX5_plansWithout wsX5_plansWithout_r3 := fun w h => (List.mem_cons_of_mem _ (List.mem_append_left _ (List.mem_append_left _ (List.mem_append_right _ (List.mem_append_right _ (List.mem_append_left _ h))))))
set_option maxRecDepth 20000 in
theorem mc_X5_plansWithout_X5_plansWithout_r4 : mjIn wsX5_plansWithout wsX5_plansWithout_r4 := fun w h => (List.mem_cons_of_mem _ (List.mem_append_left _ (List.mem_append_left _ (List.mem_append_right _ (List.mem_append_right _ (List.mem_append_right _ (List.mem_append_left _ h)))))))
set_option maxRecDepth 20000 in
theorem mc_X5_plansWithout_X5_plansWithout_r5 : mjIn wsX5_plansWithout wsX5_plansWithout_r5 := fun w h => (List.mem_cons_of_mem _ (List.mem_append_left _ (List.mem_append_left _ (List.mem_append_right _ (List.mem_append_right _ (List.mem_append_right _ (List.mem_append_right _ h)))))))
set_option maxRecDepth 20000 in
theorem mc_X5_plansWithout_X00 : mjIn wsX5_plansWithout wsX00 := fun w h => (List.mem_cons_of_mem _ (List.mem_append_right _ h))
set_option maxRecDepth 20000 in
theorem ggX5_plansWithout_X5_handOn : GoodIn wsX5_plansWithout wsX5_handOn := mj_good (mj_cons (mc_X5_plansWithout_X5_plansWithout_r1 _ (List.mem_of_getElem? (i := 17) rfl)) (mj_app (mj_app (mj_app (mj_cons (mc_X5_plansWithout_X5_plansWithout_r1 _ (List.mem_of_getElem? (i := 18) rfl)) (mj_cons (mc_X5_plansWithout_X5_plansWithout_r1 _ (List.mem_of_getElem? (i := 4) rfl)) (mj_cons (mc_X5_plansWithout_X5_plansWithout_r1 _ (List.mem_of_getElem? (i := 1) rfl)) (mj_cons (mc_X5_plansWithout_X5_plansWithout_r1 _ (List.mem_of_getElem? (i := 19) rfl)) (mj_cons (mc_X5_plansWithout_X5_plansWithout_r1 _ (List.mem_of_getElem? (i := 20) rfl)) (mj_cons (mc_X5_plansWithout_X5_plansWithout_r1 _ (List.mem_of_getElem? (i := 21) rfl)) (mj_cons (mc_X5_plansWithout_X5_plansWithout_r1 _ (List.mem_of_getElem? (i := 8) rfl)) (mj_cons (mc_X5_plansWithout_X5_plansWithout_r1 _ (List.mem_of_getElem? (i := 22) rfl)) (mj_cons (mc_X5_plansWithout_X5_plansWithout_r1 _ (List.mem_of_getElem? (i := 23) rfl)) (mj_cons (mc_X5_plansWithout_X5_plansWithout_r2 _ (List.mem_of_getElem? (i := 0) rfl)) (mj_cons (mc_X5_plansWithout_X5_plansWithout_r2 _ (List.mem_of_getElem? (i := 1) rfl)) (mj_cons (mc_X5_plansWithout_X5_plansWithout_r2 _ (List.mem_of_getElem? (i := 2) rfl)) (mj_cons (mc_X5_plansWithout_X5_plansWithout_r2 _ (List.mem_of_getElem? (i := 3) rfl)) (mj_cons (mc_X5_plansWithout_X5_plansWithout_r2 _ (List.mem_of_getElem? (i := 4) rfl)) (mj_cons (mc_X5_plansWithout_X5_plansWithout_r2 _ (List.mem_of_getElem? (i := 5) rfl)) (mj_cons (mc_X5_plansWithout_X5_plansWithout_r2 _ (List.mem_of_getElem? (i := 6) rfl)) (mj_cons (mc_X5_plansWithout_X5_plansWithout_r2 _ (List.mem_of_getElem? (i := 7) rfl)) (mj_cons (mc_X5_plansWithout_X5_plansWithout_r2 _ (List.mem_of_getElem? (i := 8) rfl)) (mj_cons (mc_X5_plansWithout_X5_plansWithout_r1 _ (List.mem_of_getElem? (i := 0) rfl)) (mj_cons (mc_X5_plansWithout_X5_plansWithout_r2 _ (List.mem_of_getElem? (i := 9) rfl)) (mj_cons (mc_X5_plansWithout_X5_plansWithout_r2 _ (List.mem_of_getElem? (i := 10) rfl)) (mj_cons (mc_X5_plansWithout_X5_plansWithout_r2 _ (List.mem_of_getElem? (i := 11) rfl)) (mj_cons (mc_X5_plansWithout_X5_plansWithout_r2 _ (List.mem_of_getElem? (i := 12) rfl)) (mj_cons (mc_X5_plansWithout_X5_plansWithout_r2 _ (List.mem_of_getElem? (i := 13) rfl)) mj_nil)))))))))))))))))))))))) (mj_app (mj_cons (mc_X5_plansWithout_X5_plansWithout_r2 _ (List.mem_of_getElem? (i := 14) rfl)) (mj_cons (mc_X5_plansWithout_X5_plansWithout_r2 _ (List.mem_of_getElem? (i := 15) rfl)) (mj_cons (mc_X5_plansWithout_X5_plansWithout_r2 _ (List.mem_of_getElem? (i := 16) rfl)) (mj_cons (mc_X5_plansWithout_X5_plansWithout_r2 _ (List.mem_of_getElem? (i := 17) rfl)) (mj_cons (mc_X5_plansWithout_X5_plansWithout_r2 _ (List.mem_of_getElem? (i := 18) rfl)) (mj_cons (mc_X5_plansWithout_X5_plansWithout_r2 _ (List.mem_of_getElem? (i := 19) rfl)) (mj_cons (mc_X5_plansWithout_X5_plansWithout_r2 _ (List.mem_of_getElem? (i := 20) rfl)) (mj_cons (mc_X5_plansWithout_X5_plansWithout_r2 _ (List.mem_of_getElem? (i := 21) rfl)) (mj_cons (mc_X5_plansWithout_X5_plansWithout_r2 _ (List.mem_of_getElem? (i := 22) rfl)) (mj_cons (mc_X5_plansWithout_X5_plansWithout_r2 _ (List.mem_of_getElem? (i := 23) rfl)) (mj_cons (mc_X5_plansWithout_X5_plansWithout_r3 _ (List.mem_of_getElem? (i := 0) rfl)) (mj_cons (mc_X5_plansWithout_X5_plansWithout_r3 _ (List.mem_of_getElem? (i := 1) rfl)) (mj_cons (mc_X5_plansWithout_X5_plansWithout_r3 _ (List.mem_of_getElem? (i := 2) rfl)) (mj_cons (mc_X5_plansWithout_X5_plansWithout_r3 _ (List.mem_of_getElem? (i := 3) rfl)) (mj_cons (mc_X5_plansWithout_X5_plansWithout_r3 _ (List.mem_of_getElem? (i := 4) rfl)) (mj_cons (mc_X5_plansWithout_X5_plansWithout_r3 _ (List.mem_of_getElem? (i := 5) rfl)) (mj_cons (mc_X5_plansWithout_X5_plansWithout_r3 _ (List.mem_of_getElem? (i := 6) rfl)) (mj_cons (mc_X5_plansWithout_X5_plansWithout_r3 _ (List.mem_of_getElem? (i := 7) rfl)) (mj_cons (mc_X5_plansWithout_X5_plansWithout_r3 _ (List.mem_of_getElem? (i := 8) rfl)) (mj_cons (mc_X5_plansWithout_X5_plansWithout_r3 _ (List.mem_of_getElem? (i := 9) rfl)) (mj_cons (mc_X5_plansWithout_X5_plansWithout_r3 _ (List.mem_of_getElem? (i := 10) rfl)) (mj_cons (mc_X5_plansWithout_X5_plansWithout_r3 _ (List.mem_of_getElem? (i := 11) rfl)) (mj_cons (mc_X5_plansWithout_X5_plansWithout_r3 _ (List.mem_of_getElem? (i := 12) rfl)) (mj_cons (mc_X5_plansWithout_X5_plansWithout_r3 _ (List.mem_of_getElem? (i := 13) rfl)) mj_nil)))))))))))))))))))))))) (mj_app (mj_cons (mc_X5_plansWithout_X5_plansWithout_r3 _ (List.mem_of_getElem? (i := 14) rfl)) (mj_cons (mc_X5_plansWithout_X5_plansWithout_r3 _ (List.mem_of_getElem? (i := 15) rfl)) (mj_cons (mc_X5_plansWithout_X5_plansWithout_r3 _ (List.mem_of_getElem? (i := 16) rfl)) (mj_cons (mc_X5_plansWithout_X5_plansWithout_r3 _ (List.mem_of_getElem? (i := 17) rfl)) (mj_cons (mc_X5_plansWithout_X5_plansWithout_r3 _ (List.mem_of_getElem? (i := 18) rfl)) (mj_cons (mc_X5_plansWithout_X5_plansWithout_r3 _ (List.mem_of_getElem? (i := 19) rfl)) (mj_cons (mc_X5_plansWithout_X5_plansWithout_r3 _ (List.mem_of_getElem? (i := 20) rfl)) (mj_cons (mc_X5_plansWithout_X5_plansWithout_r3 _ (List.mem_of_getElem? (i := 21) rfl)) (mj_cons (mc_X5_plansWithout_X5_plansWithout_r3 _ (List.mem_of_getElem? (i := 22) rfl)) (mj_cons (mc_X5_plansWithout_X5_plansWithout_r3 _ (List.mem_of_getElem? (i := 23) rfl)) (mj_cons (mc_X5_plansWithout_X5_plansWithout_r4 _ (List.mem_of_getElem? (i := 0) rfl)) (mj_cons (mc_X5_plansWithout_X5_plansWithout_r4 _ (List.mem_of_getElem? (i := 1) rfl)) (mj_cons (mc_X5_plansWithout_X5_plansWithout_r4 _ (List.mem_of_getElem? (i := 2) rfl)) (mj_cons (mc_X5_plansWithout_X5_plansWithout_r4 _ (List.mem_of_getElem? (i := 3) rfl)) (mj_cons (mc_X5_plansWithout_X5_plansWithout_r4 _ (List.mem_of_getElem? (i := 4) rfl)) (mj_cons (mc_X5_plansWithout_X5_plansWithout_r4 _ (List.mem_of_getElem? (i := 5) rfl)) (mj_cons (mc_X5_plansWithout_X5_plansWithout_r4 _ (List.mem_of_getElem? (i := 6) rfl)) (mj_cons (mc_X5_plansWithout_X5_plansWithout_r4 _ (List.mem_of_getElem? (i := 7) rfl)) (mj_cons (mc_X5_plansWithout_X5_plansWithout_r4 _ (List.mem_of_getElem? (i := 8) rfl)) (mj_cons (mc_X5_plansWithout_X5_plansWithout_r4 _ (List.mem_of_getElem? (i := 9) rfl)) (mj_cons (mc_X5_plansWithout_X5_plansWithout_r4 _ (List.mem_of_getElem? (i := 10) rfl)) (mj_cons (mc_X5_plansWithout_X5_plansWithout_r4 _ (List.mem_of_getElem? (i := 11) rfl)) (mj_cons (mc_X5_plansWithout_X5_plansWithout_r4 _ (List.mem_of_getElem? (i := 12) rfl)) (mj_cons (mc_X5_plansWithout_X5_plansWithout_r4 _ (List.mem_of_getElem? (i := 13) rfl)) mj_nil)))))))))))))))))))))))) (mj_app (mj_cons (mc_X5_plansWithout_X5_plansWithout_r4 _ (List.mem_of_getElem? (i := 14) rfl)) (mj_cons (mc_X5_plansWithout_X5_plansWithout_r4 _ (List.mem_of_getElem? (i := 15) rfl)) (mj_cons (mc_X5_plansWithout_X5_plansWithout_r4 _ (List.mem_of_getElem? (i := 16) rfl)) (mj_cons (mc_X5_plansWithout_X5_plansWithout_r4 _ (List.mem_of_getElem? (i := 17) rfl)) (mj_cons (mc_X5_plansWithout_X5_plansWithout_r4 _ (List.mem_of_getElem? (i := 18) rfl)) (mj_cons (mc_X5_plansWithout_X5_plansWithout_r4 _ (List.mem_of_getElem? (i := 19) rfl)) (mj_cons (mc_X5_plansWithout_X5_plansWithout_r4 _ (List.mem_of_getElem? (i := 20) rfl)) (mj_cons (mc_X5_plansWithout_X5_plansWithout_r4 _ (List.mem_of_getElem? (i := 21) rfl)) (mj_cons (mc_X5_plansWithout_X5_plansWithout_r4 _ (List.mem_of_getElem? (i := 22) rfl)) (mj_cons (mc_X5_plansWithout_X5_plansWithout_r4 _ (List.mem_of_getElem? (i := 23) rfl)) (mj_cons (mc_X5_plansWithout_X5_plansWithout_r5 _ (List.mem_of_getElem? (i := 0) rfl)) (mj_cons (mc_X5_plansWithout_X5_plansWithout_r5 _ (List.mem_of_getElem? (i := 1) rfl)) (mj_cons (mc_X5_plansWithout_X5_plansWithout_r5 _ (List.mem_of_getElem? (i := 2) rfl)) (mj_cons (mc_X5_plansWithout_X5_plansWithout_r5 _ (List.mem_of_getElem? (i := 3) rfl)) (mj_cons (mc_X5_plansWithout_X5_plansWithout_r5 _ (List.mem_of_getElem? (i := 4) rfl)) (mj_cons (mc_X5_plansWithout_X5_plansWithout_r5 _ (List.mem_of_getElem? (i := 5) rfl)) (mj_cons (mc_X5_plansWithout_X5_plansWithout_r5 _ (List.mem_of_getElem? (i := 6) rfl)) (mj_cons (mc_X5_plansWithout_X5_plansWithout_r5 _ (List.mem_of_getElem? (i := 7) rfl)) (mj_cons (mc_X5_plansWithout_X5_plansWithout_r5 _ (List.mem_of_getElem? (i := 8) rfl)) (mj_cons (mc_X5_plansWithout_X5_plansWithout_r5 _ (List.mem_of_getElem? (i := 9) rfl)) (mj_cons (mc_X5_plansWithout_X5_plansWithout_r1 _ (List.mem_of_getElem? (i := 5) rfl)) (mj_cons (mc_X5_plansWithout_X5_plansWithout_r1 _ (List.mem_of_getElem? (i := 6) rfl)) (mj_cons (mc_X5_plansWithout_X5_plansWithout_r1 _ (List.mem_of_getElem? (i := 7) rfl)) (mj_cons (mc_X5_plansWithout_X5_plansWithout_r1 _ (List.mem_of_getElem? (i := 9) rfl)) mj_nil)))))))))))))))))))))))) (mj_cons (mc_X5_plansWithout_X5_plansWithout_r1 _ (List.mem_of_getElem? (i := 2) rfl)) (mj_cons (mc_X5_plansWithout_X5_plansWithout_r1 _ (List.mem_of_getElem? (i := 3) rfl)) (mj_cons (mc_X5_plansWithout_X5_plansWithout_r1 _ (List.mem_of_getElem? (i := 10) rfl)) (mj_cons (mc_X5_plansWithout_X5_plansWithout_r1 _ (List.mem_of_getElem? (i := 11) rfl)) (mj_cons (mc_X5_plansWithout_X5_plansWithout_r1 _ (List.mem_of_getElem? (i := 12) rfl)) (mj_cons (mc_X5_plansWithout_X5_plansWithout_r1 _ (List.mem_of_getElem? (i := 13) rfl)) mj_nil)))))))))) mc_X5_plansWithout_X50) mc_X5_plansWithout_X00)) (by decide +kernel)
set_option maxRecDepth 20000 in
theorem gX5_plansWithout_X5_handOn : GoodIn wsX5_plansWithout (wsV RX5 178 RX5 yX5_handOn wsX5_handOn) := goodIn_app (mj_good (mj_cons (mc_X5_plansWithout_X5_plansWithout_r1 _ (List.mem_of_getElem? (i := 14) rfl)) (mj_cons (mc_X5_plansWithout_X5_plansWithout_r1 _ (List.mem_of_getElem? (i := 15) rfl)) (mj_cons (mc_X5_plansWithout_X5_plansWithout_r1 _ (List.mem_of_getElem? (i := 16) rfl)) (mj_cons (mc_X5_plansWithout_X5_plansWithout_r1 _ (List.mem_of_getElem? (i := 8) rfl)) mj_nil)))) (by decide +kernel)) ggX5_plansWithout_X5_handOn
theorem dX5_plansWithout_0 : decode cX5_plansWithout 0 = .ok (.iconst 0, 1) := by decide +kernel
theorem dX5_plansWithout_1 : decode cX5_plansWithout 1 = .ok (.istore_n 2, 1) := by decide +kernel
theorem dX5_plansWithout_2 : decode cX5_plansWithout 2 = .ok (.iload_n 2, 1) := by decide +kernel
theorem dX5_plansWithout_3 : decode cX5_plansWithout 3 = .ok (.aload_n 0, 1) := by decide +kernel
theorem dX5_plansWithout_4 : decode cX5_plansWithout 4 = .ok (.getfield 54, 3) := by decide +kernel
theorem dX5_plansWithout_7 : decode cX5_plansWithout 7 = .ok (.if_icmp .ge 16, 3) := by decide +kernel
theorem dX5_plansWithout_10 : decode cX5_plansWithout 10 = .ok (.aload_n 0, 1) := by decide +kernel
theorem dX5_plansWithout_11 : decode cX5_plansWithout 11 = .ok (.getfield 41, 3) := by decide +kernel
theorem dX5_plansWithout_14 : decode cX5_plansWithout 14 = .ok (.iload_n 2, 1) := by decide +kernel
theorem dX5_plansWithout_15 : decode cX5_plansWithout 15 = .ok (.lconst 0, 1) := by decide +kernel
theorem dX5_plansWithout_16 : decode cX5_plansWithout 16 = .ok (.lastore, 1) := by decide +kernel
theorem dX5_plansWithout_17 : decode cX5_plansWithout 17 = .ok (.iinc 2 1, 3) := by decide +kernel
theorem dX5_plansWithout_20 : decode cX5_plansWithout 20 = .ok (.goto (-18), 3) := by decide +kernel
theorem dX5_plansWithout_23 : decode cX5_plansWithout 23 = .ok (.aload_n 0, 1) := by decide +kernel
theorem dX5_plansWithout_24 : decode cX5_plansWithout 24 = .ok (.iconst 0, 1) := by decide +kernel
theorem dX5_plansWithout_25 : decode cX5_plansWithout 25 = .ok (.putfield 137, 3) := by decide +kernel
theorem dX5_plansWithout_28 : decode cX5_plansWithout 28 = .ok (.aload_n 0, 1) := by decide +kernel
theorem dX5_plansWithout_29 : decode cX5_plansWithout 29 = .ok (.iconst 0, 1) := by decide +kernel
theorem dX5_plansWithout_30 : decode cX5_plansWithout 30 = .ok (.lconst 1, 1) := by decide +kernel
theorem dX5_plansWithout_31 : decode cX5_plansWithout 31 = .ok (.invokevirtual 170, 3) := by decide +kernel
theorem dX5_plansWithout_34 : decode cX5_plansWithout 34 = .ok (.lconst 0, 1) := by decide +kernel
theorem dX5_plansWithout_35 : decode cX5_plansWithout 35 = .ok (.lstore_n 2, 1) := by decide +kernel
theorem dX5_plansWithout_36 : decode cX5_plansWithout 36 = .ok (.iconst 0, 1) := by decide +kernel
theorem dX5_plansWithout_37 : decode cX5_plansWithout 37 = .ok (.istore 4, 2) := by decide +kernel
theorem dX5_plansWithout_39 : decode cX5_plansWithout 39 = .ok (.iload 4, 2) := by decide +kernel
theorem dX5_plansWithout_41 : decode cX5_plansWithout 41 = .ok (.aload_n 0, 1) := by decide +kernel
theorem dX5_plansWithout_42 : decode cX5_plansWithout 42 = .ok (.getfield 137, 3) := by decide +kernel
theorem dX5_plansWithout_45 : decode cX5_plansWithout 45 = .ok (.if_icmp .ge 58, 3) := by decide +kernel
theorem dX5_plansWithout_48 : decode cX5_plansWithout 48 = .ok (.iload 4, 2) := by decide +kernel
theorem dX5_plansWithout_50 : decode cX5_plansWithout 50 = .ok (.sipush 6000, 3) := by decide +kernel
theorem dX5_plansWithout_53 : decode cX5_plansWithout 53 = .ok (.if_icmp .ge 50, 3) := by decide +kernel
theorem dX5_plansWithout_56 : decode cX5_plansWithout 56 = .ok (.aload_n 0, 1) := by decide +kernel
theorem dX5_plansWithout_57 : decode cX5_plansWithout 57 = .ok (.getfield 38, 3) := by decide +kernel
theorem dX5_plansWithout_60 : decode cX5_plansWithout 60 = .ok (.iload 4, 2) := by decide +kernel
theorem dX5_plansWithout_62 : decode cX5_plansWithout 62 = .ok (.iaload, 1) := by decide +kernel
theorem dX5_plansWithout_63 : decode cX5_plansWithout 63 = .ok (.istore 5, 2) := by decide +kernel
theorem dX5_plansWithout_65 : decode cX5_plansWithout 65 = .ok (.aload_n 0, 1) := by decide +kernel
theorem dX5_plansWithout_66 : decode cX5_plansWithout 66 = .ok (.getfield 35, 3) := by decide +kernel
theorem dX5_plansWithout_69 : decode cX5_plansWithout 69 = .ok (.iload 5, 2) := by decide +kernel
theorem dX5_plansWithout_71 : decode cX5_plansWithout 71 = .ok (.iaload, 1) := by decide +kernel
theorem dX5_plansWithout_72 : decode cX5_plansWithout 72 = .ok (.ifCond .ne 18, 3) := by decide +kernel
theorem dX5_plansWithout_75 : decode cX5_plansWithout 75 = .ok (.lload_n 2, 1) := by decide +kernel
theorem dX5_plansWithout_76 : decode cX5_plansWithout 76 = .ok (.aload_n 0, 1) := by decide +kernel
theorem dX5_plansWithout_77 : decode cX5_plansWithout 77 = .ok (.getfield 41, 3) := by decide +kernel
theorem dX5_plansWithout_80 : decode cX5_plansWithout 80 = .ok (.iload 5, 2) := by decide +kernel
theorem dX5_plansWithout_82 : decode cX5_plansWithout 82 = .ok (.laload, 1) := by decide +kernel
theorem dX5_plansWithout_83 : decode cX5_plansWithout 83 = .ok (.invokestatic 174, 3) := by decide +kernel
theorem dX5_plansWithout_86 : decode cX5_plansWithout 86 = .ok (.lstore_n 2, 1) := by decide +kernel
theorem dX5_plansWithout_87 : decode cX5_plansWithout 87 = .ok (.goto 10, 3) := by decide +kernel
theorem dX5_plansWithout_90 : decode cX5_plansWithout 90 = .ok (.aload_n 0, 1) := by decide +kernel
theorem dX5_plansWithout_91 : decode cX5_plansWithout 91 = .ok (.iload 5, 2) := by decide +kernel
theorem dX5_plansWithout_93 : decode cX5_plansWithout 93 = .ok (.iload_n 1, 1) := by decide +kernel
theorem dX5_plansWithout_94 : decode cX5_plansWithout 94 = .ok (.invokevirtual 178, 3) := by decide +kernel
theorem dX5_plansWithout_97 : decode cX5_plansWithout 97 = .ok (.iinc 4 1, 3) := by decide +kernel
theorem dX5_plansWithout_100 : decode cX5_plansWithout 100 = .ok (.goto (-61), 3) := by decide +kernel
theorem dX5_plansWithout_103 : decode cX5_plansWithout 103 = .ok (.lload_n 2, 1) := by decide +kernel
theorem dX5_plansWithout_104 : decode cX5_plansWithout 104 = .ok (.lreturn, 1) := by decide +kernel
set_option maxRecDepth 20000 in
theorem mc_X5_handOn_X5_handOn_r1 : mjIn wsX5_handOn wsX5_handOn_r1 := fun w h => (List.mem_cons_of_mem _ (List.mem_append_left _ (List.mem_append_left _ (List.mem_append_left _ h))))
set_option maxRecDepth 20000 in
theorem mc_X5_handOn_X5_handOn_r2 : mjIn wsX5_handOn wsX5_handOn_r2 := fun w h => (List.mem_cons_of_mem _ (List.mem_append_left _ (List.mem_append_left _ (List.mem_append_right _ (List.mem_append_left _ h)))))
set_option maxRecDepth 20000 in
theorem mc_X5_handOn_X5_handOn_r3 : mjIn wsX5_handOn wsX5_handOn_r3 := fun w h => (List.mem_cons_of_mem _ (List.mem_append_left _ (List.mem_append_left _ (List.mem_append_right _ (List.mem_append_right _ (List.mem_append_left _ h))))))
set_option maxRecDepth 20000 in
theorem mc_X5_handOn_X50 : mjIn wsX5_handOn wsX50 := fun w h => (List.mem_cons_of_mem _ (List.mem_append_left _ (List.mem_append_right _ h)))
set_option maxRecDepth 20000 in
theorem mc_X5_handOn_X00 : mjIn wsX5_handOn wsX00 := fun w h => (List.mem_cons_of_mem _ (List.mem_append_right _ h))
set_option maxRecDepth 20000 in
theorem ggX5_handOn_X5_listMoves : GoodIn wsX5_handOn wsX5_listMoves := mj_good (mj_cons (mc_X5_handOn_X5_handOn_r1 _ (List.mem_of_getElem? (i := 7) rfl)) (mj_app (mj_app (mj_app (mj_cons (mc_X5_handOn_X5_handOn_r1 _ (List.mem_of_getElem? (i := 8) rfl)) (mj_cons (mc_X5_handOn_X5_handOn_r1 _ (List.mem_of_getElem? (i := 9) rfl)) (mj_cons (mc_X5_handOn_X5_handOn_r1 _ (List.mem_of_getElem? (i := 10) rfl)) (mj_cons (mc_X5_handOn_X5_handOn_r1 _ (List.mem_of_getElem? (i := 11) rfl)) (mj_cons (mc_X5_handOn_X5_handOn_r1 _ (List.mem_of_getElem? (i := 12) rfl)) (mj_cons (mc_X5_handOn_X5_handOn_r1 _ (List.mem_of_getElem? (i := 13) rfl)) (mj_cons (mc_X5_handOn_X5_handOn_r1 _ (List.mem_of_getElem? (i := 0) rfl)) (mj_cons (mc_X5_handOn_X5_handOn_r1 _ (List.mem_of_getElem? (i := 14) rfl)) (mj_cons (mc_X5_handOn_X5_handOn_r1 _ (List.mem_of_getElem? (i := 15) rfl)) (mj_cons (mc_X5_handOn_X5_handOn_r1 _ (List.mem_of_getElem? (i := 16) rfl)) (mj_cons (mc_X5_handOn_X5_handOn_r1 _ (List.mem_of_getElem? (i := 6) rfl)) (mj_cons (mc_X5_handOn_X5_handOn_r1 _ (List.mem_of_getElem? (i := 17) rfl)) (mj_cons (mc_X5_handOn_X5_handOn_r1 _ (List.mem_of_getElem? (i := 18) rfl)) (mj_cons (mc_X5_handOn_X5_handOn_r1 _ (List.mem_of_getElem? (i := 19) rfl)) (mj_cons (mc_X5_handOn_X5_handOn_r1 _ (List.mem_of_getElem? (i := 20) rfl)) (mj_cons (mc_X5_handOn_X5_handOn_r1 _ (List.mem_of_getElem? (i := 21) rfl)) (mj_cons (mc_X5_handOn_X5_handOn_r1 _ (List.mem_of_getElem? (i := 22) rfl)) (mj_cons (mc_X5_handOn_X5_handOn_r1 _ (List.mem_of_getElem? (i := 23) rfl)) (mj_cons (mc_X5_handOn_X5_handOn_r2 _ (List.mem_of_getElem? (i := 0) rfl)) (mj_cons (mc_X5_handOn_X5_handOn_r2 _ (List.mem_of_getElem? (i := 1) rfl)) (mj_cons (mc_X5_handOn_X5_handOn_r2 _ (List.mem_of_getElem? (i := 2) rfl)) (mj_cons (mc_X5_handOn_X5_handOn_r2 _ (List.mem_of_getElem? (i := 3) rfl)) (mj_cons (mc_X5_handOn_X5_handOn_r2 _ (List.mem_of_getElem? (i := 4) rfl)) (mj_cons (mc_X5_handOn_X5_handOn_r2 _ (List.mem_of_getElem? (i := 5) rfl)) mj_nil)))))))))))))))))))))))) (mj_app (mj_cons (mc_X5_handOn_X5_handOn_r2 _ (List.mem_of_getElem? (i := 6) rfl)) (mj_cons (mc_X5_handOn_X5_handOn_r2 _ (List.mem_of_getElem? (i := 7) rfl)) (mj_cons (mc_X5_handOn_X5_handOn_r2 _ (List.mem_of_getElem? (i := 8) rfl)) (mj_cons (mc_X5_handOn_X5_handOn_r2 _ (List.mem_of_getElem? (i := 9) rfl)) (mj_cons (mc_X5_handOn_X5_handOn_r2 _ (List.mem_of_getElem? (i := 10) rfl)) (mj_cons (mc_X5_handOn_X5_handOn_r2 _ (List.mem_of_getElem? (i := 11) rfl)) (mj_cons (mc_X5_handOn_X5_handOn_r2 _ (List.mem_of_getElem? (i := 12) rfl)) (mj_cons (mc_X5_handOn_X5_handOn_r2 _ (List.mem_of_getElem? (i := 13) rfl)) (mj_cons (mc_X5_handOn_X5_handOn_r2 _ (List.mem_of_getElem? (i := 14) rfl)) (mj_cons (mc_X5_handOn_X5_handOn_r2 _ (List.mem_of_getElem? (i := 15) rfl)) (mj_cons (mc_X5_handOn_X5_handOn_r2 _ (List.mem_of_getElem? (i := 16) rfl)) (mj_cons (mc_X5_handOn_X5_handOn_r2 _ (List.mem_of_getElem? (i := 17) rfl)) (mj_cons (mc_X5_handOn_X5_handOn_r2 _ (List.mem_of_getElem? (i := 18) rfl)) (mj_cons (mc_X5_handOn_X5_handOn_r2 _ (List.mem_of_getElem? (i := 19) rfl)) (mj_cons (mc_X5_handOn_X5_handOn_r2 _ (List.mem_of_getElem? (i := 20) rfl)) (mj_cons (mc_X5_handOn_X5_handOn_r2 _ (List.mem_of_getElem? (i := 21) rfl)) (mj_cons (mc_X5_handOn_X5_handOn_r2 _ (List.mem_of_getElem? (i := 22) rfl)) (mj_cons (mc_X5_handOn_X5_handOn_r2 _ (List.mem_of_getElem? (i := 23) rfl)) (mj_cons (mc_X5_handOn_X5_handOn_r3 _ (List.mem_of_getElem? (i := 0) rfl)) (mj_cons (mc_X5_handOn_X5_handOn_r3 _ (List.mem_of_getElem? (i := 1) rfl)) (mj_cons (mc_X5_handOn_X5_handOn_r3 _ (List.mem_of_getElem? (i := 2) rfl)) (mj_cons (mc_X5_handOn_X5_handOn_r3 _ (List.mem_of_getElem? (i := 3) rfl)) (mj_cons (mc_X5_handOn_X5_handOn_r3 _ (List.mem_of_getElem? (i := 4) rfl)) (mj_cons (mc_X5_handOn_X5_handOn_r3 _ (List.mem_of_getElem? (i := 5) rfl)) mj_nil)))))))))))))))))))))))) (mj_cons (mc_X5_handOn_X5_handOn_r3 _ (List.mem_of_getElem? (i := 6) rfl)) (mj_cons (mc_X5_handOn_X5_handOn_r3 _ (List.mem_of_getElem? (i := 7) rfl)) (mj_cons (mc_X5_handOn_X5_handOn_r3 _ (List.mem_of_getElem? (i := 8) rfl)) (mj_cons (mc_X5_handOn_X5_handOn_r3 _ (List.mem_of_getElem? (i := 9) rfl)) (mj_cons (mc_X5_handOn_X5_handOn_r3 _ (List.mem_of_getElem? (i := 10) rfl)) (mj_cons (mc_X5_handOn_X5_handOn_r3 _ (List.mem_of_getElem? (i := 11) rfl)) (mj_cons (mc_X5_handOn_X5_handOn_r3 _ (List.mem_of_getElem? (i := 12) rfl)) mj_nil))))))))) mc_X5_handOn_X50) mc_X5_handOn_X00)) (by decide +kernel)
set_option maxRecDepth 20000 in
theorem gX5_handOn_X5_listMoves : GoodIn wsX5_handOn (wsV RX5 62 RX5 yX5_listMoves wsX5_listMoves) := goodIn_app (mj_good (mj_cons (mc_X5_handOn_X5_handOn_r1 _ (List.mem_of_getElem? (i := 3) rfl)) (mj_cons (mc_X5_handOn_X5_handOn_r1 _ (List.mem_of_getElem? (i := 4) rfl)) (mj_cons (mc_X5_handOn_X5_handOn_r1 _ (List.mem_of_getElem? (i := 5) rfl)) (mj_cons (mc_X5_handOn_X5_handOn_r1 _ (List.mem_of_getElem? (i := 6) rfl)) mj_nil)))) (by decide +kernel)) ggX5_handOn_X5_listMoves
set_option maxRecDepth 20000 in
theorem mc_X5_handOn_X5_handOn_r4 : mjIn wsX5_handOn wsX5_handOn_r4 := fun w h => (List.mem_cons_of_mem _ (List.mem_append_left _ (List.mem_append_left _ (List.mem_append_right _ (List.mem_append_right _ (List.mem_append_right _ (List.mem_append_left _ h)))))))
set_option maxRecDepth 20000 in
theorem ggX5_handOn_X5_after : GoodIn wsX5_handOn wsX5_after := mj_good (mj_cons (mc_X5_handOn_X5_handOn_r3 _ (List.mem_of_getElem? (i := 16) rfl)) (mj_app (mj_app (mj_cons (mc_X5_handOn_X5_handOn_r3 _ (List.mem_of_getElem? (i := 17) rfl)) (mj_cons (mc_X5_handOn_X5_handOn_r3 _ (List.mem_of_getElem? (i := 18) rfl)) (mj_cons (mc_X5_handOn_X5_handOn_r3 _ (List.mem_of_getElem? (i := 19) rfl)) (mj_cons (mc_X5_handOn_X5_handOn_r3 _ (List.mem_of_getElem? (i := 20) rfl)) (mj_cons (mc_X5_handOn_X5_handOn_r1 _ (List.mem_of_getElem? (i := 6) rfl)) (mj_cons (mc_X5_handOn_X5_handOn_r3 _ (List.mem_of_getElem? (i := 21) rfl)) (mj_cons (mc_X5_handOn_X5_handOn_r1 _ (List.mem_of_getElem? (i := 20) rfl)) (mj_cons (mc_X5_handOn_X5_handOn_r3 _ (List.mem_of_getElem? (i := 22) rfl)) (mj_cons (mc_X5_handOn_X5_handOn_r2 _ (List.mem_of_getElem? (i := 23) rfl)) (mj_cons (mc_X5_handOn_X5_handOn_r3 _ (List.mem_of_getElem? (i := 23) rfl)) (mj_cons (mc_X5_handOn_X5_handOn_r4 _ (List.mem_of_getElem? (i := 0) rfl)) (mj_cons (mc_X5_handOn_X5_handOn_r4 _ (List.mem_of_getElem? (i := 1) rfl)) (mj_cons (mc_X5_handOn_X5_handOn_r4 _ (List.mem_of_getElem? (i := 2) rfl)) (mj_cons (mc_X5_handOn_X5_handOn_r4 _ (List.mem_of_getElem? (i := 3) rfl)) (mj_cons (mc_X5_handOn_X5_handOn_r4 _ (List.mem_of_getElem? (i := 4) rfl)) (mj_cons (mc_X5_handOn_X5_handOn_r4 _ (List.mem_of_getElem? (i := 5) rfl)) (mj_cons (mc_X5_handOn_X5_handOn_r4 _ (List.mem_of_getElem? (i := 6) rfl)) (mj_cons (mc_X5_handOn_X5_handOn_r4 _ (List.mem_of_getElem? (i := 7) rfl)) (mj_cons (mc_X5_handOn_X5_handOn_r4 _ (List.mem_of_getElem? (i := 8) rfl)) (mj_cons (mc_X5_handOn_X5_handOn_r4 _ (List.mem_of_getElem? (i := 9) rfl)) (mj_cons (mc_X5_handOn_X5_handOn_r4 _ (List.mem_of_getElem? (i := 10) rfl)) (mj_cons (mc_X5_handOn_X5_handOn_r1 _ (List.mem_of_getElem? (i := 21) rfl)) (mj_cons (mc_X5_handOn_X5_handOn_r4 _ (List.mem_of_getElem? (i := 11) rfl)) (mj_cons (mc_X5_handOn_X5_handOn_r4 _ (List.mem_of_getElem? (i := 12) rfl)) mj_nil)))))))))))))))))))))))) (mj_cons (mc_X5_handOn_X5_handOn_r4 _ (List.mem_of_getElem? (i := 13) rfl)) (mj_cons (mc_X5_handOn_X5_handOn_r4 _ (List.mem_of_getElem? (i := 14) rfl)) (mj_cons (mc_X5_handOn_X5_handOn_r4 _ (List.mem_of_getElem? (i := 15) rfl)) (mj_cons (mc_X5_handOn_X5_handOn_r4 _ (List.mem_of_getElem? (i := 16) rfl)) (mj_cons (mc_X5_handOn_X5_handOn_r4 _ (List.mem_of_getElem? (i := 17) rfl)) (mj_cons (mc_X5_handOn_X5_handOn_r4 _ (List.mem_of_getElem? (i := 18) rfl)) (mj_cons (mc_X5_handOn_X5_handOn_r4 _ (List.mem_of_getElem? (i := 19) rfl)) mj_nil)))))))) mc_X5_handOn_X50)) (by decide +kernel)
set_option maxRecDepth 20000 in
theorem gX5_handOn_X5_after : GoodIn wsX5_handOn (wsV RX5 148 RX5 yX5_after wsX5_after) := goodIn_app (mj_good (mj_cons (mc_X5_handOn_X5_handOn_r3 _ (List.mem_of_getElem? (i := 13) rfl)) (mj_cons (mc_X5_handOn_X5_handOn_r3 _ (List.mem_of_getElem? (i := 14) rfl)) (mj_cons (mc_X5_handOn_X5_handOn_r3 _ (List.mem_of_getElem? (i := 15) rfl)) (mj_cons (mc_X5_handOn_X5_handOn_r1 _ (List.mem_of_getElem? (i := 6) rfl)) mj_nil)))) (by decide +kernel)) ggX5_handOn_X5_after
set_option maxRecDepth 20000 in
theorem ggX5_handOn_X6_bargeOf : GoodIn wsX5_handOn wsX6_bargeOf := mj_good (mj_cons (mc_X5_handOn_X5_handOn_r3 _ (List.mem_of_getElem? (i := 23) rfl)) mj_nil) (by decide +kernel)
set_option maxRecDepth 20000 in
theorem gX5_handOn_X6_bargeOf_n93 : GoodIn wsX5_handOn (wsX6_bargeOf) := ggX5_handOn_X6_bargeOf
set_option maxRecDepth 20000 in
theorem mc_X5_handOn_X5_handOn_r5 : mjIn wsX5_handOn wsX5_handOn_r5 := fun w h => (List.mem_cons_of_mem _ (List.mem_append_left _ (List.mem_append_left _ (List.mem_append_right _ (List.mem_append_right _ (List.mem_append_right _ (List.mem_append_right _ h)))))))
set_option maxRecDepth 20000 in
theorem ggX5_handOn_X5_addWays : GoodIn wsX5_handOn wsX5_addWays := mj_good (mj_cons (mc_X5_handOn_X5_handOn_r4 _ (List.mem_of_getElem? (i := 23) rfl)) (mj_app (mj_cons (mc_X5_handOn_X5_handOn_r1 _ (List.mem_of_getElem? (i := 2) rfl)) (mj_cons (mc_X5_handOn_X5_handOn_r5 _ (List.mem_of_getElem? (i := 0) rfl)) (mj_cons (mc_X5_handOn_X5_handOn_r5 _ (List.mem_of_getElem? (i := 1) rfl)) (mj_cons (mc_X5_handOn_X5_handOn_r5 _ (List.mem_of_getElem? (i := 2) rfl)) (mj_cons (mc_X5_handOn_X5_handOn_r5 _ (List.mem_of_getElem? (i := 3) rfl)) (mj_cons (mc_X5_handOn_X5_handOn_r1 _ (List.mem_of_getElem? (i := 6) rfl)) (mj_cons (mc_X5_handOn_X5_handOn_r5 _ (List.mem_of_getElem? (i := 4) rfl)) (mj_cons (mc_X5_handOn_X5_handOn_r5 _ (List.mem_of_getElem? (i := 5) rfl)) mj_nil)))))))) mc_X5_handOn_X50)) (by decide +kernel)
set_option maxRecDepth 20000 in
theorem gX5_handOn_X5_addWays : GoodIn wsX5_handOn (wsV RX5 170 RX5 yX5_addWays wsX5_addWays) := goodIn_app (mj_good (mj_cons (mc_X5_handOn_X5_handOn_r4 _ (List.mem_of_getElem? (i := 20) rfl)) (mj_cons (mc_X5_handOn_X5_handOn_r4 _ (List.mem_of_getElem? (i := 21) rfl)) (mj_cons (mc_X5_handOn_X5_handOn_r4 _ (List.mem_of_getElem? (i := 22) rfl)) (mj_cons (mc_X5_handOn_X5_handOn_r1 _ (List.mem_of_getElem? (i := 6) rfl)) mj_nil)))) (by decide +kernel)) ggX5_handOn_X5_addWays
theorem dX5_handOn_0 : decode cX5_handOn 0 = .ok (.aload_n 0, 1) := by decide +kernel
theorem dX5_handOn_1 : decode cX5_handOn 1 = .ok (.iload_n 1, 1) := by decide +kernel
theorem dX5_handOn_2 : decode cX5_handOn 2 = .ok (.bipush 7, 2) := by decide +kernel
theorem dX5_handOn_4 : decode cX5_handOn 4 = .ok (.iconst 0, 1) := by decide +kernel
theorem dX5_handOn_5 : decode cX5_handOn 5 = .ok (.invokevirtual 62, 3) := by decide +kernel
theorem dX5_handOn_8 : decode cX5_handOn 8 = .ok (.istore_n 3, 1) := by decide +kernel
theorem dX5_handOn_9 : decode cX5_handOn 9 = .ok (.iconst 0, 1) := by decide +kernel
theorem dX5_handOn_10 : decode cX5_handOn 10 = .ok (.istore 4, 2) := by decide +kernel
theorem dX5_handOn_12 : decode cX5_handOn 12 = .ok (.iload 4, 2) := by decide +kernel
theorem dX5_handOn_14 : decode cX5_handOn 14 = .ok (.iload_n 3, 1) := by decide +kernel
theorem dX5_handOn_15 : decode cX5_handOn 15 = .ok (.if_icmp .ge 72, 3) := by decide +kernel
theorem dX5_handOn_18 : decode cX5_handOn 18 = .ok (.aload_n 0, 1) := by decide +kernel
theorem dX5_handOn_19 : decode cX5_handOn 19 = .ok (.iload_n 1, 1) := by decide +kernel
theorem dX5_handOn_20 : decode cX5_handOn 20 = .ok (.aload_n 0, 1) := by decide +kernel
theorem dX5_handOn_21 : decode cX5_handOn 21 = .ok (.getfield 32, 3) := by decide +kernel
theorem dX5_handOn_24 : decode cX5_handOn 24 = .ok (.iload 4, 2) := by decide +kernel
theorem dX5_handOn_26 : decode cX5_handOn 26 = .ok (.iaload, 1) := by decide +kernel
theorem dX5_handOn_27 : decode cX5_handOn 27 = .ok (.invokevirtual 148, 3) := by decide +kernel
theorem dX5_handOn_30 : decode cX5_handOn 30 = .ok (.istore 5, 2) := by decide +kernel
theorem dX5_handOn_32 : decode cX5_handOn 32 = .ok (.iload 5, 2) := by decide +kernel
theorem dX5_handOn_34 : decode cX5_handOn 34 = .ok (.ifCond .lt 47, 3) := by decide +kernel
theorem dX5_handOn_37 : decode cX5_handOn 37 = .ok (.aload_n 0, 1) := by decide +kernel
theorem dX5_handOn_38 : decode cX5_handOn 38 = .ok (.getfield 32, 3) := by decide +kernel
theorem dX5_handOn_41 : decode cX5_handOn 41 = .ok (.iload 4, 2) := by decide +kernel
theorem dX5_handOn_43 : decode cX5_handOn 43 = .ok (.iaload, 1) := by decide +kernel
theorem dX5_handOn_44 : decode cX5_handOn 44 = .ok (.invokestatic 93, 3) := by decide +kernel
theorem dX5_handOn_47 : decode cX5_handOn 47 = .ok (.iload_n 2, 1) := by decide +kernel
theorem dX5_handOn_48 : decode cX5_handOn 48 = .ok (.if_icmp .eq 33, 3) := by decide +kernel
theorem dX5_handOn_51 : decode cX5_handOn 51 = .ok (.aload_n 0, 1) := by decide +kernel
theorem dX5_handOn_52 : decode cX5_handOn 52 = .ok (.getfield 35, 3) := by decide +kernel
theorem dX5_handOn_55 : decode cX5_handOn 55 = .ok (.iload 5, 2) := by decide +kernel
theorem dX5_handOn_57 : decode cX5_handOn 57 = .ok (.iaload, 1) := by decide +kernel
theorem dX5_handOn_58 : decode cX5_handOn 58 = .ok (.aload_n 0, 1) := by decide +kernel
theorem dX5_handOn_59 : decode cX5_handOn 59 = .ok (.getfield 35, 3) := by decide +kernel
theorem dX5_handOn_62 : decode cX5_handOn 62 = .ok (.iload_n 1, 1) := by decide +kernel
theorem dX5_handOn_63 : decode cX5_handOn 63 = .ok (.iaload, 1) := by decide +kernel
theorem dX5_handOn_64 : decode cX5_handOn 64 = .ok (.iconst 1, 1) := by decide +kernel
theorem dX5_handOn_65 : decode cX5_handOn 65 = .ok (.isub, 1) := by decide +kernel
theorem dX5_handOn_66 : decode cX5_handOn 66 = .ok (.if_icmp .ne 15, 3) := by decide +kernel
theorem dX5_handOn_69 : decode cX5_handOn 69 = .ok (.aload_n 0, 1) := by decide +kernel
theorem dX5_handOn_70 : decode cX5_handOn 70 = .ok (.iload 5, 2) := by decide +kernel
theorem dX5_handOn_72 : decode cX5_handOn 72 = .ok (.aload_n 0, 1) := by decide +kernel
theorem dX5_handOn_73 : decode cX5_handOn 73 = .ok (.getfield 41, 3) := by decide +kernel
theorem dX5_handOn_76 : decode cX5_handOn 76 = .ok (.iload_n 1, 1) := by decide +kernel
theorem dX5_handOn_77 : decode cX5_handOn 77 = .ok (.laload, 1) := by decide +kernel
theorem dX5_handOn_78 : decode cX5_handOn 78 = .ok (.invokevirtual 170, 3) := by decide +kernel
theorem dX5_handOn_81 : decode cX5_handOn 81 = .ok (.iinc 4 1, 3) := by decide +kernel
theorem dX5_handOn_84 : decode cX5_handOn 84 = .ok (.goto (-72), 3) := by decide +kernel
theorem dX5_handOn_87 : decode cX5_handOn 87 = .ok (.return_, 1) := by decide +kernel
set_option maxRecDepth 20000 in
theorem ggX5_addWays_X5_capped : GoodIn wsX5_addWays wsX5_capped := mj_good (mj_cons (List.mem_of_getElem? (i := 7) rfl) (mj_cons (List.mem_of_getElem? (i := 8) rfl) mj_nil)) (by decide +kernel)
set_option maxRecDepth 20000 in
theorem gX5_addWays_X5_capped : GoodIn wsX5_addWays (va_wsS RX5 174 yX5_capped wsX5_capped) := goodIn_app (mj_good (mj_cons (List.mem_of_getElem? (i := 4) rfl) (mj_cons (List.mem_of_getElem? (i := 5) rfl) (mj_cons (List.mem_of_getElem? (i := 6) rfl) mj_nil))) (by decide +kernel)) ggX5_addWays_X5_capped
theorem dX5_addWays_0 : decode cX5_addWays 0 = .ok (.aload_n 0, 1) := by decide +kernel
theorem dX5_addWays_1 : decode cX5_addWays 1 = .ok (.getfield 41, 3) := by decide +kernel
theorem dX5_addWays_4 : decode cX5_addWays 4 = .ok (.iload_n 1, 1) := by decide +kernel
theorem dX5_addWays_5 : decode cX5_addWays 5 = .ok (.laload, 1) := by decide +kernel
theorem dX5_addWays_6 : decode cX5_addWays 6 = .ok (.lconst 0, 1) := by decide +kernel
theorem dX5_addWays_7 : decode cX5_addWays 7 = .ok (.lcmp, 1) := by decide +kernel
theorem dX5_addWays_8 : decode cX5_addWays 8 = .ok (.ifCond .ne 33, 3) := by decide +kernel
theorem dX5_addWays_11 : decode cX5_addWays 11 = .ok (.aload_n 0, 1) := by decide +kernel
theorem dX5_addWays_12 : decode cX5_addWays 12 = .ok (.getfield 137, 3) := by decide +kernel
theorem dX5_addWays_15 : decode cX5_addWays 15 = .ok (.sipush 6000, 3) := by decide +kernel
theorem dX5_addWays_18 : decode cX5_addWays 18 = .ok (.if_icmp .ge 23, 3) := by decide +kernel
theorem dX5_addWays_21 : decode cX5_addWays 21 = .ok (.aload_n 0, 1) := by decide +kernel
theorem dX5_addWays_22 : decode cX5_addWays 22 = .ok (.getfield 38, 3) := by decide +kernel
theorem dX5_addWays_25 : decode cX5_addWays 25 = .ok (.aload_n 0, 1) := by decide +kernel
theorem dX5_addWays_26 : decode cX5_addWays 26 = .ok (.getfield 137, 3) := by decide +kernel
theorem dX5_addWays_29 : decode cX5_addWays 29 = .ok (.iload_n 1, 1) := by decide +kernel
theorem dX5_addWays_30 : decode cX5_addWays 30 = .ok (.iastore, 1) := by decide +kernel
theorem dX5_addWays_31 : decode cX5_addWays 31 = .ok (.aload_n 0, 1) := by decide +kernel
theorem dX5_addWays_32 : decode cX5_addWays 32 = .ok (.dup, 1) := by decide +kernel
theorem dX5_addWays_33 : decode cX5_addWays 33 = .ok (.getfield 137, 3) := by decide +kernel
theorem dX5_addWays_36 : decode cX5_addWays 36 = .ok (.iconst 1, 1) := by decide +kernel
theorem dX5_addWays_37 : decode cX5_addWays 37 = .ok (.iadd, 1) := by decide +kernel
theorem dX5_addWays_38 : decode cX5_addWays 38 = .ok (.putfield 137, 3) := by decide +kernel
theorem dX5_addWays_41 : decode cX5_addWays 41 = .ok (.aload_n 0, 1) := by decide +kernel
theorem dX5_addWays_42 : decode cX5_addWays 42 = .ok (.getfield 41, 3) := by decide +kernel
theorem dX5_addWays_45 : decode cX5_addWays 45 = .ok (.iload_n 1, 1) := by decide +kernel
theorem dX5_addWays_46 : decode cX5_addWays 46 = .ok (.aload_n 0, 1) := by decide +kernel
theorem dX5_addWays_47 : decode cX5_addWays 47 = .ok (.getfield 41, 3) := by decide +kernel
theorem dX5_addWays_50 : decode cX5_addWays 50 = .ok (.iload_n 1, 1) := by decide +kernel
theorem dX5_addWays_51 : decode cX5_addWays 51 = .ok (.laload, 1) := by decide +kernel
theorem dX5_addWays_52 : decode cX5_addWays 52 = .ok (.lload_n 2, 1) := by decide +kernel
theorem dX5_addWays_53 : decode cX5_addWays 53 = .ok (.invokestatic 174, 3) := by decide +kernel
theorem dX5_addWays_56 : decode cX5_addWays 56 = .ok (.lastore, 1) := by decide +kernel
theorem dX5_addWays_57 : decode cX5_addWays 57 = .ok (.return_, 1) := by decide +kernel
theorem dX5_capped_0 : decode cX5_capped 0 = .ok (.lload_n 0, 1) := by decide +kernel
theorem dX5_capped_1 : decode cX5_capped 1 = .ok (.ldc2_w 181, 3) := by decide +kernel
theorem dX5_capped_4 : decode cX5_capped 4 = .ok (.lload_n 2, 1) := by decide +kernel
theorem dX5_capped_5 : decode cX5_capped 5 = .ok (.lsub, 1) := by decide +kernel
theorem dX5_capped_6 : decode cX5_capped 6 = .ok (.lcmp, 1) := by decide +kernel
theorem dX5_capped_7 : decode cX5_capped 7 = .ok (.ifCond .lt 9, 3) := by decide +kernel
theorem dX5_capped_10 : decode cX5_capped 10 = .ok (.ldc2_w 181, 3) := by decide +kernel
theorem dX5_capped_13 : decode cX5_capped 13 = .ok (.goto 6, 3) := by decide +kernel
theorem dX5_capped_16 : decode cX5_capped 16 = .ok (.lload_n 0, 1) := by decide +kernel
theorem dX5_capped_17 : decode cX5_capped 17 = .ok (.lload_n 2, 1) := by decide +kernel
theorem dX5_capped_18 : decode cX5_capped 18 = .ok (.ladd, 1) := by decide +kernel
theorem dX5_capped_19 : decode cX5_capped 19 = .ok (.lreturn, 1) := by decide +kernel
set_option maxRecDepth 20000 in
theorem mc_X6_init_X6_init_r1 : mjIn wsX6_init wsX6_init_r1 := fun w h => (List.mem_cons_of_mem _ (List.mem_append_left _ (List.mem_append_left _ (List.mem_append_left _ (List.mem_append_left _ (List.mem_append_left _ h))))))
set_option maxRecDepth 20000 in
theorem mc_X6_init_X6_init_r2 : mjIn wsX6_init wsX6_init_r2 := fun w h => (List.mem_cons_of_mem _ (List.mem_append_left _ (List.mem_append_left _ (List.mem_append_left _ (List.mem_append_left _ (List.mem_append_right _ h))))))
set_option maxRecDepth 20000 in
theorem mc_X6_init_X20 : mjIn wsX6_init wsX20 := fun w h => (List.mem_cons_of_mem _ (List.mem_append_left _ (List.mem_append_left _ (List.mem_append_left _ (List.mem_append_right _ h)))))
set_option maxRecDepth 20000 in
theorem ggX6_init_X2_init : GoodIn wsX6_init wsX2_init := mj_good (mj_cons (mc_X6_init_X6_init_r1 _ (List.mem_of_getElem? (i := 23) rfl)) (mj_app (mj_cons (mc_X6_init_X6_init_r2 _ (List.mem_of_getElem? (i := 0) rfl)) (mj_cons (mc_X6_init_X6_init_r1 _ (List.mem_of_getElem? (i := 1) rfl)) (mj_cons (mc_X6_init_X6_init_r1 _ (List.mem_of_getElem? (i := 2) rfl)) (mj_cons (mc_X6_init_X6_init_r2 _ (List.mem_of_getElem? (i := 1) rfl)) (mj_cons (mc_X6_init_X6_init_r2 _ (List.mem_of_getElem? (i := 2) rfl)) (mj_cons (mc_X6_init_X6_init_r2 _ (List.mem_of_getElem? (i := 3) rfl)) (mj_cons (mc_X6_init_X6_init_r2 _ (List.mem_of_getElem? (i := 4) rfl)) (mj_cons (mc_X6_init_X6_init_r2 _ (List.mem_of_getElem? (i := 5) rfl)) mj_nil)))))))) mc_X6_init_X20)) (by decide +kernel)
set_option maxRecDepth 20000 in
theorem gX6_init_X2_init_n9 : GoodIn wsX6_init (wsX2_init) := ggX6_init_X2_init
set_option maxRecDepth 20000 in
theorem mc_X6_init_X00 : mjIn wsX6_init wsX00 := fun w h => (List.mem_cons_of_mem _ (List.mem_append_left _ (List.mem_append_right _ h)))
set_option maxRecDepth 20000 in
theorem ggX6_init_X0_init : GoodIn wsX6_init wsX0_init := mj_good (mj_cons (mc_X6_init_X6_init_r2 _ (List.mem_of_getElem? (i := 7) rfl)) (mj_app (mj_cons (mc_X6_init_X6_init_r2 _ (List.mem_of_getElem? (i := 8) rfl)) (mj_cons (mc_X6_init_X6_init_r1 _ (List.mem_of_getElem? (i := 1) rfl)) (mj_cons (mc_X6_init_X6_init_r1 _ (List.mem_of_getElem? (i := 2) rfl)) (mj_cons (mc_X6_init_X6_init_r2 _ (List.mem_of_getElem? (i := 1) rfl)) (mj_cons (mc_X6_init_X6_init_r2 _ (List.mem_of_getElem? (i := 9) rfl)) (mj_cons (mc_X6_init_X6_init_r2 _ (List.mem_of_getElem? (i := 10) rfl)) (mj_cons (mc_X6_init_X6_init_r2 _ (List.mem_of_getElem? (i := 11) rfl)) (mj_cons (mc_X6_init_X6_init_r2 _ (List.mem_of_getElem? (i := 12) rfl)) (mj_cons (mc_X6_init_X6_init_r2 _ (List.mem_of_getElem? (i := 13) rfl)) (mj_cons (mc_X6_init_X6_init_r2 _ (List.mem_of_getElem? (i := 14) rfl)) (mj_cons (mc_X6_init_X6_init_r2 _ (List.mem_of_getElem? (i := 15) rfl)) (mj_cons (mc_X6_init_X6_init_r2 _ (List.mem_of_getElem? (i := 16) rfl)) (mj_cons (mc_X6_init_X6_init_r2 _ (List.mem_of_getElem? (i := 17) rfl)) (mj_cons (mc_X6_init_X6_init_r2 _ (List.mem_of_getElem? (i := 18) rfl)) mj_nil)))))))))))))) mc_X6_init_X00)) (by decide +kernel)
set_option maxRecDepth 20000 in
theorem gX6_init_X0_init_n18 : GoodIn wsX6_init (wsX0_init) := ggX6_init_X0_init
set_option maxRecDepth 20000 in
theorem mc_X6_init_X30 : mjIn wsX6_init wsX30 := fun w h => (List.mem_cons_of_mem _ (List.mem_append_right _ h))
set_option maxRecDepth 20000 in
theorem ggX6_init_X3_init : GoodIn wsX6_init wsX3_init := mj_good (mj_cons (mc_X6_init_X6_init_r2 _ (List.mem_of_getElem? (i := 20) rfl)) (mj_app (mj_cons (mc_X6_init_X6_init_r2 _ (List.mem_of_getElem? (i := 21) rfl)) (mj_cons (mc_X6_init_X6_init_r1 _ (List.mem_of_getElem? (i := 1) rfl)) (mj_cons (mc_X6_init_X6_init_r1 _ (List.mem_of_getElem? (i := 2) rfl)) (mj_cons (mc_X6_init_X6_init_r2 _ (List.mem_of_getElem? (i := 1) rfl)) (mj_cons (mc_X6_init_X6_init_r2 _ (List.mem_of_getElem? (i := 22) rfl)) mj_nil))))) mc_X6_init_X30)) (by decide +kernel)
set_option maxRecDepth 20000 in
theorem gX6_init_X3_init_n28 : GoodIn wsX6_init (wsX3_init) := ggX6_init_X3_init
theorem dX6_init_0 : decode cX6_init 0 = .ok (.aload_n 0, 1) := by decide +kernel
theorem dX6_init_1 : decode cX6_init 1 = .ok (.invokespecial 1, 3) := by decide +kernel
theorem dX6_init_4 : decode cX6_init 4 = .ok (.aload_n 0, 1) := by decide +kernel
theorem dX6_init_5 : decode cX6_init 5 = .ok (.new 7, 3) := by decide +kernel
theorem dX6_init_8 : decode cX6_init 8 = .ok (.dup, 1) := by decide +kernel
theorem dX6_init_9 : decode cX6_init 9 = .ok (.invokespecial 9, 3) := by decide +kernel
theorem dX6_init_12 : decode cX6_init 12 = .ok (.putfield 10, 3) := by decide +kernel
theorem dX6_init_15 : decode cX6_init 15 = .ok (.aload_n 0, 1) := by decide +kernel
theorem dX6_init_16 : decode cX6_init 16 = .ok (.new 16, 3) := by decide +kernel
theorem dX6_init_19 : decode cX6_init 19 = .ok (.dup, 1) := by decide +kernel
theorem dX6_init_20 : decode cX6_init 20 = .ok (.invokespecial 18, 3) := by decide +kernel
theorem dX6_init_23 : decode cX6_init 23 = .ok (.putfield 19, 3) := by decide +kernel
theorem dX6_init_26 : decode cX6_init 26 = .ok (.aload_n 0, 1) := by decide +kernel
theorem dX6_init_27 : decode cX6_init 27 = .ok (.new 16, 3) := by decide +kernel
theorem dX6_init_30 : decode cX6_init 30 = .ok (.dup, 1) := by decide +kernel
theorem dX6_init_31 : decode cX6_init 31 = .ok (.invokespecial 18, 3) := by decide +kernel
theorem dX6_init_34 : decode cX6_init 34 = .ok (.putfield 23, 3) := by decide +kernel
theorem dX6_init_37 : decode cX6_init 37 = .ok (.aload_n 0, 1) := by decide +kernel
theorem dX6_init_38 : decode cX6_init 38 = .ok (.new 26, 3) := by decide +kernel
theorem dX6_init_41 : decode cX6_init 41 = .ok (.dup, 1) := by decide +kernel
theorem dX6_init_42 : decode cX6_init 42 = .ok (.invokespecial 28, 3) := by decide +kernel
theorem dX6_init_45 : decode cX6_init 45 = .ok (.putfield 29, 3) := by decide +kernel
theorem dX6_init_48 : decode cX6_init 48 = .ok (.aload_n 0, 1) := by decide +kernel
theorem dX6_init_49 : decode cX6_init 49 = .ok (.iconst 4, 1) := by decide +kernel
theorem dX6_init_50 : decode cX6_init 50 = .ok (.anewarray 16, 3) := by decide +kernel
theorem dX6_init_53 : decode cX6_init 53 = .ok (.putfield 33, 3) := by decide +kernel
theorem dX6_init_56 : decode cX6_init 56 = .ok (.aload_n 0, 1) := by decide +kernel
theorem dX6_init_57 : decode cX6_init 57 = .ok (.bipush 8, 2) := by decide +kernel
theorem dX6_init_59 : decode cX6_init 59 = .ok (.newarray .byte, 2) := by decide +kernel
theorem dX6_init_61 : decode cX6_init 61 = .ok (.putfield 37, 3) := by decide +kernel
theorem dX6_init_64 : decode cX6_init 64 = .ok (.aload_n 0, 1) := by decide +kernel
theorem dX6_init_65 : decode cX6_init 65 = .ok (.iconst (-1), 1) := by decide +kernel
theorem dX6_init_66 : decode cX6_init 66 = .ok (.putfield 41, 3) := by decide +kernel
theorem dX6_init_69 : decode cX6_init 69 = .ok (.aload_n 0, 1) := by decide +kernel
theorem dX6_init_70 : decode cX6_init 70 = .ok (.iconst (-1), 1) := by decide +kernel
theorem dX6_init_71 : decode cX6_init 71 = .ok (.putfield 45, 3) := by decide +kernel
theorem dX6_init_74 : decode cX6_init 74 = .ok (.aload_n 0, 1) := by decide +kernel
theorem dX6_init_75 : decode cX6_init 75 = .ok (.iconst (-1), 1) := by decide +kernel
theorem dX6_init_76 : decode cX6_init 76 = .ok (.putfield 48, 3) := by decide +kernel
theorem dX6_init_79 : decode cX6_init 79 = .ok (.return_, 1) := by decide +kernel
theorem dX6_status_0 : decode cX6_status 0 = .ok (.aload_n 0, 1) := by decide +kernel
theorem dX6_status_1 : decode cX6_status 1 = .ok (.getfield 51, 3) := by decide +kernel
theorem dX6_status_4 : decode cX6_status 4 = .ok (.ireturn, 1) := by decide +kernel
set_option maxRecDepth 20000 in
theorem mc_X6_basin_X6_basin_r1 : mjIn wsX6_basin wsX6_basin_r1 := fun w h => (List.mem_cons_of_mem _ (List.mem_append_left _ (List.mem_append_left _ (List.mem_append_left _ (List.mem_append_left _ (List.mem_append_left _ h))))))
set_option maxRecDepth 20000 in
theorem mc_X6_basin_X60 : mjIn wsX6_basin wsX60 := fun w h => (List.mem_cons_of_mem _ (List.mem_append_left _ (List.mem_append_left _ (List.mem_append_left _ (List.mem_append_right _ h)))))
set_option maxRecDepth 20000 in
theorem ggX6_basin_X6_deny : GoodIn wsX6_basin wsX6_deny := mj_good (mj_cons (mc_X6_basin_X6_basin_r1 _ (List.mem_of_getElem? (i := 6) rfl)) (mj_app (mj_cons (mc_X6_basin_X6_basin_r1 _ (List.mem_of_getElem? (i := 7) rfl)) mj_nil) mc_X6_basin_X60)) (by decide +kernel)
set_option maxRecDepth 20000 in
theorem gX6_basin_X6_deny : GoodIn wsX6_basin (wsV RX6 54 RX6 yX6_deny wsX6_deny) := goodIn_app (mj_good (mj_cons (mc_X6_basin_X6_basin_r1 _ (List.mem_of_getElem? (i := 2) rfl)) (mj_cons (mc_X6_basin_X6_basin_r1 _ (List.mem_of_getElem? (i := 3) rfl)) (mj_cons (mc_X6_basin_X6_basin_r1 _ (List.mem_of_getElem? (i := 4) rfl)) (mj_cons (mc_X6_basin_X6_basin_r1 _ (List.mem_of_getElem? (i := 5) rfl)) mj_nil)))) (by decide +kernel)) ggX6_basin_X6_deny
set_option maxRecDepth 20000 in
theorem mc_X6_basin_X20 : mjIn wsX6_basin wsX20 := fun w h => (List.mem_cons_of_mem _ (List.mem_append_left _ (List.mem_append_left _ (List.mem_append_right _ h))))
set_option maxRecDepth 20000 in
theorem ggX6_basin_X2_tearAll : GoodIn wsX6_basin wsX2_tearAll := mj_good (mj_cons (mc_X6_basin_X6_basin_r1 _ (List.mem_of_getElem? (i := 12) rfl)) (mj_app (mj_cons (mc_X6_basin_X6_basin_r1 _ (List.mem_of_getElem? (i := 13) rfl)) (mj_cons (mc_X6_basin_X6_basin_r1 _ (List.mem_of_getElem? (i := 14) rfl)) (mj_cons (mc_X6_basin_X6_basin_r1 _ (List.mem_of_getElem? (i := 15) rfl)) (mj_cons (mc_X6_basin_X6_basin_r1 _ (List.mem_of_getElem? (i := 11) rfl)) (mj_cons (mc_X6_basin_X6_basin_r1 _ (List.mem_of_getElem? (i := 16) rfl)) (mj_cons (mc_X6_basin_X6_basin_r1 _ (List.mem_of_getElem? (i := 17) rfl)) mj_nil)))))) mc_X6_basin_X20)) (by decide +kernel)
set_option maxRecDepth 20000 in
theorem gX6_basin_X2_tearAll : GoodIn wsX6_basin (wsV RX6 58 RX2 yX2_tearAll wsX2_tearAll) := goodIn_app (mj_good (mj_cons (mc_X6_basin_X6_basin_r1 _ (List.mem_of_getElem? (i := 8) rfl)) (mj_cons (mc_X6_basin_X6_basin_r1 _ (List.mem_of_getElem? (i := 9) rfl)) (mj_cons (mc_X6_basin_X6_basin_r1 _ (List.mem_of_getElem? (i := 10) rfl)) (mj_cons (mc_X6_basin_X6_basin_r1 _ (List.mem_of_getElem? (i := 11) rfl)) mj_nil)))) (by decide +kernel)) ggX6_basin_X2_tearAll
set_option maxRecDepth 20000 in
theorem mc_X6_basin_X6_basin_r2 : mjIn wsX6_basin wsX6_basin_r2 := fun w h => (List.mem_cons_of_mem _ (List.mem_append_left _ (List.mem_append_left _ (List.mem_append_left _ (List.mem_append_left _ (List.mem_append_right _ h))))))
set_option maxRecDepth 20000 in
theorem mc_X6_basin_X00 : mjIn wsX6_basin wsX00 := fun w h => (List.mem_cons_of_mem _ (List.mem_append_left _ (List.mem_append_right _ h)))
set_option maxRecDepth 20000 in
theorem ggX6_basin_X0_empty : GoodIn wsX6_basin wsX0_empty := mj_good (mj_cons (mc_X6_basin_X6_basin_r1 _ (List.mem_of_getElem? (i := 22) rfl)) (mj_app (mj_cons (mc_X6_basin_X6_basin_r1 _ (List.mem_of_getElem? (i := 23) rfl)) (mj_cons (mc_X6_basin_X6_basin_r2 _ (List.mem_of_getElem? (i := 0) rfl)) (mj_cons (mc_X6_basin_X6_basin_r2 _ (List.mem_of_getElem? (i := 1) rfl)) (mj_cons (mc_X6_basin_X6_basin_r2 _ (List.mem_of_getElem? (i := 2) rfl)) (mj_cons (mc_X6_basin_X6_basin_r2 _ (List.mem_of_getElem? (i := 3) rfl)) (mj_cons (mc_X6_basin_X6_basin_r2 _ (List.mem_of_getElem? (i := 4) rfl)) (mj_cons (mc_X6_basin_X6_basin_r1 _ (List.mem_of_getElem? (i := 21) rfl)) (mj_cons (mc_X6_basin_X6_basin_r2 _ (List.mem_of_getElem? (i := 5) rfl)) (mj_cons (mc_X6_basin_X6_basin_r2 _ (List.mem_of_getElem? (i := 6) rfl)) (mj_cons (mc_X6_basin_X6_basin_r2 _ (List.mem_of_getElem? (i := 7) rfl)) mj_nil)))))))))) mc_X6_basin_X00)) (by decide +kernel)
set_option maxRecDepth 20000 in
theorem gX6_basin_X0_empty : GoodIn wsX6_basin (wsV RX6 61 RX0 yX0_empty wsX0_empty) := goodIn_app (mj_good (mj_cons (mc_X6_basin_X6_basin_r1 _ (List.mem_of_getElem? (i := 18) rfl)) (mj_cons (mc_X6_basin_X6_basin_r1 _ (List.mem_of_getElem? (i := 19) rfl)) (mj_cons (mc_X6_basin_X6_basin_r1 _ (List.mem_of_getElem? (i := 20) rfl)) (mj_cons (mc_X6_basin_X6_basin_r1 _ (List.mem_of_getElem? (i := 21) rfl)) mj_nil)))) (by decide +kernel)) ggX6_basin_X0_empty
set_option maxRecDepth 20000 in
theorem mc_X6_basin_X30 : mjIn wsX6_basin wsX30 := fun w h => (List.mem_cons_of_mem _ (List.mem_append_right _ h))
set_option maxRecDepth 20000 in
theorem ggX6_basin_X6_changed : GoodIn wsX6_basin wsX6_changed := mj_good (mj_cons (mc_X6_basin_X6_basin_r2 _ (List.mem_of_getElem? (i := 11) rfl)) (mj_app (mj_app (mj_cons (mc_X6_basin_X6_basin_r2 _ (List.mem_of_getElem? (i := 12) rfl)) (mj_cons (mc_X6_basin_X6_basin_r2 _ (List.mem_of_getElem? (i := 13) rfl)) (mj_cons (mc_X6_basin_X6_basin_r2 _ (List.mem_of_getElem? (i := 14) rfl)) (mj_cons (mc_X6_basin_X6_basin_r2 _ (List.mem_of_getElem? (i := 15) rfl)) (mj_cons (mc_X6_basin_X6_basin_r2 _ (List.mem_of_getElem? (i := 16) rfl)) (mj_cons (mc_X6_basin_X6_basin_r2 _ (List.mem_of_getElem? (i := 17) rfl)) (mj_cons (mc_X6_basin_X6_basin_r2 _ (List.mem_of_getElem? (i := 18) rfl)) (mj_cons (mc_X6_basin_X6_basin_r2 _ (List.mem_of_getElem? (i := 19) rfl)) (mj_cons (mc_X6_basin_X6_basin_r2 _ (List.mem_of_getElem? (i := 20) rfl)) (mj_cons (mc_X6_basin_X6_basin_r2 _ (List.mem_of_getElem? (i := 21) rfl)) (mj_cons (mc_X6_basin_X6_basin_r2 _ (List.mem_of_getElem? (i := 22) rfl)) (mj_cons (mc_X6_basin_X6_basin_r1 _ (List.mem_of_getElem? (i := 5) rfl)) (mj_cons (mc_X6_basin_X6_basin_r2 _ (List.mem_of_getElem? (i := 23) rfl)) (mj_cons (mc_X6_basin_X6_basin_r1 _ (List.mem_of_getElem? (i := 7) rfl)) mj_nil)))))))))))))) mc_X6_basin_X60) mc_X6_basin_X30)) (by decide +kernel)
set_option maxRecDepth 20000 in
theorem gX6_basin_X6_changed : GoodIn wsX6_basin (wsV RX6 65 RX6 yX6_changed wsX6_changed) := goodIn_app (mj_good (mj_cons (mc_X6_basin_X6_basin_r2 _ (List.mem_of_getElem? (i := 8) rfl)) (mj_cons (mc_X6_basin_X6_basin_r2 _ (List.mem_of_getElem? (i := 9) rfl)) (mj_cons (mc_X6_basin_X6_basin_r2 _ (List.mem_of_getElem? (i := 10) rfl)) (mj_cons (mc_X6_basin_X6_basin_r1 _ (List.mem_of_getElem? (i := 5) rfl)) mj_nil)))) (by decide +kernel)) ggX6_basin_X6_changed
theorem dX6_basin_0 : decode cX6_basin 0 = .ok (.iload_n 1, 1) := by decide +kernel
theorem dX6_basin_1 : decode cX6_basin 1 = .ok (.iconst 3, 1) := by decide +kernel
theorem dX6_basin_2 : decode cX6_basin 2 = .ok (.if_icmp .lt 20, 3) := by decide +kernel
theorem dX6_basin_5 : decode cX6_basin 5 = .ok (.iload_n 1, 1) := by decide +kernel
theorem dX6_basin_6 : decode cX6_basin 6 = .ok (.bipush 8, 2) := by decide +kernel
theorem dX6_basin_8 : decode cX6_basin 8 = .ok (.if_icmp .gt 14, 3) := by decide +kernel
theorem dX6_basin_11 : decode cX6_basin 11 = .ok (.iload_n 2, 1) := by decide +kernel
theorem dX6_basin_12 : decode cX6_basin 12 = .ok (.iconst 3, 1) := by decide +kernel
theorem dX6_basin_13 : decode cX6_basin 13 = .ok (.if_icmp .lt 9, 3) := by decide +kernel
theorem dX6_basin_16 : decode cX6_basin 16 = .ok (.iload_n 2, 1) := by decide +kernel
theorem dX6_basin_17 : decode cX6_basin 17 = .ok (.bipush 8, 2) := by decide +kernel
theorem dX6_basin_19 : decode cX6_basin 19 = .ok (.if_icmp .le 9, 3) := by decide +kernel
theorem dX6_basin_22 : decode cX6_basin 22 = .ok (.aload_n 0, 1) := by decide +kernel
theorem dX6_basin_23 : decode cX6_basin 23 = .ok (.iconst 2, 1) := by decide +kernel
theorem dX6_basin_24 : decode cX6_basin 24 = .ok (.invokevirtual 54, 3) := by decide +kernel
theorem dX6_basin_27 : decode cX6_basin 27 = .ok (.ireturn, 1) := by decide +kernel
theorem dX6_basin_28 : decode cX6_basin 28 = .ok (.aload_n 0, 1) := by decide +kernel
theorem dX6_basin_29 : decode cX6_basin 29 = .ok (.getfield 10, 3) := by decide +kernel
theorem dX6_basin_32 : decode cX6_basin 32 = .ok (.invokevirtual 58, 3) := by decide +kernel
theorem dX6_basin_35 : decode cX6_basin 35 = .ok (.aload_n 0, 1) := by decide +kernel
theorem dX6_basin_36 : decode cX6_basin 36 = .ok (.getfield 19, 3) := by decide +kernel
theorem dX6_basin_39 : decode cX6_basin 39 = .ok (.iload_n 1, 1) := by decide +kernel
theorem dX6_basin_40 : decode cX6_basin 40 = .ok (.iload_n 2, 1) := by decide +kernel
theorem dX6_basin_41 : decode cX6_basin 41 = .ok (.invokevirtual 61, 3) := by decide +kernel
theorem dX6_basin_44 : decode cX6_basin 44 = .ok (.aload_n 0, 1) := by decide +kernel
theorem dX6_basin_45 : decode cX6_basin 45 = .ok (.invokevirtual 65, 3) := by decide +kernel
theorem dX6_basin_48 : decode cX6_basin 48 = .ok (.ireturn, 1) := by decide +kernel
set_option maxRecDepth 20000 in
theorem mc_X6_line_X6_line_r1 : mjIn wsX6_line wsX6_line_r1 := fun w h => (List.mem_cons_of_mem _ (List.mem_append_left _ (List.mem_append_left _ (List.mem_append_left _ (List.mem_append_left _ (List.mem_append_left _ h))))))
set_option maxRecDepth 20000 in
theorem mc_X6_line_X60 : mjIn wsX6_line wsX60 := fun w h => (List.mem_cons_of_mem _ (List.mem_append_left _ (List.mem_append_left _ (List.mem_append_left _ (List.mem_append_right _ h)))))
set_option maxRecDepth 20000 in
theorem mc_X6_line_X00 : mjIn wsX6_line wsX00 := fun w h => (List.mem_cons_of_mem _ (List.mem_append_left _ (List.mem_append_left _ (List.mem_append_right _ h))))
set_option maxRecDepth 20000 in
theorem ggX6_line_X6_hasNoBasin : GoodIn wsX6_line wsX6_hasNoBasin := mj_good (mj_cons (mc_X6_line_X6_line_r1 _ (List.mem_of_getElem? (i := 7) rfl)) (mj_app (mj_app (mj_cons (mc_X6_line_X6_line_r1 _ (List.mem_of_getElem? (i := 0) rfl)) (mj_cons (mc_X6_line_X6_line_r1 _ (List.mem_of_getElem? (i := 1) rfl)) mj_nil)) mc_X6_line_X60) mc_X6_line_X00)) (by decide +kernel)
set_option maxRecDepth 20000 in
theorem gX6_line_X6_hasNoBasin : GoodIn wsX6_line (wsV RX6 69 RX6 yX6_hasNoBasin wsX6_hasNoBasin) := goodIn_app (mj_good (mj_cons (mc_X6_line_X6_line_r1 _ (List.mem_of_getElem? (i := 3) rfl)) (mj_cons (mc_X6_line_X6_line_r1 _ (List.mem_of_getElem? (i := 4) rfl)) (mj_cons (mc_X6_line_X6_line_r1 _ (List.mem_of_getElem? (i := 5) rfl)) (mj_cons (mc_X6_line_X6_line_r1 _ (List.mem_of_getElem? (i := 6) rfl)) mj_nil)))) (by decide +kernel)) ggX6_line_X6_hasNoBasin
set_option maxRecDepth 20000 in
theorem ggX6_line_X6_deny : GoodIn wsX6_line wsX6_deny := mj_good (mj_cons (mc_X6_line_X6_line_r1 _ (List.mem_of_getElem? (i := 11) rfl)) (mj_app (mj_cons (mc_X6_line_X6_line_r1 _ (List.mem_of_getElem? (i := 12) rfl)) mj_nil) mc_X6_line_X60)) (by decide +kernel)
set_option maxRecDepth 20000 in
theorem gX6_line_X6_deny : GoodIn wsX6_line (wsV RX6 54 RX6 yX6_deny wsX6_deny) := goodIn_app (mj_good (mj_cons (mc_X6_line_X6_line_r1 _ (List.mem_of_getElem? (i := 8) rfl)) (mj_cons (mc_X6_line_X6_line_r1 _ (List.mem_of_getElem? (i := 9) rfl)) (mj_cons (mc_X6_line_X6_line_r1 _ (List.mem_of_getElem? (i := 10) rfl)) (mj_cons (mc_X6_line_X6_line_r1 _ (List.mem_of_getElem? (i := 6) rfl)) mj_nil)))) (by decide +kernel)) ggX6_line_X6_deny
set_option maxRecDepth 20000 in
theorem ggX6_line_X6_isNoLine : GoodIn wsX6_line wsX6_isNoLine := mj_good (mj_cons (mc_X6_line_X6_line_r1 _ (List.mem_of_getElem? (i := 16) rfl)) (mj_app (mj_app (mj_cons (mc_X6_line_X6_line_r1 _ (List.mem_of_getElem? (i := 0) rfl)) (mj_cons (mc_X6_line_X6_line_r1 _ (List.mem_of_getElem? (i := 17) rfl)) mj_nil)) mc_X6_line_X60) mc_X6_line_X00)) (by decide +kernel)
set_option maxRecDepth 20000 in
theorem gX6_line_X6_isNoLine : GoodIn wsX6_line (wsV RX6 72 RX6 yX6_isNoLine wsX6_isNoLine) := goodIn_app (mj_good (mj_cons (mc_X6_line_X6_line_r1 _ (List.mem_of_getElem? (i := 13) rfl)) (mj_cons (mc_X6_line_X6_line_r1 _ (List.mem_of_getElem? (i := 14) rfl)) (mj_cons (mc_X6_line_X6_line_r1 _ (List.mem_of_getElem? (i := 15) rfl)) (mj_cons (mc_X6_line_X6_line_r1 _ (List.mem_of_getElem? (i := 6) rfl)) mj_nil)))) (by decide +kernel)) ggX6_line_X6_isNoLine
set_option maxRecDepth 20000 in
theorem mc_X6_line_X6_line_r2 : mjIn wsX6_line wsX6_line_r2 := fun w h => (List.mem_cons_of_mem _ (List.mem_append_left _ (List.mem_append_left _ (List.mem_append_left _ (List.mem_append_left _ (List.mem_append_right _ (List.mem_append_left _ h)))))))
set_option maxRecDepth 20000 in
theorem ggX6_line_X0_isTaken : GoodIn wsX6_line wsX0_isTaken := mj_good (mj_cons (mc_X6_line_X6_line_r1 _ (List.mem_of_getElem? (i := 22) rfl)) (mj_app (mj_cons (mc_X6_line_X6_line_r1 _ (List.mem_of_getElem? (i := 23) rfl)) (mj_cons (mc_X6_line_X6_line_r2 _ (List.mem_of_getElem? (i := 0) rfl)) mj_nil)) mc_X6_line_X00)) (by decide +kernel)
set_option maxRecDepth 20000 in
theorem gX6_line_X0_isTaken : GoodIn wsX6_line (wsV RX6 78 RX0 yX0_isTaken wsX0_isTaken) := goodIn_app (mj_good (mj_cons (mc_X6_line_X6_line_r1 _ (List.mem_of_getElem? (i := 18) rfl)) (mj_cons (mc_X6_line_X6_line_r1 _ (List.mem_of_getElem? (i := 19) rfl)) (mj_cons (mc_X6_line_X6_line_r1 _ (List.mem_of_getElem? (i := 20) rfl)) (mj_cons (mc_X6_line_X6_line_r1 _ (List.mem_of_getElem? (i := 21) rfl)) mj_nil)))) (by decide +kernel)) ggX6_line_X0_isTaken
set_option maxRecDepth 20000 in
theorem mc_X6_line_X20 : mjIn wsX6_line wsX20 := fun w h => (List.mem_cons_of_mem _ (List.mem_append_left _ (List.mem_append_right _ h)))
set_option maxRecDepth 20000 in
theorem ggX6_line_X2_lay : GoodIn wsX6_line wsX2_lay := mj_good (mj_cons (mc_X6_line_X6_line_r2 _ (List.mem_of_getElem? (i := 5) rfl)) (mj_app (mj_cons (mc_X6_line_X6_line_r2 _ (List.mem_of_getElem? (i := 6) rfl)) (mj_cons (mc_X6_line_X6_line_r2 _ (List.mem_of_getElem? (i := 7) rfl)) (mj_cons (mc_X6_line_X6_line_r2 _ (List.mem_of_getElem? (i := 8) rfl)) (mj_cons (mc_X6_line_X6_line_r2 _ (List.mem_of_getElem? (i := 9) rfl)) (mj_cons (mc_X6_line_X6_line_r2 _ (List.mem_of_getElem? (i := 10) rfl)) (mj_cons (mc_X6_line_X6_line_r2 _ (List.mem_of_getElem? (i := 4) rfl)) (mj_cons (mc_X6_line_X6_line_r2 _ (List.mem_of_getElem? (i := 11) rfl)) (mj_cons (mc_X6_line_X6_line_r2 _ (List.mem_of_getElem? (i := 12) rfl)) mj_nil)))))))) mc_X6_line_X20)) (by decide +kernel)
set_option maxRecDepth 20000 in
theorem gX6_line_X2_lay : GoodIn wsX6_line (wsV RX6 82 RX2 yX2_lay wsX2_lay) := goodIn_app (mj_good (mj_cons (mc_X6_line_X6_line_r2 _ (List.mem_of_getElem? (i := 1) rfl)) (mj_cons (mc_X6_line_X6_line_r2 _ (List.mem_of_getElem? (i := 2) rfl)) (mj_cons (mc_X6_line_X6_line_r2 _ (List.mem_of_getElem? (i := 3) rfl)) (mj_cons (mc_X6_line_X6_line_r2 _ (List.mem_of_getElem? (i := 4) rfl)) mj_nil)))) (by decide +kernel)) ggX6_line_X2_lay
set_option maxRecDepth 20000 in
theorem mc_X6_line_X6_line_r3 : mjIn wsX6_line wsX6_line_r3 := fun w h => (List.mem_cons_of_mem _ (List.mem_append_left _ (List.mem_append_left _ (List.mem_append_left _ (List.mem_append_left _ (List.mem_append_right _ (List.mem_append_right _ (List.mem_append_left _ h))))))))
set_option maxRecDepth 20000 in
theorem mc_X6_line_X6_line_r4 : mjIn wsX6_line wsX6_line_r4 := fun w h => (List.mem_cons_of_mem _ (List.mem_append_left _ (List.mem_append_left _ (List.mem_append_left _ (List.mem_append_left _ (List.mem_append_right _ (List.mem_append_right _ (List.mem_append_right _ h))))))))
set_option maxRecDepth 20000 in
theorem mc_X6_line_X30 : mjIn wsX6_line wsX30 := fun w h => (List.mem_cons_of_mem _ (List.mem_append_right _ h))
set_option maxRecDepth 20000 in
theorem ggX6_line_X6_linesChanged : GoodIn wsX6_line wsX6_linesChanged := mj_good (mj_cons (mc_X6_line_X6_line_r2 _ (List.mem_of_getElem? (i := 16) rfl)) (mj_app (mj_app (mj_app (mj_app (mj_app (mj_cons (mc_X6_line_X6_line_r1 _ (List.mem_of_getElem? (i := 0) rfl)) (mj_cons (mc_X6_line_X6_line_r1 _ (List.mem_of_getElem? (i := 2) rfl)) (mj_cons (mc_X6_line_X6_line_r1 _ (List.mem_of_getElem? (i := 1) rfl)) (mj_cons (mc_X6_line_X6_line_r2 _ (List.mem_of_getElem? (i := 17) rfl)) (mj_cons (mc_X6_line_X6_line_r2 _ (List.mem_of_getElem? (i := 18) rfl)) (mj_cons (mc_X6_line_X6_line_r2 _ (List.mem_of_getElem? (i := 19) rfl)) (mj_cons (mc_X6_line_X6_line_r2 _ (List.mem_of_getElem? (i := 4) rfl)) (mj_cons (mc_X6_line_X6_line_r2 _ (List.mem_of_getElem? (i := 20) rfl)) (mj_cons (mc_X6_line_X6_line_r2 _ (List.mem_of_getElem? (i := 7) rfl)) (mj_cons (mc_X6_line_X6_line_r2 _ (List.mem_of_getElem? (i := 21) rfl)) (mj_cons (mc_X6_line_X6_line_r2 _ (List.mem_of_getElem? (i := 22) rfl)) (mj_cons (mc_X6_line_X6_line_r2 _ (List.mem_of_getElem? (i := 23) rfl)) (mj_cons (mc_X6_line_X6_line_r3 _ (List.mem_of_getElem? (i := 0) rfl)) (mj_cons (mc_X6_line_X6_line_r2 _ (List.mem_of_getElem? (i := 6) rfl)) (mj_cons (mc_X6_line_X6_line_r3 _ (List.mem_of_getElem? (i := 1) rfl)) (mj_cons (mc_X6_line_X6_line_r3 _ (List.mem_of_getElem? (i := 2) rfl)) (mj_cons (mc_X6_line_X6_line_r3 _ (List.mem_of_getElem? (i := 3) rfl)) (mj_cons (mc_X6_line_X6_line_r3 _ (List.mem_of_getElem? (i := 4) rfl)) (mj_cons (mc_X6_line_X6_line_r2 _ (List.mem_of_getElem? (i := 12) rfl)) (mj_cons (mc_X6_line_X6_line_r3 _ (List.mem_of_getElem? (i := 5) rfl)) (mj_cons (mc_X6_line_X6_line_r3 _ (List.mem_of_getElem? (i := 6) rfl)) (mj_cons (mc_X6_line_X6_line_r3 _ (List.mem_of_getElem? (i := 7) rfl)) (mj_cons (mc_X6_line_X6_line_r1 _ (List.mem_of_getElem? (i := 21) rfl)) (mj_cons (mc_X6_line_X6_line_r3 _ (List.mem_of_getElem? (i := 8) rfl)) mj_nil)))))))))))))))))))))))) (mj_cons (mc_X6_line_X6_line_r3 _ (List.mem_of_getElem? (i := 9) rfl)) (mj_cons (mc_X6_line_X6_line_r3 _ (List.mem_of_getElem? (i := 10) rfl)) (mj_cons (mc_X6_line_X6_line_r3 _ (List.mem_of_getElem? (i := 11) rfl)) (mj_cons (mc_X6_line_X6_line_r3 _ (List.mem_of_getElem? (i := 12) rfl)) (mj_cons (mc_X6_line_X6_line_r3 _ (List.mem_of_getElem? (i := 13) rfl)) (mj_cons (mc_X6_line_X6_line_r3 _ (List.mem_of_getElem? (i := 14) rfl)) (mj_cons (mc_X6_line_X6_line_r1 _ (List.mem_of_getElem? (i := 6) rfl)) (mj_cons (mc_X6_line_X6_line_r3 _ (List.mem_of_getElem? (i := 15) rfl)) (mj_cons (mc_X6_line_X6_line_r3 _ (List.mem_of_getElem? (i := 16) rfl)) (mj_cons (mc_X6_line_X6_line_r3 _ (List.mem_of_getElem? (i := 17) rfl)) (mj_cons (mc_X6_line_X6_line_r3 _ (List.mem_of_getElem? (i := 18) rfl)) (mj_cons (mc_X6_line_X6_line_r3 _ (List.mem_of_getElem? (i := 19) rfl)) (mj_cons (mc_X6_line_X6_line_r3 _ (List.mem_of_getElem? (i := 20) rfl)) (mj_cons (mc_X6_line_X6_line_r3 _ (List.mem_of_getElem? (i := 21) rfl)) (mj_cons (mc_X6_line_X6_line_r3 _ (List.mem_of_getElem? (i := 22) rfl)) (mj_cons (mc_X6_line_X6_line_r3 _ (List.mem_of_getElem? (i := 23) rfl)) (mj_cons (mc_X6_line_X6_line_r4 _ (List.mem_of_getElem? (i := 0) rfl)) (mj_cons (mc_X6_line_X6_line_r4 _ (List.mem_of_getElem? (i := 1) rfl)) (mj_cons (mc_X6_line_X6_line_r4 _ (List.mem_of_getElem? (i := 2) rfl)) (mj_cons (mc_X6_line_X6_line_r4 _ (List.mem_of_getElem? (i := 3) rfl)) (mj_cons (mc_X6_line_X6_line_r1 _ (List.mem_of_getElem? (i := 12) rfl)) mj_nil)))))))))))))))))))))) mc_X6_line_X60) mc_X6_line_X00) mc_X6_line_X20) mc_X6_line_X30)) (by decide +kernel)
set_option maxRecDepth 20000 in
theorem gX6_line_X6_linesChanged : GoodIn wsX6_line (wsV RX6 86 RX6 yX6_linesChanged wsX6_linesChanged) := goodIn_app (mj_good (mj_cons (mc_X6_line_X6_line_r2 _ (List.mem_of_getElem? (i := 13) rfl)) (mj_cons (mc_X6_line_X6_line_r2 _ (List.mem_of_getElem? (i := 14) rfl)) (mj_cons (mc_X6_line_X6_line_r2 _ (List.mem_of_getElem? (i := 15) rfl)) (mj_cons (mc_X6_line_X6_line_r1 _ (List.mem_of_getElem? (i := 6) rfl)) mj_nil)))) (by decide +kernel)) ggX6_line_X6_linesChanged
theorem dX6_line_0 : decode cX6_line 0 = .ok (.aload_n 0, 1) := by decide +kernel
theorem dX6_line_1 : decode cX6_line 1 = .ok (.invokevirtual 69, 3) := by decide +kernel
theorem dX6_line_4 : decode cX6_line 4 = .ok (.ifCond .eq 9, 3) := by decide +kernel
theorem dX6_line_7 : decode cX6_line 7 = .ok (.aload_n 0, 1) := by decide +kernel
theorem dX6_line_8 : decode cX6_line 8 = .ok (.iconst 1, 1) := by decide +kernel
theorem dX6_line_9 : decode cX6_line 9 = .ok (.invokevirtual 54, 3) := by decide +kernel
theorem dX6_line_12 : decode cX6_line 12 = .ok (.ireturn, 1) := by decide +kernel
theorem dX6_line_13 : decode cX6_line 13 = .ok (.aload_n 0, 1) := by decide +kernel
theorem dX6_line_14 : decode cX6_line 14 = .ok (.iload_n 1, 1) := by decide +kernel
theorem dX6_line_15 : decode cX6_line 15 = .ok (.invokevirtual 72, 3) := by decide +kernel
theorem dX6_line_18 : decode cX6_line 18 = .ok (.ifCond .ne 18, 3) := by decide +kernel
theorem dX6_line_21 : decode cX6_line 21 = .ok (.iload_n 2, 1) := by decide +kernel
theorem dX6_line_22 : decode cX6_line 22 = .ok (.ifCond .lt 14, 3) := by decide +kernel
theorem dX6_line_25 : decode cX6_line 25 = .ok (.iload_n 2, 1) := by decide +kernel
theorem dX6_line_26 : decode cX6_line 26 = .ok (.iconst 2, 1) := by decide +kernel
theorem dX6_line_27 : decode cX6_line 27 = .ok (.if_icmp .gt 9, 3) := by decide +kernel
theorem dX6_line_30 : decode cX6_line 30 = .ok (.iload_n 3, 1) := by decide +kernel
theorem dX6_line_31 : decode cX6_line 31 = .ok (.bipush 8, 2) := by decide +kernel
theorem dX6_line_33 : decode cX6_line 33 = .ok (.if_icmp .le 9, 3) := by decide +kernel
theorem dX6_line_36 : decode cX6_line 36 = .ok (.aload_n 0, 1) := by decide +kernel
theorem dX6_line_37 : decode cX6_line 37 = .ok (.iconst 2, 1) := by decide +kernel
theorem dX6_line_38 : decode cX6_line 38 = .ok (.invokevirtual 54, 3) := by decide +kernel
theorem dX6_line_41 : decode cX6_line 41 = .ok (.ireturn, 1) := by decide +kernel
theorem dX6_line_42 : decode cX6_line 42 = .ok (.iload_n 3, 1) := by decide +kernel
theorem dX6_line_43 : decode cX6_line 43 = .ok (.ifCond .ge 10, 3) := by decide +kernel
theorem dX6_line_46 : decode cX6_line 46 = .ok (.aload_n 0, 1) := by decide +kernel
theorem dX6_line_47 : decode cX6_line 47 = .ok (.bipush 6, 2) := by decide +kernel
theorem dX6_line_49 : decode cX6_line 49 = .ok (.invokevirtual 54, 3) := by decide +kernel
theorem dX6_line_52 : decode cX6_line 52 = .ok (.ireturn, 1) := by decide +kernel
theorem dX6_line_53 : decode cX6_line 53 = .ok (.iload_n 3, 1) := by decide +kernel
theorem dX6_line_54 : decode cX6_line 54 = .ok (.istore 4, 2) := by decide +kernel
theorem dX6_line_56 : decode cX6_line 56 = .ok (.iload 4, 2) := by decide +kernel
theorem dX6_line_58 : decode cX6_line 58 = .ok (.aload_n 0, 1) := by decide +kernel
theorem dX6_line_59 : decode cX6_line 59 = .ok (.getfield 19, 3) := by decide +kernel
theorem dX6_line_62 : decode cX6_line 62 = .ok (.getfield 75, 3) := by decide +kernel
theorem dX6_line_65 : decode cX6_line 65 = .ok (.if_icmp .ge 29, 3) := by decide +kernel
theorem dX6_line_68 : decode cX6_line 68 = .ok (.aload_n 0, 1) := by decide +kernel
theorem dX6_line_69 : decode cX6_line 69 = .ok (.getfield 19, 3) := by decide +kernel
theorem dX6_line_72 : decode cX6_line 72 = .ok (.iload 4, 2) := by decide +kernel
theorem dX6_line_74 : decode cX6_line 74 = .ok (.iload_n 1, 1) := by decide +kernel
theorem dX6_line_75 : decode cX6_line 75 = .ok (.invokevirtual 78, 3) := by decide +kernel
theorem dX6_line_78 : decode cX6_line 78 = .ok (.ifCond .eq 10, 3) := by decide +kernel
theorem dX6_line_81 : decode cX6_line 81 = .ok (.aload_n 0, 1) := by decide +kernel
theorem dX6_line_82 : decode cX6_line 82 = .ok (.bipush 7, 2) := by decide +kernel
