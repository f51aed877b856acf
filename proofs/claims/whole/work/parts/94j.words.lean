set_option maxRecDepth 20000 in
theorem wsX30_in : mjIn lw_tbl wsX30 := (mj_cons (mT_1 _ (List.mem_of_getElem? (i := 120) rfl)) (mj_cons (mT_1 _ (List.mem_of_getElem? (i := 122) rfl)) (mj_cons (mT_1 _ (List.mem_of_getElem? (i := 124) rfl)) (mj_cons (mT_1 _ (List.mem_of_getElem? (i := 126) rfl)) mj_nil))))
set_option maxRecDepth 20000 in
theorem wsX50_in : mjIn lw_tbl wsX50 := (mj_cons (mT_3 _ (List.mem_of_getElem? (i := 51) rfl)) (mj_cons (mT_3 _ (List.mem_of_getElem? (i := 53) rfl)) (mj_cons (mT_3 _ (List.mem_of_getElem? (i := 55) rfl)) (mj_cons (mT_3 _ (List.mem_of_getElem? (i := 57) rfl)) (mj_cons (mT_3 _ (List.mem_of_getElem? (i := 59) rfl)) (mj_cons (mT_3 _ (List.mem_of_getElem? (i := 61) rfl)) (mj_cons (mT_3 _ (List.mem_of_getElem? (i := 63) rfl)) (mj_cons (mT_3 _ (List.mem_of_getElem? (i := 65) rfl)) (mj_cons (mT_3 _ (List.mem_of_getElem? (i := 67) rfl)) (mj_cons (mT_3 _ (List.mem_of_getElem? (i := 69) rfl)) (mj_cons (mT_3 _ (List.mem_of_getElem? (i := 71) rfl)) (mj_cons (mT_3 _ (List.mem_of_getElem? (i := 73) rfl)) mj_nil))))))))))))
set_option maxRecDepth 20000 in
theorem wsX40_in : mjIn lw_tbl wsX40 := (mj_cons (mT_3 _ (List.mem_of_getElem? (i := 176) rfl)) (mj_cons (mT_3 _ (List.mem_of_getElem? (i := 178) rfl)) mj_nil))
set_option maxRecDepth 20000 in
theorem wsX10_in : mjIn lw_tbl wsX10 := (mj_cons (mT_4 _ (List.mem_of_getElem? (i := 32) rfl)) mj_nil)
