/-! ===== places in the tables (by wip/whole/gen_links.py) ===== -/
theorem tt_ : ∀ w ∈ tables_1, w ∈ lw_tbl := fun _ h => List.mem_append_right _ h
theorem tk_1 : ∀ w ∈ tables_1_1, w ∈ lw_tbl := fun _ h => tt_ _ (List.mem_append_left _ h)
theorem tk_2 : ∀ w ∈ tables_1_2, w ∈ lw_tbl := fun _ h => tt_ _ (List.mem_append_right _ (List.mem_append_left _ h))
theorem tk_3 : ∀ w ∈ tables_1_3, w ∈ lw_tbl := fun _ h => tt_ _ (List.mem_append_right _ (List.mem_append_right _ (List.mem_append_left _ h)))
theorem tk_4 : ∀ w ∈ tables_1_4, w ∈ lw_tbl := fun _ h => tt_ _ (List.mem_append_right _ (List.mem_append_right _ (List.mem_append_right _ (List.mem_append_left _ h))))
theorem tk_5 : ∀ w ∈ tables_1_5, w ∈ lw_tbl := fun _ h => tt_ _ (List.mem_append_right _ (List.mem_append_right _ (List.mem_append_right _ (List.mem_append_right _ (List.mem_append_left _ h)))))
theorem tk_6 : ∀ w ∈ tables_1_6, w ∈ lw_tbl := fun _ h => tt_ _ (List.mem_append_right _ (List.mem_append_right _ (List.mem_append_right _ (List.mem_append_right _ (List.mem_append_right _ (List.mem_append_left _ h))))))
theorem tk_7 : ∀ w ∈ tables_1_7, w ∈ lw_tbl := fun _ h => tt_ _ (List.mem_append_right _ (List.mem_append_right _ (List.mem_append_right _ (List.mem_append_right _ (List.mem_append_right _ (List.mem_append_right _ (h)))))))
theorem tp_1 : ∀ q ∈ lw_privs_1, Cond.selects q.1.cls q.1 q.1 ∈ lw_tbl := fun q h => List.mem_append_left _ (List.mem_map.mpr ⟨q, List.mem_append_left _ h, rfl⟩)
theorem tp_2 : ∀ q ∈ lw_privs_2, Cond.selects q.1.cls q.1 q.1 ∈ lw_tbl := fun q h => List.mem_append_left _ (List.mem_map.mpr ⟨q, List.mem_append_right _ (List.mem_append_left _ h), rfl⟩)
theorem tp_3 : ∀ q ∈ lw_privs_3, Cond.selects q.1.cls q.1 q.1 ∈ lw_tbl := fun q h => List.mem_append_left _ (List.mem_map.mpr ⟨q, List.mem_append_right _ (List.mem_append_right _ (List.mem_append_left _ h)), rfl⟩)
theorem tp_4 : ∀ q ∈ lw_privs_4, Cond.selects q.1.cls q.1 q.1 ∈ lw_tbl := fun q h => List.mem_append_left _ (List.mem_map.mpr ⟨q, List.mem_append_right _ (List.mem_append_right _ (List.mem_append_right _ (List.mem_append_left _ h))), rfl⟩)
theorem tp_5 : ∀ q ∈ lw_privs_5, Cond.selects q.1.cls q.1 q.1 ∈ lw_tbl := fun q h => List.mem_append_left _ (List.mem_map.mpr ⟨q, List.mem_append_right _ (List.mem_append_right _ (List.mem_append_right _ (List.mem_append_right _ (h)))), rfl⟩)
theorem uwX0 : u_ws RX0 TX0 6 = [287, 289, 291, 293, 295, 297].filterMap (fun i => tables_1[i]?) := by decide +kernel
theorem okX0 : cl_ok 0 RX0 TX0 6 tyX0 := ⟨rfl, fun w hw => tb_of (tt_ _ (by rw [uwX0] at hw; obtain ⟨i, -, hi⟩ := List.mem_filterMap.mp hw; exact List.mem_of_getElem? hi)) (List.all_eq_true.mp (by decide +kernel : (u_ws RX0 TX0 6).all goodWord = true) w hw), tyX0_ok, nmX0, by decide, rfl⟩
theorem uwX1 : u_ws RX1 TX1 5 = [314, 316, 318, 320, 322].filterMap (fun i => tables_1[i]?) := by decide +kernel
theorem okX1 : cl_ok 1 RX1 TX1 5 tyX1 := ⟨rfl, fun w hw => tb_of (tt_ _ (by rw [uwX1] at hw; obtain ⟨i, -, hi⟩ := List.mem_filterMap.mp hw; exact List.mem_of_getElem? hi)) (List.all_eq_true.mp (by decide +kernel : (u_ws RX1 TX1 5).all goodWord = true) w hw), tyX1_ok, nmX1, by decide, rfl⟩
theorem uwX2 : u_ws RX2 TX2 5 = [260, 262, 264, 266, 268].filterMap (fun i => tables_1[i]?) := by decide +kernel
theorem okX2 : cl_ok 2 RX2 TX2 5 tyX2 := ⟨rfl, fun w hw => tb_of (tt_ _ (by rw [uwX2] at hw; obtain ⟨i, -, hi⟩ := List.mem_filterMap.mp hw; exact List.mem_of_getElem? hi)) (List.all_eq_true.mp (by decide +kernel : (u_ws RX2 TX2 5).all goodWord = true) w hw), tyX2_ok, nmX2, by decide, rfl⟩
theorem uwX3 : u_ws RX3 TX3 6 = [231, 233, 235, 237, 239, 241].filterMap (fun i => tables_1[i]?) := by decide +kernel
theorem okX3 : cl_ok 3 RX3 TX3 6 tyX3 := ⟨rfl, fun w hw => tb_of (tt_ _ (by rw [uwX3] at hw; obtain ⟨i, -, hi⟩ := List.mem_filterMap.mp hw; exact List.mem_of_getElem? hi)) (List.all_eq_true.mp (by decide +kernel : (u_ws RX3 TX3 6).all goodWord = true) w hw), tyX3_ok, nmX3, by decide, rfl⟩
theorem uwX4 : u_ws RX4 TX4 11 = [121, 123, 125, 127, 129, 131, 133, 135, 137, 139, 141].filterMap (fun i => tables_1[i]?) := by decide +kernel
theorem okX4 : cl_ok 4 RX4 TX4 11 tyX4 := ⟨rfl, fun w hw => tb_of (tt_ _ (by rw [uwX4] at hw; obtain ⟨i, -, hi⟩ := List.mem_filterMap.mp hw; exact List.mem_of_getElem? hi)) (List.all_eq_true.mp (by decide +kernel : (u_ws RX4 TX4 11).all goodWord = true) w hw), tyX4_ok, nmX4, by decide, rfl⟩
theorem uwX5 : u_ws RX5 TX5 9 = [87, 89, 91, 93, 95, 97, 99, 101, 103].filterMap (fun i => tables_1[i]?) := by decide +kernel
theorem okX5 : cl_ok 5 RX5 TX5 9 tyX5 := ⟨rfl, fun w hw => tb_of (tt_ _ (by rw [uwX5] at hw; obtain ⟨i, -, hi⟩ := List.mem_filterMap.mp hw; exact List.mem_of_getElem? hi)) (List.all_eq_true.mp (by decide +kernel : (u_ws RX5 TX5 9).all goodWord = true) w hw), tyX5_ok, nmX5, by decide, rfl⟩
theorem uwX6 : u_ws RX6 TX6 3 = [177, 179, 181].filterMap (fun i => tables_1[i]?) := by decide +kernel
theorem okX6 : cl_ok 6 RX6 TX6 3 tyX6 := ⟨rfl, fun w hw => tb_of (tt_ _ (by rw [uwX6] at hw; obtain ⟨i, -, hi⟩ := List.mem_filterMap.mp hw; exact List.mem_of_getElem? hi)) (List.all_eq_true.mp (by decide +kernel : (u_ws RX6 TX6 3).all goodWord = true) w hw), tyX6_ok, nmX6, by decide, rfl⟩
theorem uwX7 : u_ws RX7 TX7 6 = [51, 53, 55, 57, 59, 61].filterMap (fun i => tables_1[i]?) := by decide +kernel
theorem okX7 : cl_ok 7 RX7 TX7 6 tyX7 := ⟨rfl, fun w hw => tb_of (tt_ _ (by rw [uwX7] at hw; obtain ⟨i, -, hi⟩ := List.mem_filterMap.mp hw; exact List.mem_of_getElem? hi)) (List.all_eq_true.mp (by decide +kernel : (u_ws RX7 TX7 6).all goodWord = true) w hw), tyX7_ok, nmX7, by decide, rfl⟩
theorem uwX8 : u_ws RX8 TX8 3 = [158, 160, 162].filterMap (fun i => tables_1[i]?) := by decide +kernel
theorem okX8 : cl_ok 8 RX8 TX8 3 tyX8 := ⟨rfl, fun w hw => tb_of (tt_ _ (by rw [uwX8] at hw; obtain ⟨i, -, hi⟩ := List.mem_filterMap.mp hw; exact List.mem_of_getElem? hi)) (List.all_eq_true.mp (by decide +kernel : (u_ws RX8 TX8 3).all goodWord = true) w hw), tyX8_ok, nmX8, by decide, rfl⟩
theorem uwX9 : u_ws RX9 TX9 6 = [200, 202, 204, 206, 208, 210].filterMap (fun i => tables_1[i]?) := by decide +kernel
theorem okX9 : cl_ok 9 RX9 TX9 6 tyX9 := ⟨rfl, fun w hw => tb_of (tt_ _ (by rw [uwX9] at hw; obtain ⟨i, -, hi⟩ := List.mem_filterMap.mp hw; exact List.mem_of_getElem? hi)) (List.all_eq_true.mp (by decide +kernel : (u_ws RX9 TX9 6).all goodWord = true) w hw), tyX9_ok, nmX9, by decide, rfl⟩
theorem uwX10 : u_ws RX10 TX10 13 = [341, 343, 345, 347, 349, 351, 353, 355, 357, 359, 361, 363, 365].filterMap (fun i => tables_1[i]?) := by decide +kernel
theorem okX10 : cl_ok 10 RX10 TX10 13 tyX10 := ⟨rfl, fun w hw => tb_of (tt_ _ (by rw [uwX10] at hw; obtain ⟨i, -, hi⟩ := List.mem_filterMap.mp hw; exact List.mem_of_getElem? hi)) (List.all_eq_true.mp (by decide +kernel : (u_ws RX10 TX10 13).all goodWord = true) w hw), tyX10_ok, nmX10, by decide, rfl⟩
theorem uwX11 : u_ws RX11 TX11 34 = [1039, 1041, 1043, 1045, 1047, 1049, 1051, 1053, 1055, 1057, 1059, 1061, 1063, 1065, 1067, 1069, 1071, 1073, 1075, 1077, 1079, 1081, 1083, 1085, 1087, 1089, 1091, 1093, 1095, 1097, 1099, 1101, 1103, 1105].filterMap (fun i => tables_1[i]?) := by decide +kernel
theorem okX11 : cl_ok 11 RX11 TX11 34 tyX11 := ⟨rfl, fun w hw => tb_of (tt_ _ (by rw [uwX11] at hw; obtain ⟨i, -, hi⟩ := List.mem_filterMap.mp hw; exact List.mem_of_getElem? hi)) (List.all_eq_true.mp (by decide +kernel : (u_ws RX11 TX11 34).all goodWord = true) w hw), tyX11_ok, nmX11, by decide, rfl⟩
theorem iniX0 : Cond.initialized RX0 ∈ tb_ := tb_of (tk_1 _ (List.mem_of_getElem? (i := 10) rfl)) rfl
theorem iniX1 : Cond.initialized RX1 ∈ tb_ := tb_of (tk_1 _ (List.mem_of_getElem? (i := 11) rfl)) rfl
theorem iniX2 : Cond.initialized RX2 ∈ tb_ := tb_of (tk_1 _ (List.mem_of_getElem? (i := 9) rfl)) rfl
theorem iniX3 : Cond.initialized RX3 ∈ tb_ := tb_of (tk_1 _ (List.mem_of_getElem? (i := 8) rfl)) rfl
theorem iniX4 : Cond.initialized RX4 ∈ tb_ := tb_of (tk_1 _ (List.mem_of_getElem? (i := 2) rfl)) rfl
theorem iniX5 : Cond.initialized RX5 ∈ tb_ := tb_of (tk_1 _ (List.mem_of_getElem? (i := 4) rfl)) rfl
theorem iniX6 : Cond.initialized RX6 ∈ tb_ := tb_of (tk_1 _ (List.mem_of_getElem? (i := 6) rfl)) rfl
theorem iniX7 : Cond.initialized RX7 ∈ tb_ := tb_of (tk_1 _ (List.mem_of_getElem? (i := 3) rfl)) rfl
theorem iniX8 : Cond.initialized RX8 ∈ tb_ := tb_of (tk_1 _ (List.mem_of_getElem? (i := 5) rfl)) rfl
theorem iniX9 : Cond.initialized RX9 ∈ tb_ := tb_of (tk_1 _ (List.mem_of_getElem? (i := 7) rfl)) rfl
theorem iniX10 : Cond.initialized RX10 ∈ tb_ := tb_of (tk_1 _ (List.mem_of_getElem? (i := 1) rfl)) rfl
theorem iniX11 : Cond.initialized RX11 ∈ tb_ := tb_of (tk_1 _ (List.mem_of_getElem? (i := 12) rfl)) rfl
theorem iniJ6 : Cond.initialized RJ6 ∈ tb_ := tb_of (tk_1 _ (List.mem_of_getElem? (i := 19) rfl)) rfl
theorem iniJ9 : Cond.initialized RJ9 ∈ tb_ := tb_of (tk_1 _ (List.mem_of_getElem? (i := 13) rfl)) rfl
theorem iniJ0 : Cond.initialized RJ0 ∈ tb_ := tb_of (tk_1 _ (List.mem_of_getElem? (i := 14) rfl)) rfl
theorem iniJ1 : Cond.initialized RJ1 ∈ tb_ := tb_of (tk_1 _ (List.mem_of_getElem? (i := 15) rfl)) rfl
theorem iniJ2 : Cond.initialized RJ2 ∈ tb_ := tb_of (tk_1 _ (List.mem_of_getElem? (i := 17) rfl)) rfl
theorem iniJ7 : Cond.initialized RJ7 ∈ tb_ := tb_of (tk_1 _ (List.mem_of_getElem? (i := 18) rfl)) rfl
theorem iniJ3 : Cond.initialized RJ3 ∈ tb_ := tb_of (tk_1 _ (List.mem_of_getElem? (i := 16) rfl)) rfl
theorem iniL : Cond.initialized RL ∈ tb_ := tb_of (tk_1 _ (List.mem_of_getElem? (i := 0) rfl)) rfl
abbrev mX0_init : md_T := (yX0_init, cX0_init, 1, none)
theorem okX0_init : mk_ mX0_init 0 := ⟨tb_of (tk_2 _ (List.mem_of_getElem? (i := 35) rfl)) rfl, iniX0, by decide +kernel, by decide⟩
abbrev mX0_clear : md_T := (yX0_clear, cX0_clear, 1, none)
theorem okX0_clear : mk_ mX0_clear 0 := ⟨tb_of (tk_4 _ (List.mem_of_getElem? (i := 99) rfl)) rfl, iniX0, by decide +kernel, by decide⟩
theorem in_X0_clear : mi_ mX0_clear := ⟨tb_of (tk_4 _ (List.mem_of_getElem? (i := 98) rfl)) rfl, tb_of (tp_2 (yX0_clear, _) (List.mem_of_getElem? (i := 13) rfl)) rfl⟩
abbrev mX0_add : md_T := (yX0_add, cX0_add, 2, none)
theorem okX0_add : mk_ mX0_add 1 := ⟨tb_of (tk_4 _ (List.mem_of_getElem? (i := 105) rfl)) rfl, iniX0, by decide +kernel, by decide⟩
theorem in_X0_add : mi_ mX0_add := ⟨tb_of (tk_4 _ (List.mem_of_getElem? (i := 104) rfl)) rfl, tb_of (tp_2 (yX0_add, _) (List.mem_of_getElem? (i := 14) rfl)) rfl⟩
abbrev mX0_value : md_T := (yX0_value, cX0_value, 2, (some .int))
theorem okX0_value : mk_ mX0_value 1 := ⟨tb_of (tk_4 _ (List.mem_of_getElem? (i := 109) rfl)) rfl, iniX0, by decide +kernel, by decide⟩
theorem in_X0_value : mi_ mX0_value := ⟨tb_of (tk_4 _ (List.mem_of_getElem? (i := 107) rfl)) rfl, tb_of (tk_4 _ (List.mem_of_getElem? (i := 108) rfl)) rfl⟩
abbrev mX0_gather : md_T := (yX0_gather, cX0_gather, 7, none)
theorem okX0_gather : mk_ mX0_gather 4 := ⟨tb_of (tk_4 _ (List.mem_of_getElem? (i := 95) rfl)) rfl, iniX0, by decide +kernel, by decide⟩
theorem in_X0_gather : mi_ mX0_gather := ⟨tb_of (tk_4 _ (List.mem_of_getElem? (i := 93) rfl)) rfl, tb_of (tk_4 _ (List.mem_of_getElem? (i := 94) rfl)) rfl⟩
abbrev mX0_listen : md_T := (yX0_listen, cX0_listen, 6, none)
theorem okX0_listen : mk_ mX0_listen 3 := ⟨tb_of (tk_4 _ (List.mem_of_getElem? (i := 117) rfl)) rfl, iniX0, by decide +kernel, by decide⟩
theorem in_X0_listen : mi_ mX0_listen := ⟨tb_of (tk_4 _ (List.mem_of_getElem? (i := 115) rfl)) rfl, tb_of (tk_4 _ (List.mem_of_getElem? (i := 116) rfl)) rfl⟩
abbrev mX0_takeFrame : md_T := (yX0_takeFrame, cX0_takeFrame, 8, none)
theorem okX0_takeFrame : mk_ mX0_takeFrame 4 := ⟨tb_of (tk_4 _ (List.mem_of_getElem? (i := 122) rfl)) rfl, iniX0, by decide +kernel, by decide⟩
theorem in_X0_takeFrame : mi_ mX0_takeFrame := ⟨tb_of (tk_4 _ (List.mem_of_getElem? (i := 121) rfl)) rfl, tb_of (tp_2 (yX0_takeFrame, _) (List.mem_of_getElem? (i := 15) rfl)) rfl⟩
abbrev mX1_init : md_T := (yX1_init, cX1_init, 1, none)
theorem okX1_init : mk_ mX1_init 0 := ⟨tb_of (tk_2 _ (List.mem_of_getElem? (i := 64) rfl)) rfl, iniX1, by decide +kernel, by decide⟩
abbrev mX1_tally : md_T := (yX1_tally, cX1_tally, 3, none)
theorem okX1_tally : mk_ mX1_tally 1 := ⟨tb_of (tk_4 _ (List.mem_of_getElem? (i := 173) rfl)) rfl, iniX1, by decide +kernel, by decide⟩
theorem in_X1_tally : mi_ mX1_tally := ⟨tb_of (tk_4 _ (List.mem_of_getElem? (i := 171) rfl)) rfl, tb_of (tk_4 _ (List.mem_of_getElem? (i := 172) rfl)) rfl⟩
abbrev mX1_unlikePairs : md_T := (yX1_unlikePairs, cX1_unlikePairs, 5, (some .int))
theorem okX1_unlikePairs : mk_ mX1_unlikePairs 1 := ⟨tb_of (tk_4 _ (List.mem_of_getElem? (i := 164) rfl)) rfl, iniX1, by decide +kernel, by decide⟩
theorem in_X1_unlikePairs : mi_ mX1_unlikePairs := ⟨tb_of (tk_4 _ (List.mem_of_getElem? (i := 162) rfl)) rfl, tb_of (tk_4 _ (List.mem_of_getElem? (i := 163) rfl)) rfl⟩
abbrev mX2_init : md_T := (yX2_init, cX2_init, 1, none)
theorem okX2_init : mk_ mX2_init 0 := ⟨tb_of (tk_2 _ (List.mem_of_getElem? (i := 8) rfl)) rfl, iniX2, by decide +kernel, by decide⟩
abbrev mX2_measure : md_T := (yX2_measure, cX2_measure, 11, none)
theorem okX2_measure : mk_ mX2_measure 5 := ⟨tb_of (tk_4 _ (List.mem_of_getElem? (i := 74) rfl)) rfl, iniX2, by decide +kernel, by decide⟩
theorem in_X2_measure : mi_ mX2_measure := ⟨tb_of (tk_4 _ (List.mem_of_getElem? (i := 72) rfl)) rfl, tb_of (tk_4 _ (List.mem_of_getElem? (i := 73) rfl)) rfl⟩
abbrev mX2_note : md_T := (yX2_note, cX2_note, 4, none)
theorem okX2_note : mk_ mX2_note 3 := ⟨tb_of (tk_4 _ (List.mem_of_getElem? (i := 83) rfl)) rfl, iniX2, by decide +kernel, by decide⟩
theorem in_X2_note : mi_ mX2_note := ⟨tb_of (tk_4 _ (List.mem_of_getElem? (i := 82) rfl)) rfl, tb_of (tp_2 (yX2_note, _) (List.mem_of_getElem? (i := 12) rfl)) rfl⟩
abbrev mX2_firstChange : md_T := (yX2_firstChange, cX2_firstChange, 4, (some .int))
theorem okX2_firstChange : mk_ mX2_firstChange 3 := ⟨tb_of (tk_4 _ (List.mem_of_getElem? (i := 78) rfl)) rfl, iniX2, by decide +kernel, by decide⟩
theorem stX2_firstChange : Cond.static yX2_firstChange ∈ tb_ := tb_of (tk_4 _ (List.mem_of_getElem? (i := 77) rfl)) rfl
abbrev mX3_init : md_T := (yX3_init, cX3_init, 1, none)
theorem okX3_init : mk_ mX3_init 0 := ⟨tb_of (tk_1 _ (List.mem_of_getElem? (i := 217) rfl)) rfl, iniX3, by decide +kernel, by decide⟩
abbrev mX3_measure : md_T := (yX3_measure, cX3_measure, 7, none)
theorem okX3_measure : mk_ mX3_measure 4 := ⟨tb_of (tk_4 _ (List.mem_of_getElem? (i := 18) rfl)) rfl, iniX3, by decide +kernel, by decide⟩
theorem in_X3_measure : mi_ mX3_measure := ⟨tb_of (tk_4 _ (List.mem_of_getElem? (i := 16) rfl)) rfl, tb_of (tk_4 _ (List.mem_of_getElem? (i := 17) rfl)) rfl⟩
abbrev mX3_note : md_T := (yX3_note, cX3_note, 4, none)
theorem okX3_note : mk_ mX3_note 3 := ⟨tb_of (tk_4 _ (List.mem_of_getElem? (i := 27) rfl)) rfl, iniX3, by decide +kernel, by decide⟩
theorem in_X3_note : mi_ mX3_note := ⟨tb_of (tk_4 _ (List.mem_of_getElem? (i := 26) rfl)) rfl, tb_of (tp_2 (yX3_note, _) (List.mem_of_getElem? (i := 8) rfl)) rfl⟩
abbrev mX4_init : md_T := (yX4_init, cX4_init, 1, none)
theorem okX4_init : mk_ mX4_init 0 := ⟨tb_of (tk_1 _ (List.mem_of_getElem? (i := 32) rfl)) rfl, iniX4, by decide +kernel, by decide⟩
abbrev mX4_readAll : md_T := (yX4_readAll, cX4_readAll, 2, none)
theorem okX4_readAll : mk_ mX4_readAll 0 := ⟨tb_of (tk_3 _ (List.mem_of_getElem? (i := 15) rfl)) rfl, iniX4, by decide +kernel, by decide⟩
theorem in_X4_readAll : mi_ mX4_readAll := ⟨tb_of (tk_3 _ (List.mem_of_getElem? (i := 13) rfl)) rfl, tb_of (tk_3 _ (List.mem_of_getElem? (i := 14) rfl)) rfl⟩
abbrev mX4_exchange : md_T := (yX4_exchange, cX4_exchange, 3, (some (.object "EightWires$Rules")))
theorem okX4_exchange : mk_ mX4_exchange 1 := ⟨tb_of (tk_3 _ (List.mem_of_getElem? (i := 102) rfl)) rfl, iniX4, by decide +kernel, by decide⟩
theorem in_X4_exchange : mi_ mX4_exchange := ⟨tb_of (tk_3 _ (List.mem_of_getElem? (i := 100) rfl)) rfl, tb_of (tk_3 _ (List.mem_of_getElem? (i := 101) rfl)) rfl⟩
abbrev mX4_begin : md_T := (yX4_begin, cX4_begin, 1, none)
theorem okX4_begin : mk_ mX4_begin 0 := ⟨tb_of (tk_3 _ (List.mem_of_getElem? (i := 19) rfl)) rfl, iniX4, by decide +kernel, by decide⟩
theorem in_X4_begin : mi_ mX4_begin := ⟨tb_of (tk_3 _ (List.mem_of_getElem? (i := 18) rfl)) rfl, tb_of (tp_1 (yX4_begin, _) (List.mem_of_getElem? (i := 9) rfl)) rfl⟩
abbrev mX4_readState : md_T := (yX4_readState, cX4_readState, 3, none)
theorem okX4_readState : mk_ mX4_readState 0 := ⟨tb_of (tk_3 _ (List.mem_of_getElem? (i := 34) rfl)) rfl, iniX4, by decide +kernel, by decide⟩
theorem in_X4_readState : mi_ mX4_readState := ⟨tb_of (tk_3 _ (List.mem_of_getElem? (i := 33) rfl)) rfl, tb_of (tp_1 (yX4_readState, _) (List.mem_of_getElem? (i := 11) rfl)) rfl⟩
abbrev mX4_readBranch : md_T := (yX4_readBranch, cX4_readBranch, 5, none)
theorem okX4_readBranch : mk_ mX4_readBranch 2 := ⟨tb_of (tk_3 _ (List.mem_of_getElem? (i := 42) rfl)) rfl, iniX4, by decide +kernel, by decide⟩
theorem in_X4_readBranch : mi_ mX4_readBranch := ⟨tb_of (tk_3 _ (List.mem_of_getElem? (i := 41) rfl)) rfl, tb_of (tp_1 (yX4_readBranch, _) (List.mem_of_getElem? (i := 13) rfl)) rfl⟩
abbrev mX4_readKeep : md_T := (yX4_readKeep, cX4_readKeep, 1, none)
theorem okX4_readKeep : mk_ mX4_readKeep 0 := ⟨tb_of (tk_3 _ (List.mem_of_getElem? (i := 73) rfl)) rfl, iniX4, by decide +kernel, by decide⟩
theorem in_X4_readKeep : mi_ mX4_readKeep := ⟨tb_of (tk_3 _ (List.mem_of_getElem? (i := 72) rfl)) rfl, tb_of (tp_2 (yX4_readKeep, _) (List.mem_of_getElem? (i := 1) rfl)) rfl⟩
abbrev mX4_readDepth : md_T := (yX4_readDepth, cX4_readDepth, 1, none)
theorem okX4_readDepth : mk_ mX4_readDepth 0 := ⟨tb_of (tk_3 _ (List.mem_of_getElem? (i := 78) rfl)) rfl, iniX4, by decide +kernel, by decide⟩
theorem in_X4_readDepth : mi_ mX4_readDepth := ⟨tb_of (tk_3 _ (List.mem_of_getElem? (i := 77) rfl)) rfl, tb_of (tp_2 (yX4_readDepth, _) (List.mem_of_getElem? (i := 2) rfl)) rfl⟩
abbrev mX4_readAhead : md_T := (yX4_readAhead, cX4_readAhead, 1, none)
theorem okX4_readAhead : mk_ mX4_readAhead 0 := ⟨tb_of (tk_3 _ (List.mem_of_getElem? (i := 82) rfl)) rfl, iniX4, by decide +kernel, by decide⟩
theorem in_X4_readAhead : mi_ mX4_readAhead := ⟨tb_of (tk_3 _ (List.mem_of_getElem? (i := 81) rfl)) rfl, tb_of (tp_2 (yX4_readAhead, _) (List.mem_of_getElem? (i := 3) rfl)) rfl⟩
abbrev mX4_readCondition : md_T := (yX4_readCondition, cX4_readCondition, 4, none)
theorem okX4_readCondition : mk_ mX4_readCondition 1 := ⟨tb_of (tk_3 _ (List.mem_of_getElem? (i := 46) rfl)) rfl, iniX4, by decide +kernel, by decide⟩
theorem in_X4_readCondition : mi_ mX4_readCondition := ⟨tb_of (tk_3 _ (List.mem_of_getElem? (i := 45) rfl)) rfl, tb_of (tp_1 (yX4_readCondition, _) (List.mem_of_getElem? (i := 14) rfl)) rfl⟩
abbrev mX4_greatestOf : md_T := (yX4_greatestOf, cX4_greatestOf, 1, (some .int))
theorem okX4_greatestOf : mk_ mX4_greatestOf 1 := ⟨tb_of (tk_3 _ (List.mem_of_getElem? (i := 49) rfl)) rfl, iniX4, by decide +kernel, by decide⟩
theorem stX4_greatestOf : Cond.static yX4_greatestOf ∈ tb_ := tb_of (tk_3 _ (List.mem_of_getElem? (i := 48) rfl)) rfl
abbrev mX4_take : md_T := (yX4_take, cX4_take, 2, none)
theorem okX4_take : mk_ mX4_take 1 := ⟨tb_of (tk_3 _ (List.mem_of_getElem? (i := 65) rfl)) rfl, iniX4, by decide +kernel, by decide⟩
theorem in_X4_take : mi_ mX4_take := ⟨tb_of (tk_3 _ (List.mem_of_getElem? (i := 64) rfl)) rfl, tb_of (tp_2 (yX4_take, _) (List.mem_of_getElem? (i := 0) rfl)) rfl⟩
abbrev mX4_takeNumber : md_T := (yX4_takeNumber, cX4_takeNumber, 4, (some .int))
theorem okX4_takeNumber : mk_ mX4_takeNumber 2 := ⟨tb_of (tk_3 _ (List.mem_of_getElem? (i := 53) rfl)) rfl, iniX4, by decide +kernel, by decide⟩
theorem in_X4_takeNumber : mi_ mX4_takeNumber := ⟨tb_of (tk_3 _ (List.mem_of_getElem? (i := 52) rfl)) rfl, tb_of (tp_1 (yX4_takeNumber, _) (List.mem_of_getElem? (i := 15) rfl)) rfl⟩
abbrev mX4_advance : md_T := (yX4_advance, cX4_advance, 1, none)
theorem okX4_advance : mk_ mX4_advance 0 := ⟨tb_of (tk_3 _ (List.mem_of_getElem? (i := 30) rfl)) rfl, iniX4, by decide +kernel, by decide⟩
theorem in_X4_advance : mi_ mX4_advance := ⟨tb_of (tk_3 _ (List.mem_of_getElem? (i := 29) rfl)) rfl, tb_of (tp_1 (yX4_advance, _) (List.mem_of_getElem? (i := 10) rfl)) rfl⟩
abbrev mX4_refuse : md_T := (yX4_refuse, cX4_refuse, 2, none)
theorem okX4_refuse : mk_ mX4_refuse 1 := ⟨tb_of (tk_3 _ (List.mem_of_getElem? (i := 38) rfl)) rfl, iniX4, by decide +kernel, by decide⟩
theorem in_X4_refuse : mi_ mX4_refuse := ⟨tb_of (tk_3 _ (List.mem_of_getElem? (i := 37) rfl)) rfl, tb_of (tp_1 (yX4_refuse, _) (List.mem_of_getElem? (i := 12) rfl)) rfl⟩
abbrev mX5_init : md_T := (yX5_init, cX5_init, 1, none)
theorem okX5_init : mk_ mX5_init 0 := ⟨tb_of (tk_1 _ (List.mem_of_getElem? (i := 69) rfl)) rfl, iniX5, by decide +kernel, by decide⟩
abbrev mX5_forget : md_T := (yX5_forget, cX5_forget, 1, none)
theorem okX5_forget : mk_ mX5_forget 0 := ⟨tb_of (tk_3 _ (List.mem_of_getElem? (i := 23) rfl)) rfl, iniX5, by decide +kernel, by decide⟩
theorem in_X5_forget : mi_ mX5_forget := ⟨tb_of (tk_3 _ (List.mem_of_getElem? (i := 21) rfl)) rfl, tb_of (tk_3 _ (List.mem_of_getElem? (i := 22) rfl)) rfl⟩
abbrev mX5_branchCount : md_T := (yX5_branchCount, cX5_branchCount, 2, (some .int))
theorem okX5_branchCount : mk_ mX5_branchCount 1 := ⟨tb_of (tk_3 _ (List.mem_of_getElem? (i := 90) rfl)) rfl, iniX5, by decide +kernel, by decide⟩
theorem in_X5_branchCount : mi_ mX5_branchCount := ⟨tb_of (tk_3 _ (List.mem_of_getElem? (i := 88) rfl)) rfl, tb_of (tk_3 _ (List.mem_of_getElem? (i := 89) rfl)) rfl⟩
abbrev mX5_branchPlace : md_T := (yX5_branchPlace, cX5_branchPlace, 3, (some .int))
theorem okX5_branchPlace : mk_ mX5_branchPlace 2 := ⟨tb_of (tk_3 _ (List.mem_of_getElem? (i := 94) rfl)) rfl, iniX5, by decide +kernel, by decide⟩
theorem in_X5_branchPlace : mi_ mX5_branchPlace := ⟨tb_of (tk_3 _ (List.mem_of_getElem? (i := 92) rfl)) rfl, tb_of (tk_3 _ (List.mem_of_getElem? (i := 93) rfl)) rfl⟩
abbrev mX5_timesOf : md_T := (yX5_timesOf, cX5_timesOf, 2, (some .int))
theorem okX5_timesOf : mk_ mX5_timesOf 1 := ⟨tb_of (tk_3 _ (List.mem_of_getElem? (i := 130) rfl)) rfl, iniX5, by decide +kernel, by decide⟩
theorem in_X5_timesOf : mi_ mX5_timesOf := ⟨tb_of (tk_3 _ (List.mem_of_getElem? (i := 128) rfl)) rfl, tb_of (tk_3 _ (List.mem_of_getElem? (i := 129) rfl)) rfl⟩
abbrev mX5_targetOf : md_T := (yX5_targetOf, cX5_targetOf, 2, (some .int))
theorem okX5_targetOf : mk_ mX5_targetOf 1 := ⟨tb_of (tk_3 _ (List.mem_of_getElem? (i := 98) rfl)) rfl, iniX5, by decide +kernel, by decide⟩
theorem in_X5_targetOf : mi_ mX5_targetOf := ⟨tb_of (tk_3 _ (List.mem_of_getElem? (i := 96) rfl)) rfl, tb_of (tk_3 _ (List.mem_of_getElem? (i := 97) rfl)) rfl⟩
abbrev mX5_termCount : md_T := (yX5_termCount, cX5_termCount, 2, (some .int))
theorem okX5_termCount : mk_ mX5_termCount 1 := ⟨tb_of (tk_3 _ (List.mem_of_getElem? (i := 61) rfl)) rfl, iniX5, by decide +kernel, by decide⟩
theorem in_X5_termCount : mi_ mX5_termCount := ⟨tb_of (tk_3 _ (List.mem_of_getElem? (i := 59) rfl)) rfl, tb_of (tk_3 _ (List.mem_of_getElem? (i := 60) rfl)) rfl⟩
abbrev mX5_termKind : md_T := (yX5_termKind, cX5_termKind, 3, (some .int))
theorem okX5_termKind : mk_ mX5_termKind 2 := ⟨tb_of (tk_3 _ (List.mem_of_getElem? (i := 122) rfl)) rfl, iniX5, by decide +kernel, by decide⟩
theorem in_X5_termKind : mi_ mX5_termKind := ⟨tb_of (tk_3 _ (List.mem_of_getElem? (i := 120) rfl)) rfl, tb_of (tk_3 _ (List.mem_of_getElem? (i := 121) rfl)) rfl⟩
abbrev mX5_termNumber : md_T := (yX5_termNumber, cX5_termNumber, 3, (some .int))
theorem okX5_termNumber : mk_ mX5_termNumber 2 := ⟨tb_of (tk_3 _ (List.mem_of_getElem? (i := 126) rfl)) rfl, iniX5, by decide +kernel, by decide⟩
theorem in_X5_termNumber : mi_ mX5_termNumber := ⟨tb_of (tk_3 _ (List.mem_of_getElem? (i := 124) rfl)) rfl, tb_of (tk_3 _ (List.mem_of_getElem? (i := 125) rfl)) rfl⟩
abbrev mX5_addBranch : md_T := (yX5_addBranch, cX5_addBranch, 5, none)
theorem okX5_addBranch : mk_ mX5_addBranch 4 := ⟨tb_of (tk_3 _ (List.mem_of_getElem? (i := 69) rfl)) rfl, iniX5, by decide +kernel, by decide⟩
theorem in_X5_addBranch : mi_ mX5_addBranch := ⟨tb_of (tk_3 _ (List.mem_of_getElem? (i := 67) rfl)) rfl, tb_of (tk_3 _ (List.mem_of_getElem? (i := 68) rfl)) rfl⟩
abbrev mX5_addTerm : md_T := (yX5_addTerm, cX5_addTerm, 5, none)
theorem okX5_addTerm : mk_ mX5_addTerm 3 := ⟨tb_of (tk_3 _ (List.mem_of_getElem? (i := 57) rfl)) rfl, iniX5, by decide +kernel, by decide⟩
theorem in_X5_addTerm : mi_ mX5_addTerm := ⟨tb_of (tk_3 _ (List.mem_of_getElem? (i := 55) rfl)) rfl, tb_of (tk_3 _ (List.mem_of_getElem? (i := 56) rfl)) rfl⟩
abbrev mX5_leadsNowhere : md_T := (yX5_leadsNowhere, cX5_leadsNowhere, 4, (some .boolean))
theorem okX5_leadsNowhere : mk_ mX5_leadsNowhere 0 := ⟨tb_of (tk_3 _ (List.mem_of_getElem? (i := 86) rfl)) rfl, iniX5, by decide +kernel, by decide⟩
theorem in_X5_leadsNowhere : mi_ mX5_leadsNowhere := ⟨tb_of (tk_3 _ (List.mem_of_getElem? (i := 84) rfl)) rfl, tb_of (tk_3 _ (List.mem_of_getElem? (i := 85) rfl)) rfl⟩
abbrev mX5_holds : md_T := (yX5_holds, cX5_holds, 6, (some .boolean))
theorem okX5_holds : mk_ mX5_holds 4 := ⟨tb_of (tk_3 _ (List.mem_of_getElem? (i := 194) rfl)) rfl, iniX5, by decide +kernel, by decide⟩
theorem in_X5_holds : mi_ mX5_holds := ⟨tb_of (tk_3 _ (List.mem_of_getElem? (i := 192) rfl)) rfl, tb_of (tk_3 _ (List.mem_of_getElem? (i := 193) rfl)) rfl⟩
abbrev mX5_termHolds : md_T := (yX5_termHolds, cX5_termHolds, 5, (some .boolean))
theorem okX5_termHolds : mk_ mX5_termHolds 5 := ⟨tb_of (tk_3 _ (List.mem_of_getElem? (i := 199) rfl)) rfl, iniX5, by decide +kernel, by decide⟩
theorem stX5_termHolds : Cond.static yX5_termHolds ∈ tb_ := tb_of (tk_3 _ (List.mem_of_getElem? (i := 198) rfl)) rfl
abbrev mX6_init : md_T := (yX6_init, cX6_init, 1, none)
theorem okX6_init : mk_ mX6_init 0 := ⟨tb_of (tk_1 _ (List.mem_of_getElem? (i := 171) rfl)) rfl, iniX6, by decide +kernel, by decide⟩
abbrev mX6_isNothing : md_T := (yX6_isNothing, cX6_isNothing, 1, (some .boolean))
theorem okX6_isNothing : mk_ mX6_isNothing 0 := ⟨tb_of (tk_4 _ (List.mem_of_getElem? (i := 224) rfl)) rfl, iniX6, by decide +kernel, by decide⟩
theorem in_X6_isNothing : mi_ mX6_isNothing := ⟨tb_of (tk_4 _ (List.mem_of_getElem? (i := 222) rfl)) rfl, tb_of (tk_4 _ (List.mem_of_getElem? (i := 223) rfl)) rfl⟩
abbrev mX6_has : md_T := (yX6_has, cX6_has, 2, (some .boolean))
theorem okX6_has : mk_ mX6_has 1 := ⟨tb_of (tk_4 _ (List.mem_of_getElem? (i := 228) rfl)) rfl, iniX6, by decide +kernel, by decide⟩
theorem in_X6_has : mi_ mX6_has := ⟨tb_of (tk_4 _ (List.mem_of_getElem? (i := 226) rfl)) rfl, tb_of (tk_4 _ (List.mem_of_getElem? (i := 227) rfl)) rfl⟩
abbrev mX6_cell : md_T := (yX6_cell, cX6_cell, 2, (some .int))
theorem okX6_cell : mk_ mX6_cell 1 := ⟨tb_of (tk_5 _ (List.mem_of_getElem? (i := 14) rfl)) rfl, iniX6, by decide +kernel, by decide⟩
theorem in_X6_cell : mi_ mX6_cell := ⟨tb_of (tk_5 _ (List.mem_of_getElem? (i := 12) rfl)) rfl, tb_of (tk_5 _ (List.mem_of_getElem? (i := 13) rfl)) rfl⟩
abbrev mX6_renew : md_T := (yX6_renew, cX6_renew, 3, none)
theorem okX6_renew : mk_ mX6_renew 2 := ⟨tb_of (tk_4 _ (List.mem_of_getElem? (i := 213) rfl)) rfl, iniX6, by decide +kernel, by decide⟩
theorem in_X6_renew : mi_ mX6_renew := ⟨tb_of (tk_4 _ (List.mem_of_getElem? (i := 211) rfl)) rfl, tb_of (tk_4 _ (List.mem_of_getElem? (i := 212) rfl)) rfl⟩
abbrev mX6_write : md_T := (yX6_write, cX6_write, 3, none)
theorem okX6_write : mk_ mX6_write 2 := ⟨tb_of (tk_4 _ (List.mem_of_getElem? (i := 232) rfl)) rfl, iniX6, by decide +kernel, by decide⟩
theorem in_X6_write : mi_ mX6_write := ⟨tb_of (tk_4 _ (List.mem_of_getElem? (i := 230) rfl)) rfl, tb_of (tk_4 _ (List.mem_of_getElem? (i := 231) rfl)) rfl⟩
abbrev mX6_faultAs : md_T := (yX6_faultAs, cX6_faultAs, 2, (some .int))
theorem okX6_faultAs : mk_ mX6_faultAs 1 := ⟨tb_of (tk_5 _ (List.mem_of_getElem? (i := 1) rfl)) rfl, iniX6, by decide +kernel, by decide⟩
theorem in_X6_faultAs : mi_ mX6_faultAs := ⟨tb_of (tk_4 _ (List.mem_of_getElem? (i := 239) rfl)) rfl, tb_of (tk_5 _ (List.mem_of_getElem? (i := 0) rfl)) rfl⟩
abbrev mX6_wholePairs : md_T := (yX6_wholePairs, cX6_wholePairs, 3, (some .int))
theorem okX6_wholePairs : mk_ mX6_wholePairs 2 := ⟨tb_of (tk_5 _ (List.mem_of_getElem? (i := 6) rfl)) rfl, iniX6, by decide +kernel, by decide⟩
theorem in_X6_wholePairs : mi_ mX6_wholePairs := ⟨tb_of (tk_5 _ (List.mem_of_getElem? (i := 4) rfl)) rfl, tb_of (tk_5 _ (List.mem_of_getElem? (i := 5) rfl)) rfl⟩
abbrev mX7_init : md_T := (yX7_init, cX7_init, 1, none)
theorem okX7_init : mk_ mX7_init 0 := ⟨tb_of (tk_1 _ (List.mem_of_getElem? (i := 38) rfl)) rfl, iniX7, by decide +kernel, by decide⟩
abbrev mX7_append : md_T := (yX7_append, cX7_append, 4, none)
theorem okX7_append : mk_ mX7_append 1 := ⟨tb_of (tk_2 _ (List.mem_of_getElem? (i := 135) rfl)) rfl, iniX7, by decide +kernel, by decide⟩
theorem in_X7_append : mi_ mX7_append := ⟨tb_of (tk_2 _ (List.mem_of_getElem? (i := 133) rfl)) rfl, tb_of (tk_2 _ (List.mem_of_getElem? (i := 134) rfl)) rfl⟩
abbrev mX7_split : md_T := (yX7_split, cX7_split, 5, none)
theorem okX7_split : mk_ mX7_split 0 := ⟨tb_of (tk_2 _ (List.mem_of_getElem? (i := 150) rfl)) rfl, iniX7, by decide +kernel, by decide⟩
theorem in_X7_split : mi_ mX7_split := ⟨tb_of (tk_2 _ (List.mem_of_getElem? (i := 148) rfl)) rfl, tb_of (tk_2 _ (List.mem_of_getElem? (i := 149) rfl)) rfl⟩
abbrev mX7_addToken : md_T := (yX7_addToken, cX7_addToken, 4, none)
theorem okX7_addToken : mk_ mX7_addToken 3 := ⟨tb_of (tk_3 _ (List.mem_of_getElem? (i := 11) rfl)) rfl, iniX7, by decide +kernel, by decide⟩
theorem in_X7_addToken : mi_ mX7_addToken := ⟨tb_of (tk_3 _ (List.mem_of_getElem? (i := 10) rfl)) rfl, tb_of (tp_1 (yX7_addToken, _) (List.mem_of_getElem? (i := 8) rfl)) rfl⟩
abbrev mX7_byteAt : md_T := (yX7_byteAt, cX7_byteAt, 2, (some .int))
theorem okX7_byteAt : mk_ mX7_byteAt 1 := ⟨tb_of (tk_2 _ (List.mem_of_getElem? (i := 158) rfl)) rfl, iniX7, by decide +kernel, by decide⟩
theorem in_X7_byteAt : mi_ mX7_byteAt := ⟨tb_of (tk_2 _ (List.mem_of_getElem? (i := 157) rfl)) rfl, tb_of (tp_1 (yX7_byteAt, _) (List.mem_of_getElem? (i := 1) rfl)) rfl⟩
abbrev mX7_behindAll : md_T := (yX7_behindAll, cX7_behindAll, 5, (some .int))
theorem okX7_behindAll : mk_ mX7_behindAll 3 := ⟨tb_of (tk_2 _ (List.mem_of_getElem? (i := 154) rfl)) rfl, iniX7, by decide +kernel, by decide⟩
theorem in_X7_behindAll : mi_ mX7_behindAll := ⟨tb_of (tk_2 _ (List.mem_of_getElem? (i := 153) rfl)) rfl, tb_of (tp_1 (yX7_behindAll, _) (List.mem_of_getElem? (i := 0) rfl)) rfl⟩
abbrev mX7_behindToken : md_T := (yX7_behindToken, cX7_behindToken, 2, (some .int))
theorem okX7_behindToken : mk_ mX7_behindToken 1 := ⟨tb_of (tk_2 _ (List.mem_of_getElem? (i := 162) rfl)) rfl, iniX7, by decide +kernel, by decide⟩
theorem in_X7_behindToken : mi_ mX7_behindToken := ⟨tb_of (tk_2 _ (List.mem_of_getElem? (i := 161) rfl)) rfl, tb_of (tp_1 (yX7_behindToken, _) (List.mem_of_getElem? (i := 2) rfl)) rfl⟩
abbrev mX7_tokenBetween : md_T := (yX7_tokenBetween, cX7_tokenBetween, 4, (some .int))
theorem okX7_tokenBetween : mk_ mX7_tokenBetween 2 := ⟨tb_of (tk_2 _ (List.mem_of_getElem? (i := 169) rfl)) rfl, iniX7, by decide +kernel, by decide⟩
theorem in_X7_tokenBetween : mi_ mX7_tokenBetween := ⟨tb_of (tk_2 _ (List.mem_of_getElem? (i := 168) rfl)) rfl, tb_of (tp_1 (yX7_tokenBetween, _) (List.mem_of_getElem? (i := 3) rfl)) rfl⟩
abbrev mX7_nameBetween : md_T := (yX7_nameBetween, cX7_nameBetween, 4, (some .int))
theorem okX7_nameBetween : mk_ mX7_nameBetween 2 := ⟨tb_of (tk_2 _ (List.mem_of_getElem? (i := 173) rfl)) rfl, iniX7, by decide +kernel, by decide⟩
theorem in_X7_nameBetween : mi_ mX7_nameBetween := ⟨tb_of (tk_2 _ (List.mem_of_getElem? (i := 172) rfl)) rfl, tb_of (tp_1 (yX7_nameBetween, _) (List.mem_of_getElem? (i := 4) rfl)) rfl⟩
abbrev mX7_termBetween : md_T := (yX7_termBetween, cX7_termBetween, 3, (some .int))
theorem okX7_termBetween : mk_ mX7_termBetween 2 := ⟨tb_of (tk_2 _ (List.mem_of_getElem? (i := 236) rfl)) rfl, iniX7, by decide +kernel, by decide⟩
theorem in_X7_termBetween : mi_ mX7_termBetween := ⟨tb_of (tk_2 _ (List.mem_of_getElem? (i := 235) rfl)) rfl, tb_of (tp_1 (yX7_termBetween, _) (List.mem_of_getElem? (i := 6) rfl)) rfl⟩
abbrev mX7_spells : md_T := (yX7_spells, cX7_spells, 5, (some .boolean))
theorem okX7_spells : mk_ mX7_spells 3 := ⟨tb_of (tk_2 _ (List.mem_of_getElem? (i := 178) rfl)) rfl, iniX7, by decide +kernel, by decide⟩
theorem in_X7_spells : mi_ mX7_spells := ⟨tb_of (tk_2 _ (List.mem_of_getElem? (i := 177) rfl)) rfl, tb_of (tp_1 (yX7_spells, _) (List.mem_of_getElem? (i := 5) rfl)) rfl⟩
abbrev mX7_valueBetween : md_T := (yX7_valueBetween, cX7_valueBetween, 5, (some .int))
theorem okX7_valueBetween : mk_ mX7_valueBetween 2 := ⟨tb_of (tk_3 _ (List.mem_of_getElem? (i := 7) rfl)) rfl, iniX7, by decide +kernel, by decide⟩
theorem in_X7_valueBetween : mi_ mX7_valueBetween := ⟨tb_of (tk_3 _ (List.mem_of_getElem? (i := 6) rfl)) rfl, tb_of (tp_1 (yX7_valueBetween, _) (List.mem_of_getElem? (i := 7) rfl)) rfl⟩
abbrev mX8_init : md_T := (yX8_init, cX8_init, 1, none)
theorem okX8_init : mk_ mX8_init 0 := ⟨tb_of (tk_1 _ (List.mem_of_getElem? (i := 148) rfl)) rfl, iniX8, by decide +kernel, by decide⟩
abbrev mX8_has : md_T := (yX8_has, cX8_has, 2, (some .boolean))
theorem okX8_has : mk_ mX8_has 1 := ⟨tb_of (tk_3 _ (List.mem_of_getElem? (i := 157) rfl)) rfl, iniX8, by decide +kernel, by decide⟩
theorem in_X8_has : mi_ mX8_has := ⟨tb_of (tk_3 _ (List.mem_of_getElem? (i := 155) rfl)) rfl, tb_of (tk_3 _ (List.mem_of_getElem? (i := 156) rfl)) rfl⟩
abbrev mX8_sample : md_T := (yX8_sample, cX8_sample, 2, (some .int))
theorem okX8_sample : mk_ mX8_sample 1 := ⟨tb_of (tk_3 _ (List.mem_of_getElem? (i := 161) rfl)) rfl, iniX8, by decide +kernel, by decide⟩
theorem in_X8_sample : mi_ mX8_sample := ⟨tb_of (tk_3 _ (List.mem_of_getElem? (i := 159) rfl)) rfl, tb_of (tk_3 _ (List.mem_of_getElem? (i := 160) rfl)) rfl⟩
abbrev mX8_replace : md_T := (yX8_replace, cX8_replace, 3, none)
theorem okX8_replace : mk_ mX8_replace 2 := ⟨tb_of (tk_3 _ (List.mem_of_getElem? (i := 170) rfl)) rfl, iniX8, by decide +kernel, by decide⟩
theorem in_X8_replace : mi_ mX8_replace := ⟨tb_of (tk_3 _ (List.mem_of_getElem? (i := 168) rfl)) rfl, tb_of (tk_3 _ (List.mem_of_getElem? (i := 169) rfl)) rfl⟩
abbrev mX8_append : md_T := (yX8_append, cX8_append, 5, none)
theorem okX8_append : mk_ mX8_append 2 := ⟨tb_of (tk_3 _ (List.mem_of_getElem? (i := 142) rfl)) rfl, iniX8, by decide +kernel, by decide⟩
theorem in_X8_append : mi_ mX8_append := ⟨tb_of (tk_3 _ (List.mem_of_getElem? (i := 140) rfl)) rfl, tb_of (tk_3 _ (List.mem_of_getElem? (i := 141) rfl)) rfl⟩
abbrev mX8_copy : md_T := (yX8_copy, cX8_copy, 3, none)
theorem okX8_copy : mk_ mX8_copy 1 := ⟨tb_of (tk_4 _ (List.mem_of_getElem? (i := 55) rfl)) rfl, iniX8, by decide +kernel, by decide⟩
theorem in_X8_copy : mi_ mX8_copy := ⟨tb_of (tk_4 _ (List.mem_of_getElem? (i := 53) rfl)) rfl, tb_of (tk_4 _ (List.mem_of_getElem? (i := 54) rfl)) rfl⟩
abbrev mX8_high : md_T := (yX8_high, cX8_high, 3, (some .boolean))
theorem okX8_high : mk_ mX8_high 2 := ⟨tb_of (tk_3 _ (List.mem_of_getElem? (i := 203) rfl)) rfl, iniX8, by decide +kernel, by decide⟩
theorem in_X8_high : mi_ mX8_high := ⟨tb_of (tk_3 _ (List.mem_of_getElem? (i := 201) rfl)) rfl, tb_of (tk_3 _ (List.mem_of_getElem? (i := 202) rfl)) rfl⟩
abbrev mX8_changes : md_T := (yX8_changes, cX8_changes, 3, (some .boolean))
theorem okX8_changes : mk_ mX8_changes 2 := ⟨tb_of (tk_4 _ (List.mem_of_getElem? (i := 22) rfl)) rfl, iniX8, by decide +kernel, by decide⟩
theorem in_X8_changes : mi_ mX8_changes := ⟨tb_of (tk_4 _ (List.mem_of_getElem? (i := 20) rfl)) rfl, tb_of (tk_4 _ (List.mem_of_getElem? (i := 21) rfl)) rfl⟩
abbrev mX8_rises : md_T := (yX8_rises, cX8_rises, 3, (some .boolean))
theorem okX8_rises : mk_ mX8_rises 2 := ⟨tb_of (tk_3 _ (List.mem_of_getElem? (i := 207) rfl)) rfl, iniX8, by decide +kernel, by decide⟩
theorem in_X8_rises : mi_ mX8_rises := ⟨tb_of (tk_3 _ (List.mem_of_getElem? (i := 205) rfl)) rfl, tb_of (tk_3 _ (List.mem_of_getElem? (i := 206) rfl)) rfl⟩
abbrev mX8_falls : md_T := (yX8_falls, cX8_falls, 3, (some .boolean))
theorem okX8_falls : mk_ mX8_falls 2 := ⟨tb_of (tk_3 _ (List.mem_of_getElem? (i := 211) rfl)) rfl, iniX8, by decide +kernel, by decide⟩
theorem in_X8_falls : mi_ mX8_falls := ⟨tb_of (tk_3 _ (List.mem_of_getElem? (i := 209) rfl)) rfl, tb_of (tk_3 _ (List.mem_of_getElem? (i := 210) rfl)) rfl⟩
abbrev mX8_beginsRun : md_T := (yX8_beginsRun, cX8_beginsRun, 2, (some .boolean))
theorem okX8_beginsRun : mk_ mX8_beginsRun 1 := ⟨tb_of (tk_4 _ (List.mem_of_getElem? (i := 152) rfl)) rfl, iniX8, by decide +kernel, by decide⟩
theorem in_X8_beginsRun : mi_ mX8_beginsRun := ⟨tb_of (tk_4 _ (List.mem_of_getElem? (i := 150) rfl)) rfl, tb_of (tk_4 _ (List.mem_of_getElem? (i := 151) rfl)) rfl⟩
abbrev mX8_edgesSeen : md_T := (yX8_edgesSeen, cX8_edgesSeen, 5, (some .int))
theorem okX8_edgesSeen : mk_ mX8_edgesSeen 2 := ⟨tb_of (tk_4 _ (List.mem_of_getElem? (i := 134) rfl)) rfl, iniX8, by decide +kernel, by decide⟩
theorem in_X8_edgesSeen : mi_ mX8_edgesSeen := ⟨tb_of (tk_4 _ (List.mem_of_getElem? (i := 132) rfl)) rfl, tb_of (tk_4 _ (List.mem_of_getElem? (i := 133) rfl)) rfl⟩
abbrev mX8_unlikeLaid : md_T := (yX8_unlikeLaid, cX8_unlikeLaid, 6, (some .int))
theorem okX8_unlikeLaid : mk_ mX8_unlikeLaid 2 := ⟨tb_of (tk_4 _ (List.mem_of_getElem? (i := 194) rfl)) rfl, iniX8, by decide +kernel, by decide⟩
theorem in_X8_unlikeLaid : mi_ mX8_unlikeLaid := ⟨tb_of (tk_4 _ (List.mem_of_getElem? (i := 192) rfl)) rfl, tb_of (tk_4 _ (List.mem_of_getElem? (i := 193) rfl)) rfl⟩
abbrev mX8_smoothWire : md_T := (yX8_smoothWire, cX8_smoothWire, 5, none)
theorem okX8_smoothWire : mk_ mX8_smoothWire 2 := ⟨tb_of (tk_4 _ (List.mem_of_getElem? (i := 59) rfl)) rfl, iniX8, by decide +kernel, by decide⟩
theorem in_X8_smoothWire : mi_ mX8_smoothWire := ⟨tb_of (tk_4 _ (List.mem_of_getElem? (i := 57) rfl)) rfl, tb_of (tk_4 _ (List.mem_of_getElem? (i := 58) rfl)) rfl⟩
abbrev mX8_flip : md_T := (yX8_flip, cX8_flip, 5, none)
theorem okX8_flip : mk_ mX8_flip 3 := ⟨tb_of (tk_4 _ (List.mem_of_getElem? (i := 64) rfl)) rfl, iniX8, by decide +kernel, by decide⟩
theorem in_X8_flip : mi_ mX8_flip := ⟨tb_of (tk_4 _ (List.mem_of_getElem? (i := 63) rfl)) rfl, tb_of (tp_2 (yX8_flip, _) (List.mem_of_getElem? (i := 11) rfl)) rfl⟩
abbrev mX9_init : md_T := (yX9_init, cX9_init, 1, none)
theorem okX9_init : mk_ mX9_init 0 := ⟨tb_of (tk_1 _ (List.mem_of_getElem? (i := 188) rfl)) rfl, iniX9, by decide +kernel, by decide⟩
abbrev mX9_follow : md_T := (yX9_follow, cX9_follow, 5, none)
theorem okX9_follow : mk_ mX9_follow 3 := ⟨tb_of (tk_3 _ (List.mem_of_getElem? (i := 178) rfl)) rfl, iniX9, by decide +kernel, by decide⟩
theorem in_X9_follow : mi_ mX9_follow := ⟨tb_of (tk_3 _ (List.mem_of_getElem? (i := 176) rfl)) rfl, tb_of (tk_3 _ (List.mem_of_getElem? (i := 177) rfl)) rfl⟩
abbrev mX9_enter : md_T := (yX9_enter, cX9_enter, 2, none)
theorem okX9_enter : mk_ mX9_enter 1 := ⟨tb_of (tk_3 _ (List.mem_of_getElem? (i := 182) rfl)) rfl, iniX9, by decide +kernel, by decide⟩
theorem in_X9_enter : mi_ mX9_enter := ⟨tb_of (tk_3 _ (List.mem_of_getElem? (i := 181) rfl)) rfl, tb_of (tp_2 (yX9_enter, _) (List.mem_of_getElem? (i := 4) rfl)) rfl⟩
abbrev mX9_look : md_T := (yX9_look, cX9_look, 7, none)
theorem okX9_look : mk_ mX9_look 3 := ⟨tb_of (tk_3 _ (List.mem_of_getElem? (i := 187) rfl)) rfl, iniX9, by decide +kernel, by decide⟩
theorem in_X9_look : mi_ mX9_look := ⟨tb_of (tk_3 _ (List.mem_of_getElem? (i := 186) rfl)) rfl, tb_of (tp_2 (yX9_look, _) (List.mem_of_getElem? (i := 5) rfl)) rfl⟩
abbrev mX9_leave : md_T := (yX9_leave, cX9_leave, 3, none)
theorem okX9_leave : mk_ mX9_leave 2 := ⟨tb_of (tk_3 _ (List.mem_of_getElem? (i := 218) rfl)) rfl, iniX9, by decide +kernel, by decide⟩
theorem in_X9_leave : mi_ mX9_leave := ⟨tb_of (tk_3 _ (List.mem_of_getElem? (i := 217) rfl)) rfl, tb_of (tp_2 (yX9_leave, _) (List.mem_of_getElem? (i := 6) rfl)) rfl⟩
abbrev mX10_init : md_T := (yX10_init, cX10_init, 1, none)
theorem okX10_init : mk_ mX10_init 0 := ⟨tb_of (tk_1 _ (List.mem_of_getElem? (i := 24) rfl)) rfl, iniX10, by decide +kernel, by decide⟩
abbrev mX10_feed : md_T := (yX10_feed, cX10_feed, 4, (some .int))
theorem okX10_feed : mk_ mX10_feed 1 := ⟨tb_of (tk_2 _ (List.mem_of_getElem? (i := 131) rfl)) rfl, iniX10, by decide +kernel, by decide⟩
theorem in_X10_feed : mi_ mX10_feed := ⟨tb_of (tk_2 _ (List.mem_of_getElem? (i := 129) rfl)) rfl, tb_of (tk_2 _ (List.mem_of_getElem? (i := 130) rfl)) rfl⟩
abbrev mX10_end : md_T := (yX10_end, cX10_end, 4, (some .int))
theorem okX10_end : mk_ mX10_end 1 := ⟨tb_of (tk_2 _ (List.mem_of_getElem? (i := 139) rfl)) rfl, iniX10, by decide +kernel, by decide⟩
theorem in_X10_end : mi_ mX10_end := ⟨tb_of (tk_2 _ (List.mem_of_getElem? (i := 137) rfl)) rfl, tb_of (tk_2 _ (List.mem_of_getElem? (i := 138) rfl)) rfl⟩
abbrev mX10_text : md_T := (yX10_text, cX10_text, 2, (some .int))
theorem okX10_text : mk_ mX10_text 0 := ⟨tb_of (tk_2 _ (List.mem_of_getElem? (i := 146) rfl)) rfl, iniX10, by decide +kernel, by decide⟩
theorem in_X10_text : mi_ mX10_text := ⟨tb_of (tk_2 _ (List.mem_of_getElem? (i := 144) rfl)) rfl, tb_of (tk_2 _ (List.mem_of_getElem? (i := 145) rfl)) rfl⟩
abbrev mX10_fault : md_T := (yX10_fault, cX10_fault, 1, (some .int))
theorem okX10_fault : mk_ mX10_fault 0 := ⟨tb_of (tk_3 _ (List.mem_of_getElem? (i := 107) rfl)) rfl, iniX10, by decide +kernel, by decide⟩
theorem in_X10_fault : mi_ mX10_fault := ⟨tb_of (tk_3 _ (List.mem_of_getElem? (i := 105) rfl)) rfl, tb_of (tk_3 _ (List.mem_of_getElem? (i := 106) rfl)) rfl⟩
abbrev mX10_rule : md_T := (yX10_rule, cX10_rule, 2, (some .int))
theorem okX10_rule : mk_ mX10_rule 1 := ⟨tb_of (tk_3 _ (List.mem_of_getElem? (i := 111) rfl)) rfl, iniX10, by decide +kernel, by decide⟩
theorem in_X10_rule : mi_ mX10_rule := ⟨tb_of (tk_3 _ (List.mem_of_getElem? (i := 109) rfl)) rfl, tb_of (tk_3 _ (List.mem_of_getElem? (i := 110) rfl)) rfl⟩
abbrev mX10_branch : md_T := (yX10_branch, cX10_branch, 6, (some .int))
theorem okX10_branch : mk_ mX10_branch 3 := ⟨tb_of (tk_3 _ (List.mem_of_getElem? (i := 117) rfl)) rfl, iniX10, by decide +kernel, by decide⟩
theorem in_X10_branch : mi_ mX10_branch := ⟨tb_of (tk_3 _ (List.mem_of_getElem? (i := 115) rfl)) rfl, tb_of (tk_3 _ (List.mem_of_getElem? (i := 116) rfl)) rfl⟩
abbrev mX10_see : md_T := (yX10_see, cX10_see, 4, (some .int))
theorem okX10_see : mk_ mX10_see 2 := ⟨tb_of (tk_3 _ (List.mem_of_getElem? (i := 135) rfl)) rfl, iniX10, by decide +kernel, by decide⟩
theorem in_X10_see : mi_ mX10_see := ⟨tb_of (tk_3 _ (List.mem_of_getElem? (i := 133) rfl)) rfl, tb_of (tk_3 _ (List.mem_of_getElem? (i := 134) rfl)) rfl⟩
abbrev mX10_cut : md_T := (yX10_cut, cX10_cut, 3, (some .int))
theorem okX10_cut : mk_ mX10_cut 1 := ⟨tb_of (tk_3 _ (List.mem_of_getElem? (i := 149) rfl)) rfl, iniX10, by decide +kernel, by decide⟩
theorem in_X10_cut : mi_ mX10_cut := ⟨tb_of (tk_3 _ (List.mem_of_getElem? (i := 147) rfl)) rfl, tb_of (tk_3 _ (List.mem_of_getElem? (i := 148) rfl)) rfl⟩
abbrev mX10_at : md_T := (yX10_at, cX10_at, 2, (some .int))
theorem okX10_at : mk_ mX10_at 1 := ⟨tb_of (tk_3 _ (List.mem_of_getElem? (i := 153) rfl)) rfl, iniX10, by decide +kernel, by decide⟩
theorem in_X10_at : mi_ mX10_at := ⟨tb_of (tk_3 _ (List.mem_of_getElem? (i := 151) rfl)) rfl, tb_of (tk_3 _ (List.mem_of_getElem? (i := 152) rfl)) rfl⟩
abbrev mX10_put : md_T := (yX10_put, cX10_put, 4, (some .int))
theorem okX10_put : mk_ mX10_put 2 := ⟨tb_of (tk_3 _ (List.mem_of_getElem? (i := 166) rfl)) rfl, iniX10, by decide +kernel, by decide⟩
theorem in_X10_put : mi_ mX10_put := ⟨tb_of (tk_3 _ (List.mem_of_getElem? (i := 164) rfl)) rfl, tb_of (tk_3 _ (List.mem_of_getElem? (i := 165) rfl)) rfl⟩
abbrev mX10_run : md_T := (yX10_run, cX10_run, 2, (some .int))
theorem okX10_run : mk_ mX10_run 1 := ⟨tb_of (tk_3 _ (List.mem_of_getElem? (i := 174) rfl)) rfl, iniX10, by decide +kernel, by decide⟩
theorem in_X10_run : mi_ mX10_run := ⟨tb_of (tk_3 _ (List.mem_of_getElem? (i := 172) rfl)) rfl, tb_of (tk_3 _ (List.mem_of_getElem? (i := 173) rfl)) rfl⟩
abbrev mX10_state : md_T := (yX10_state, cX10_state, 2, (some .int))
theorem okX10_state : mk_ mX10_state 1 := ⟨tb_of (tk_3 _ (List.mem_of_getElem? (i := 222) rfl)) rfl, iniX10, by decide +kernel, by decide⟩
theorem in_X10_state : mi_ mX10_state := ⟨tb_of (tk_3 _ (List.mem_of_getElem? (i := 220) rfl)) rfl, tb_of (tk_3 _ (List.mem_of_getElem? (i := 221) rfl)) rfl⟩
abbrev mX10_stored : md_T := (yX10_stored, cX10_stored, 8, (some .int))
theorem okX10_stored : mk_ mX10_stored 1 := ⟨tb_of (tk_3 _ (List.mem_of_getElem? (i := 226) rfl)) rfl, iniX10, by decide +kernel, by decide⟩
theorem in_X10_stored : mi_ mX10_stored := ⟨tb_of (tk_3 _ (List.mem_of_getElem? (i := 224) rfl)) rfl, tb_of (tk_3 _ (List.mem_of_getElem? (i := 225) rfl)) rfl⟩
abbrev mX10_next : md_T := (yX10_next, cX10_next, 3, (some .int))
theorem okX10_next : mk_ mX10_next 1 := ⟨tb_of (tk_3 _ (List.mem_of_getElem? (i := 233) rfl)) rfl, iniX10, by decide +kernel, by decide⟩
theorem in_X10_next : mi_ mX10_next := ⟨tb_of (tk_3 _ (List.mem_of_getElem? (i := 231) rfl)) rfl, tb_of (tk_3 _ (List.mem_of_getElem? (i := 232) rfl)) rfl⟩
abbrev mX10_edges : md_T := (yX10_edges, cX10_edges, 5, (some .int))
theorem okX10_edges : mk_ mX10_edges 2 := ⟨tb_of (tk_3 _ (List.mem_of_getElem? (i := 237) rfl)) rfl, iniX10, by decide +kernel, by decide⟩
theorem in_X10_edges : mi_ mX10_edges := ⟨tb_of (tk_3 _ (List.mem_of_getElem? (i := 235) rfl)) rfl, tb_of (tk_3 _ (List.mem_of_getElem? (i := 236) rfl)) rfl⟩
abbrev mX10_edge : md_T := (yX10_edge, cX10_edge, 6, (some .int))
theorem okX10_edge : mk_ mX10_edge 3 := ⟨tb_of (tk_4 _ (List.mem_of_getElem? (i := 10) rfl)) rfl, iniX10, by decide +kernel, by decide⟩
theorem in_X10_edge : mi_ mX10_edge := ⟨tb_of (tk_4 _ (List.mem_of_getElem? (i := 8) rfl)) rfl, tb_of (tk_4 _ (List.mem_of_getElem? (i := 9) rfl)) rfl⟩
abbrev mX10_pulse : md_T := (yX10_pulse, cX10_pulse, 4, (some .int))
theorem okX10_pulse : mk_ mX10_pulse 3 := ⟨tb_of (tk_4 _ (List.mem_of_getElem? (i := 14) rfl)) rfl, iniX10, by decide +kernel, by decide⟩
theorem in_X10_pulse : mi_ mX10_pulse := ⟨tb_of (tk_4 _ (List.mem_of_getElem? (i := 12) rfl)) rfl, tb_of (tk_4 _ (List.mem_of_getElem? (i := 13) rfl)) rfl⟩
abbrev mX10_duty : md_T := (yX10_duty, cX10_duty, 7, (some .int))
theorem okX10_duty : mk_ mX10_duty 2 := ⟨tb_of (tk_4 _ (List.mem_of_getElem? (i := 31) rfl)) rfl, iniX10, by decide +kernel, by decide⟩
theorem in_X10_duty : mi_ mX10_duty := ⟨tb_of (tk_4 _ (List.mem_of_getElem? (i := 29) rfl)) rfl, tb_of (tk_4 _ (List.mem_of_getElem? (i := 30) rfl)) rfl⟩
abbrev mX10_shorter : md_T := (yX10_shorter, cX10_shorter, 3, (some .int))
theorem okX10_shorter : mk_ mX10_shorter 2 := ⟨tb_of (tk_4 _ (List.mem_of_getElem? (i := 47) rfl)) rfl, iniX10, by decide +kernel, by decide⟩
theorem in_X10_shorter : mi_ mX10_shorter := ⟨tb_of (tk_4 _ (List.mem_of_getElem? (i := 45) rfl)) rfl, tb_of (tk_4 _ (List.mem_of_getElem? (i := 46) rfl)) rfl⟩
abbrev mX10_smooth : md_T := (yX10_smooth, cX10_smooth, 4, (some .int))
theorem okX10_smooth : mk_ mX10_smooth 1 := ⟨tb_of (tk_4 _ (List.mem_of_getElem? (i := 51) rfl)) rfl, iniX10, by decide +kernel, by decide⟩
theorem in_X10_smooth : mi_ mX10_smooth := ⟨tb_of (tk_4 _ (List.mem_of_getElem? (i := 49) rfl)) rfl, tb_of (tk_4 _ (List.mem_of_getElem? (i := 50) rfl)) rfl⟩
abbrev mX10_setup : md_T := (yX10_setup, cX10_setup, 4, (some .int))
theorem okX10_setup : mk_ mX10_setup 3 := ⟨tb_of (tk_4 _ (List.mem_of_getElem? (i := 70) rfl)) rfl, iniX10, by decide +kernel, by decide⟩
theorem in_X10_setup : mi_ mX10_setup := ⟨tb_of (tk_4 _ (List.mem_of_getElem? (i := 68) rfl)) rfl, tb_of (tk_4 _ (List.mem_of_getElem? (i := 69) rfl)) rfl⟩
abbrev mX10_tight : md_T := (yX10_tight, cX10_tight, 5, (some .int))
theorem okX10_tight : mk_ mX10_tight 4 := ⟨tb_of (tk_4 _ (List.mem_of_getElem? (i := 87) rfl)) rfl, iniX10, by decide +kernel, by decide⟩
theorem in_X10_tight : mi_ mX10_tight := ⟨tb_of (tk_4 _ (List.mem_of_getElem? (i := 85) rfl)) rfl, tb_of (tk_4 _ (List.mem_of_getElem? (i := 86) rfl)) rfl⟩
abbrev mX10_bits : md_T := (yX10_bits, cX10_bits, 5, (some .int))
theorem okX10_bits : mk_ mX10_bits 4 := ⟨tb_of (tk_4 _ (List.mem_of_getElem? (i := 91) rfl)) rfl, iniX10, by decide +kernel, by decide⟩
theorem in_X10_bits : mi_ mX10_bits := ⟨tb_of (tk_4 _ (List.mem_of_getElem? (i := 89) rfl)) rfl, tb_of (tk_4 _ (List.mem_of_getElem? (i := 90) rfl)) rfl⟩
abbrev mX10_serial : md_T := (yX10_serial, cX10_serial, 4, (some .int))
theorem okX10_serial : mk_ mX10_serial 3 := ⟨tb_of (tk_4 _ (List.mem_of_getElem? (i := 113) rfl)) rfl, iniX10, by decide +kernel, by decide⟩
theorem in_X10_serial : mi_ mX10_serial := ⟨tb_of (tk_4 _ (List.mem_of_getElem? (i := 111) rfl)) rfl, tb_of (tk_4 _ (List.mem_of_getElem? (i := 112) rfl)) rfl⟩
abbrev mX10_rate : md_T := (yX10_rate, cX10_rate, 7, (some .int))
theorem okX10_rate : mk_ mX10_rate 2 := ⟨tb_of (tk_4 _ (List.mem_of_getElem? (i := 126) rfl)) rfl, iniX10, by decide +kernel, by decide⟩
theorem in_X10_rate : mi_ mX10_rate := ⟨tb_of (tk_4 _ (List.mem_of_getElem? (i := 124) rfl)) rfl, tb_of (tk_4 _ (List.mem_of_getElem? (i := 125) rfl)) rfl⟩
abbrev mX10_seen : md_T := (yX10_seen, cX10_seen, 4, (some .int))
theorem okX10_seen : mk_ mX10_seen 3 := ⟨tb_of (tk_4 _ (List.mem_of_getElem? (i := 130) rfl)) rfl, iniX10, by decide +kernel, by decide⟩
theorem in_X10_seen : mi_ mX10_seen := ⟨tb_of (tk_4 _ (List.mem_of_getElem? (i := 128) rfl)) rfl, tb_of (tk_4 _ (List.mem_of_getElem? (i := 129) rfl)) rfl⟩
abbrev mX10_widest : md_T := (yX10_widest, cX10_widest, 3, (some .int))
theorem okX10_widest : mk_ mX10_widest 0 := ⟨tb_of (tk_4 _ (List.mem_of_getElem? (i := 144) rfl)) rfl, iniX10, by decide +kernel, by decide⟩
theorem in_X10_widest : mi_ mX10_widest := ⟨tb_of (tk_4 _ (List.mem_of_getElem? (i := 142) rfl)) rfl, tb_of (tk_4 _ (List.mem_of_getElem? (i := 143) rfl)) rfl⟩
abbrev mX10_runs : md_T := (yX10_runs, cX10_runs, 3, (some .int))
theorem okX10_runs : mk_ mX10_runs 0 := ⟨tb_of (tk_4 _ (List.mem_of_getElem? (i := 148) rfl)) rfl, iniX10, by decide +kernel, by decide⟩
theorem in_X10_runs : mi_ mX10_runs := ⟨tb_of (tk_4 _ (List.mem_of_getElem? (i := 146) rfl)) rfl, tb_of (tk_4 _ (List.mem_of_getElem? (i := 147) rfl)) rfl⟩
abbrev mX10_fills : md_T := (yX10_fills, cX10_fills, 5, (some .int))
theorem okX10_fills : mk_ mX10_fills 2 := ⟨tb_of (tk_4 _ (List.mem_of_getElem? (i := 156) rfl)) rfl, iniX10, by decide +kernel, by decide⟩
theorem in_X10_fills : mi_ mX10_fills := ⟨tb_of (tk_4 _ (List.mem_of_getElem? (i := 154) rfl)) rfl, tb_of (tk_4 _ (List.mem_of_getElem? (i := 155) rfl)) rfl⟩
abbrev mX10_values : md_T := (yX10_values, cX10_values, 2, (some .int))
theorem okX10_values : mk_ mX10_values 1 := ⟨tb_of (tk_4 _ (List.mem_of_getElem? (i := 160) rfl)) rfl, iniX10, by decide +kernel, by decide⟩
theorem in_X10_values : mi_ mX10_values := ⟨tb_of (tk_4 _ (List.mem_of_getElem? (i := 158) rfl)) rfl, tb_of (tk_4 _ (List.mem_of_getElem? (i := 159) rfl)) rfl⟩
abbrev mX10_keep : md_T := (yX10_keep, cX10_keep, 4, (some .int))
theorem okX10_keep : mk_ mX10_keep 1 := ⟨tb_of (tk_4 _ (List.mem_of_getElem? (i := 178) rfl)) rfl, iniX10, by decide +kernel, by decide⟩
theorem in_X10_keep : mi_ mX10_keep := ⟨tb_of (tk_4 _ (List.mem_of_getElem? (i := 176) rfl)) rfl, tb_of (tk_4 _ (List.mem_of_getElem? (i := 177) rfl)) rfl⟩
abbrev mX10_back : md_T := (yX10_back, cX10_back, 3, (some .int))
theorem okX10_back : mk_ mX10_back 1 := ⟨tb_of (tk_4 _ (List.mem_of_getElem? (i := 186) rfl)) rfl, iniX10, by decide +kernel, by decide⟩
theorem in_X10_back : mi_ mX10_back := ⟨tb_of (tk_4 _ (List.mem_of_getElem? (i := 184) rfl)) rfl, tb_of (tk_4 _ (List.mem_of_getElem? (i := 185) rfl)) rfl⟩
abbrev mX10_unlike : md_T := (yX10_unlike, cX10_unlike, 4, (some .int))
theorem okX10_unlike : mk_ mX10_unlike 2 := ⟨tb_of (tk_4 _ (List.mem_of_getElem? (i := 190) rfl)) rfl, iniX10, by decide +kernel, by decide⟩
theorem in_X10_unlike : mi_ mX10_unlike := ⟨tb_of (tk_4 _ (List.mem_of_getElem? (i := 188) rfl)) rfl, tb_of (tk_4 _ (List.mem_of_getElem? (i := 189) rfl)) rfl⟩
abbrev mX10_shift : md_T := (yX10_shift, cX10_shift, 9, (some .int))
theorem okX10_shift : mk_ mX10_shift 2 := ⟨tb_of (tk_4 _ (List.mem_of_getElem? (i := 198) rfl)) rfl, iniX10, by decide +kernel, by decide⟩
theorem in_X10_shift : mi_ mX10_shift := ⟨tb_of (tk_4 _ (List.mem_of_getElem? (i := 196) rfl)) rfl, tb_of (tk_4 _ (List.mem_of_getElem? (i := 197) rfl)) rfl⟩
abbrev mX10_sheet : md_T := (yX10_sheet, cX10_sheet, 5, (some .int))
theorem okX10_sheet : mk_ mX10_sheet 3 := ⟨tb_of (tk_4 _ (List.mem_of_getElem? (i := 202) rfl)) rfl, iniX10, by decide +kernel, by decide⟩
theorem in_X10_sheet : mi_ mX10_sheet := ⟨tb_of (tk_4 _ (List.mem_of_getElem? (i := 200) rfl)) rfl, tb_of (tk_4 _ (List.mem_of_getElem? (i := 201) rfl)) rfl⟩
abbrev mX10_lay : md_T := (yX10_lay, cX10_lay, 5, (some .int))
theorem okX10_lay : mk_ mX10_lay 3 := ⟨tb_of (tk_4 _ (List.mem_of_getElem? (i := 220) rfl)) rfl, iniX10, by decide +kernel, by decide⟩
theorem in_X10_lay : mi_ mX10_lay := ⟨tb_of (tk_4 _ (List.mem_of_getElem? (i := 218) rfl)) rfl, tb_of (tk_4 _ (List.mem_of_getElem? (i := 219) rfl)) rfl⟩
abbrev mX10_read : md_T := (yX10_read, cX10_read, 10, (some .int))
theorem okX10_read : mk_ mX10_read 4 := ⟨tb_of (tk_4 _ (List.mem_of_getElem? (i := 237) rfl)) rfl, iniX10, by decide +kernel, by decide⟩
theorem in_X10_read : mi_ mX10_read := ⟨tb_of (tk_4 _ (List.mem_of_getElem? (i := 235) rfl)) rfl, tb_of (tk_4 _ (List.mem_of_getElem? (i := 236) rfl)) rfl⟩
abbrev mX10_torn : md_T := (yX10_torn, cX10_torn, 1, (some .int))
theorem okX10_torn : mk_ mX10_torn 0 := ⟨tb_of (tk_5 _ (List.mem_of_getElem? (i := 18) rfl)) rfl, iniX10, by decide +kernel, by decide⟩
theorem in_X10_torn : mi_ mX10_torn := ⟨tb_of (tk_5 _ (List.mem_of_getElem? (i := 16) rfl)) rfl, tb_of (tk_5 _ (List.mem_of_getElem? (i := 17) rfl)) rfl⟩
abbrev mX10_count : md_T := (yX10_count, cX10_count, 2, (some .int))
theorem okX10_count : mk_ mX10_count 1 := ⟨tb_of (tk_5 _ (List.mem_of_getElem? (i := 22) rfl)) rfl, iniX10, by decide +kernel, by decide⟩
theorem in_X10_count : mi_ mX10_count := ⟨tb_of (tk_5 _ (List.mem_of_getElem? (i := 20) rfl)) rfl, tb_of (tk_5 _ (List.mem_of_getElem? (i := 21) rfl)) rfl⟩
abbrev mX10_within : md_T := (yX10_within, cX10_within, 3, (some .boolean))
theorem okX10_within : mk_ mX10_within 3 := ⟨tb_of (tk_2 _ (List.mem_of_getElem? (i := 142) rfl)) rfl, iniX10, by decide +kernel, by decide⟩
theorem stX10_within : Cond.static yX10_within ∈ tb_ := tb_of (tk_2 _ (List.mem_of_getElem? (i := 141) rfl)) rfl
abbrev mX10_isWire : md_T := (yX10_isWire, cX10_isWire, 1, (some .boolean))
theorem okX10_isWire : mk_ mX10_isWire 1 := ⟨tb_of (tk_4 _ (List.mem_of_getElem? (i := 0) rfl)) rfl, iniX10, by decide +kernel, by decide⟩
theorem stX10_isWire : Cond.static yX10_isWire ∈ tb_ := tb_of (tk_3 _ (List.mem_of_getElem? (i := 239) rfl)) rfl
abbrev mX10_isLane : md_T := (yX10_isLane, cX10_isLane, 1, (some .boolean))
theorem okX10_isLane : mk_ mX10_isLane 1 := ⟨tb_of (tk_4 _ (List.mem_of_getElem? (i := 209) rfl)) rfl, iniX10, by decide +kernel, by decide⟩
theorem stX10_isLane : Cond.static yX10_isLane ∈ tb_ := tb_of (tk_4 _ (List.mem_of_getElem? (i := 208) rfl)) rfl
abbrev mX10_greatestDivisor : md_T := (yX10_greatestDivisor, cX10_greatestDivisor, 6, (some .int))
theorem okX10_greatestDivisor : mk_ mX10_greatestDivisor 2 := ⟨tb_of (tk_4 _ (List.mem_of_getElem? (i := 43) rfl)) rfl, iniX10, by decide +kernel, by decide⟩
theorem stX10_greatestDivisor : Cond.static yX10_greatestDivisor ∈ tb_ := tb_of (tk_4 _ (List.mem_of_getElem? (i := 42) rfl)) rfl
abbrev mX10_refusalOf : md_T := (yX10_refusalOf, cX10_refusalOf, 3, (some .int))
theorem okX10_refusalOf : mk_ mX10_refusalOf 3 := ⟨tb_of (tk_3 _ (List.mem_of_getElem? (i := 138) rfl)) rfl, iniX10, by decide +kernel, by decide⟩
theorem stX10_refusalOf : Cond.static yX10_refusalOf ∈ tb_ := tb_of (tk_3 _ (List.mem_of_getElem? (i := 137) rfl)) rfl
abbrev mX10_firstRefusal : md_T := (yX10_firstRefusal, cX10_firstRefusal, 8, (some .int))
theorem okX10_firstRefusal : mk_ mX10_firstRefusal 3 := ⟨tb_of (tk_5 _ (List.mem_of_getElem? (i := 10) rfl)) rfl, iniX10, by decide +kernel, by decide⟩
theorem in_X10_firstRefusal : mi_ mX10_firstRefusal := ⟨tb_of (tk_5 _ (List.mem_of_getElem? (i := 9) rfl)) rfl, tb_of (tp_3 (yX10_firstRefusal, _) (List.mem_of_getElem? (i := 2) rfl)) rfl⟩
abbrev mX10_turns : md_T := (yX10_turns, cX10_turns, 4, (some .boolean))
theorem okX10_turns : mk_ mX10_turns 3 := ⟨tb_of (tk_4 _ (List.mem_of_getElem? (i := 4) rfl)) rfl, iniX10, by decide +kernel, by decide⟩
theorem in_X10_turns : mi_ mX10_turns := ⟨tb_of (tk_4 _ (List.mem_of_getElem? (i := 3) rfl)) rfl, tb_of (tp_2 (yX10_turns, _) (List.mem_of_getElem? (i := 7) rfl)) rfl⟩
abbrev mX10_firstRise : md_T := (yX10_firstRise, cX10_firstRise, 3, (some .int))
theorem okX10_firstRise : mk_ mX10_firstRise 1 := ⟨tb_of (tk_4 _ (List.mem_of_getElem? (i := 35) rfl)) rfl, iniX10, by decide +kernel, by decide⟩
theorem in_X10_firstRise : mi_ mX10_firstRise := ⟨tb_of (tk_4 _ (List.mem_of_getElem? (i := 34) rfl)) rfl, tb_of (tp_2 (yX10_firstRise, _) (List.mem_of_getElem? (i := 9) rfl)) rfl⟩
abbrev mX10_lastRise : md_T := (yX10_lastRise, cX10_lastRise, 3, (some .int))
theorem okX10_lastRise : mk_ mX10_lastRise 1 := ⟨tb_of (tk_4 _ (List.mem_of_getElem? (i := 39) rfl)) rfl, iniX10, by decide +kernel, by decide⟩
theorem in_X10_lastRise : mi_ mX10_lastRise := ⟨tb_of (tk_4 _ (List.mem_of_getElem? (i := 38) rfl)) rfl, tb_of (tp_2 (yX10_lastRise, _) (List.mem_of_getElem? (i := 10) rfl)) rfl⟩
abbrev mX10_imageOf : md_T := (yX10_imageOf, cX10_imageOf, 2, (some (.object "EightWires$Trace")))
theorem okX10_imageOf : mk_ mX10_imageOf 1 := ⟨tb_of (tk_4 _ (List.mem_of_getElem? (i := 182) rfl)) rfl, iniX10, by decide +kernel, by decide⟩
theorem in_X10_imageOf : mi_ mX10_imageOf := ⟨tb_of (tk_4 _ (List.mem_of_getElem? (i := 181) rfl)) rfl, tb_of (tp_3 (yX10_imageOf, _) (List.mem_of_getElem? (i := 0) rfl)) rfl⟩
abbrev mX10_sheetOf : md_T := (yX10_sheetOf, cX10_sheetOf, 2, (some (.object "EightWires$Sheet")))
theorem okX10_sheetOf : mk_ mX10_sheetOf 1 := ⟨tb_of (tk_4 _ (List.mem_of_getElem? (i := 206) rfl)) rfl, iniX10, by decide +kernel, by decide⟩
theorem in_X10_sheetOf : mi_ mX10_sheetOf := ⟨tb_of (tk_4 _ (List.mem_of_getElem? (i := 205) rfl)) rfl, tb_of (tp_3 (yX10_sheetOf, _) (List.mem_of_getElem? (i := 1) rfl)) rfl⟩
abbrev mX10_imagesKept : md_T := (yX10_imagesKept, cX10_imagesKept, 4, (some .int))
theorem okX10_imagesKept : mk_ mX10_imagesKept 0 := ⟨tb_of (tk_5 _ (List.mem_of_getElem? (i := 26) rfl)) rfl, iniX10, by decide +kernel, by decide⟩
theorem in_X10_imagesKept : mi_ mX10_imagesKept := ⟨tb_of (tk_5 _ (List.mem_of_getElem? (i := 25) rfl)) rfl, tb_of (tp_3 (yX10_imagesKept, _) (List.mem_of_getElem? (i := 3) rfl)) rfl⟩
abbrev mX10_cellsOfFirst : md_T := (yX10_cellsOfFirst, cX10_cellsOfFirst, 2, (some .int))
theorem okX10_cellsOfFirst : mk_ mX10_cellsOfFirst 0 := ⟨tb_of (tk_5 _ (List.mem_of_getElem? (i := 30) rfl)) rfl, iniX10, by decide +kernel, by decide⟩
theorem in_X10_cellsOfFirst : mi_ mX10_cellsOfFirst := ⟨tb_of (tk_5 _ (List.mem_of_getElem? (i := 29) rfl)) rfl, tb_of (tp_3 (yX10_cellsOfFirst, _) (List.mem_of_getElem? (i := 4) rfl)) rfl⟩
abbrev mX11_init : md_T := (yX11_init, cX11_init, 2, none)
theorem okX11_init : mk_ mX11_init 0 := ⟨tb_of (tk_5 _ (List.mem_of_getElem? (i := 35) rfl)) rfl, iniX11, by decide +kernel, by decide⟩
abbrev mX11_in : md_T := (yX11_in, cX11_in, 6, (some .boolean))
theorem okX11_in : mk_ mX11_in 3 := ⟨tb_of (tk_5 _ (List.mem_of_getElem? (i := 159) rfl)) rfl, iniX11, by decide +kernel, by decide⟩
theorem stX11_in : Cond.static yX11_in ∈ tb_ := tb_of (tk_5 _ (List.mem_of_getElem? (i := 158) rfl)) rfl
abbrev mX11_flag : md_T := (yX11_flag, cX11_flag, 1, (some .int))
theorem okX11_flag : mk_ mX11_flag 1 := ⟨tb_of (tk_6 _ (List.mem_of_getElem? (i := 90) rfl)) rfl, iniX11, by decide +kernel, by decide⟩
theorem stX11_flag : Cond.static yX11_flag ∈ tb_ := tb_of (tk_6 _ (List.mem_of_getElem? (i := 89) rfl)) rfl
abbrev mX11_less : md_T := (yX11_less, cX11_less, 2, (some .int))
theorem okX11_less : mk_ mX11_less 2 := ⟨tb_of (tk_6 _ (List.mem_of_getElem? (i := 67) rfl)) rfl, iniX11, by decide +kernel, by decide⟩
theorem stX11_less : Cond.static yX11_less ∈ tb_ := tb_of (tk_6 _ (List.mem_of_getElem? (i := 66) rfl)) rfl
abbrev mX11_firstDraft : md_T := (yX11_firstDraft, cX11_firstDraft, 2, none)
theorem okX11_firstDraft : mk_ mX11_firstDraft 0 := ⟨tb_of (tk_5 _ (List.mem_of_getElem? (i := 40) rfl)) rfl, iniX11, by decide +kernel, by decide⟩
theorem in_X11_firstDraft : mi_ mX11_firstDraft := ⟨tb_of (tk_5 _ (List.mem_of_getElem? (i := 39) rfl)) rfl, tb_of (tp_3 (yX11_firstDraft, _) (List.mem_of_getElem? (i := 5) rfl)) rfl⟩
abbrev mX11_keepDraft : md_T := (yX11_keepDraft, cX11_keepDraft, 2, none)
theorem okX11_keepDraft : mk_ mX11_keepDraft 0 := ⟨tb_of (tk_5 _ (List.mem_of_getElem? (i := 44) rfl)) rfl, iniX11, by decide +kernel, by decide⟩
theorem in_X11_keepDraft : mi_ mX11_keepDraft := ⟨tb_of (tk_5 _ (List.mem_of_getElem? (i := 43) rfl)) rfl, tb_of (tp_3 (yX11_keepDraft, _) (List.mem_of_getElem? (i := 6) rfl)) rfl⟩
abbrev mX11_feed : md_T := (yX11_feed, cX11_feed, 4, (some .int))
theorem okX11_feed : mk_ mX11_feed 1 := ⟨tb_of (tk_5 _ (List.mem_of_getElem? (i := 151) rfl)) rfl, iniX11, by decide +kernel, by decide⟩
theorem in_X11_feed : mi_ mX11_feed := ⟨tb_of (tk_5 _ (List.mem_of_getElem? (i := 149) rfl)) rfl, tb_of (tk_5 _ (List.mem_of_getElem? (i := 150) rfl)) rfl⟩
abbrev mX11_end : md_T := (yX11_end, cX11_end, 3, (some .int))
theorem okX11_end : mk_ mX11_end 1 := ⟨tb_of (tk_5 _ (List.mem_of_getElem? (i := 156) rfl)) rfl, iniX11, by decide +kernel, by decide⟩
theorem in_X11_end : mi_ mX11_end := ⟨tb_of (tk_5 _ (List.mem_of_getElem? (i := 154) rfl)) rfl, tb_of (tk_5 _ (List.mem_of_getElem? (i := 155) rfl)) rfl⟩
abbrev mX11_needs : md_T := (yX11_needs, cX11_needs, 3, none)
theorem okX11_needs : mk_ mX11_needs 2 := ⟨tb_of (tk_5 _ (List.mem_of_getElem? (i := 179) rfl)) rfl, iniX11, by decide +kernel, by decide⟩
theorem in_X11_needs : mi_ mX11_needs := ⟨tb_of (tk_5 _ (List.mem_of_getElem? (i := 178) rfl)) rfl, tb_of (tp_3 (yX11_needs, _) (List.mem_of_getElem? (i := 9) rfl)) rfl⟩
abbrev mX11_look : md_T := (yX11_look, cX11_look, 2, (some .int))
theorem okX11_look : mk_ mX11_look 1 := ⟨tb_of (tk_5 _ (List.mem_of_getElem? (i := 171) rfl)) rfl, iniX11, by decide +kernel, by decide⟩
theorem in_X11_look : mi_ mX11_look := ⟨tb_of (tk_5 _ (List.mem_of_getElem? (i := 170) rfl)) rfl, tb_of (tp_3 (yX11_look, _) (List.mem_of_getElem? (i := 8) rfl)) rfl⟩
abbrev mX11_is : md_T := (yX11_is, cX11_is, 6, (some .boolean))
theorem okX11_is : mk_ mX11_is 5 := ⟨tb_of (tk_5 _ (List.mem_of_getElem? (i := 191) rfl)) rfl, iniX11, by decide +kernel, by decide⟩
theorem in_X11_is : mi_ mX11_is := ⟨tb_of (tk_5 _ (List.mem_of_getElem? (i := 190) rfl)) rfl, tb_of (tp_3 (yX11_is, _) (List.mem_of_getElem? (i := 12) rfl)) rfl⟩
abbrev mX11_termNow : md_T := (yX11_termNow, cX11_termNow, 1, (some .int))
theorem okX11_termNow : mk_ mX11_termNow 0 := ⟨tb_of (tk_5 _ (List.mem_of_getElem? (i := 207) rfl)) rfl, iniX11, by decide +kernel, by decide⟩
theorem in_X11_termNow : mi_ mX11_termNow := ⟨tb_of (tk_5 _ (List.mem_of_getElem? (i := 206) rfl)) rfl, tb_of (tp_4 (yX11_termNow, _) (List.mem_of_getElem? (i := 0) rfl)) rfl⟩
abbrev mX11_lineNow : md_T := (yX11_lineNow, cX11_lineNow, 1, (some .int))
theorem okX11_lineNow : mk_ mX11_lineNow 0 := ⟨tb_of (tk_5 _ (List.mem_of_getElem? (i := 187) rfl)) rfl, iniX11, by decide +kernel, by decide⟩
theorem in_X11_lineNow : mi_ mX11_lineNow := ⟨tb_of (tk_5 _ (List.mem_of_getElem? (i := 186) rfl)) rfl, tb_of (tp_3 (yX11_lineNow, _) (List.mem_of_getElem? (i := 11) rfl)) rfl⟩
abbrev mX11_wordNow : md_T := (yX11_wordNow, cX11_wordNow, 1, (some .int))
theorem okX11_wordNow : mk_ mX11_wordNow 0 := ⟨tb_of (tk_5 _ (List.mem_of_getElem? (i := 215) rfl)) rfl, iniX11, by decide +kernel, by decide⟩
theorem in_X11_wordNow : mi_ mX11_wordNow := ⟨tb_of (tk_5 _ (List.mem_of_getElem? (i := 214) rfl)) rfl, tb_of (tp_4 (yX11_wordNow, _) (List.mem_of_getElem? (i := 2) rfl)) rfl⟩
abbrev mX11_token : md_T := (yX11_token, cX11_token, 2, none)
theorem okX11_token : mk_ mX11_token 0 := ⟨tb_of (tk_5 _ (List.mem_of_getElem? (i := 167) rfl)) rfl, iniX11, by decide +kernel, by decide⟩
theorem in_X11_token : mi_ mX11_token := ⟨tb_of (tk_5 _ (List.mem_of_getElem? (i := 166) rfl)) rfl, tb_of (tp_3 (yX11_token, _) (List.mem_of_getElem? (i := 7) rfl)) rfl⟩
abbrev mX11_readNumber : md_T := (yX11_readNumber, cX11_readNumber, 4, (some .int))
theorem okX11_readNumber : mk_ mX11_readNumber 2 := ⟨tb_of (tk_5 _ (List.mem_of_getElem? (i := 211) rfl)) rfl, iniX11, by decide +kernel, by decide⟩
theorem in_X11_readNumber : mi_ mX11_readNumber := ⟨tb_of (tk_5 _ (List.mem_of_getElem? (i := 210) rfl)) rfl, tb_of (tp_4 (yX11_readNumber, _) (List.mem_of_getElem? (i := 1) rfl)) rfl⟩
abbrev mX11_readCond : md_T := (yX11_readCond, cX11_readCond, 6, (some .int))
theorem okX11_readCond : mk_ mX11_readCond 1 := ⟨tb_of (tk_5 _ (List.mem_of_getElem? (i := 203) rfl)) rfl, iniX11, by decide +kernel, by decide⟩
theorem in_X11_readCond : mi_ mX11_readCond := ⟨tb_of (tk_5 _ (List.mem_of_getElem? (i := 202) rfl)) rfl, tb_of (tp_3 (yX11_readCond, _) (List.mem_of_getElem? (i := 15) rfl)) rfl⟩
abbrev mX11_readBranch : md_T := (yX11_readBranch, cX11_readBranch, 2, none)
theorem okX11_readBranch : mk_ mX11_readBranch 1 := ⟨tb_of (tk_5 _ (List.mem_of_getElem? (i := 199) rfl)) rfl, iniX11, by decide +kernel, by decide⟩
theorem in_X11_readBranch : mi_ mX11_readBranch := ⟨tb_of (tk_5 _ (List.mem_of_getElem? (i := 198) rfl)) rfl, tb_of (tp_3 (yX11_readBranch, _) (List.mem_of_getElem? (i := 14) rfl)) rfl⟩
abbrev mX11_readState : md_T := (yX11_readState, cX11_readState, 4, none)
theorem okX11_readState : mk_ mX11_readState 0 := ⟨tb_of (tk_5 _ (List.mem_of_getElem? (i := 195) rfl)) rfl, iniX11, by decide +kernel, by decide⟩
theorem in_X11_readState : mi_ mX11_readState := ⟨tb_of (tk_5 _ (List.mem_of_getElem? (i := 194) rfl)) rfl, tb_of (tp_3 (yX11_readState, _) (List.mem_of_getElem? (i := 13) rfl)) rfl⟩
abbrev mX11_readLine : md_T := (yX11_readLine, cX11_readLine, 2, none)
theorem okX11_readLine : mk_ mX11_readLine 0 := ⟨tb_of (tk_5 _ (List.mem_of_getElem? (i := 183) rfl)) rfl, iniX11, by decide +kernel, by decide⟩
theorem in_X11_readLine : mi_ mX11_readLine := ⟨tb_of (tk_5 _ (List.mem_of_getElem? (i := 182) rfl)) rfl, tb_of (tp_3 (yX11_readLine, _) (List.mem_of_getElem? (i := 10) rfl)) rfl⟩
abbrev mX11_isWhole : md_T := (yX11_isWhole, cX11_isWhole, 5, (some .boolean))
theorem okX11_isWhole : mk_ mX11_isWhole 0 := ⟨tb_of (tk_5 _ (List.mem_of_getElem? (i := 219) rfl)) rfl, iniX11, by decide +kernel, by decide⟩
theorem in_X11_isWhole : mi_ mX11_isWhole := ⟨tb_of (tk_5 _ (List.mem_of_getElem? (i := 218) rfl)) rfl, tb_of (tp_4 (yX11_isWhole, _) (List.mem_of_getElem? (i := 3) rfl)) rfl⟩
abbrev mX11_text : md_T := (yX11_text, cX11_text, 2, (some .int))
theorem okX11_text : mk_ mX11_text 0 := ⟨tb_of (tk_5 _ (List.mem_of_getElem? (i := 163) rfl)) rfl, iniX11, by decide +kernel, by decide⟩
theorem in_X11_text : mi_ mX11_text := ⟨tb_of (tk_5 _ (List.mem_of_getElem? (i := 161) rfl)) rfl, tb_of (tk_5 _ (List.mem_of_getElem? (i := 162) rfl)) rfl⟩
abbrev mX11_fault : md_T := (yX11_fault, cX11_fault, 1, (some .int))
theorem okX11_fault : mk_ mX11_fault 0 := ⟨tb_of (tk_5 _ (List.mem_of_getElem? (i := 223) rfl)) rfl, iniX11, by decide +kernel, by decide⟩
theorem in_X11_fault : mi_ mX11_fault := ⟨tb_of (tk_5 _ (List.mem_of_getElem? (i := 221) rfl)) rfl, tb_of (tk_5 _ (List.mem_of_getElem? (i := 222) rfl)) rfl⟩
abbrev mX11_isState : md_T := (yX11_isState, cX11_isState, 2, (some .boolean))
theorem okX11_isState : mk_ mX11_isState 1 := ⟨tb_of (tk_5 _ (List.mem_of_getElem? (i := 231) rfl)) rfl, iniX11, by decide +kernel, by decide⟩
theorem in_X11_isState : mi_ mX11_isState := ⟨tb_of (tk_5 _ (List.mem_of_getElem? (i := 230) rfl)) rfl, tb_of (tp_4 (yX11_isState, _) (List.mem_of_getElem? (i := 4) rfl)) rfl⟩
abbrev mX11_rule : md_T := (yX11_rule, cX11_rule, 2, (some .int))
theorem okX11_rule : mk_ mX11_rule 1 := ⟨tb_of (tk_5 _ (List.mem_of_getElem? (i := 227) rfl)) rfl, iniX11, by decide +kernel, by decide⟩
theorem in_X11_rule : mi_ mX11_rule := ⟨tb_of (tk_5 _ (List.mem_of_getElem? (i := 225) rfl)) rfl, tb_of (tk_5 _ (List.mem_of_getElem? (i := 226) rfl)) rfl⟩
abbrev mX11_branch : md_T := (yX11_branch, cX11_branch, 5, (some .int))
theorem okX11_branch : mk_ mX11_branch 3 := ⟨tb_of (tk_5 _ (List.mem_of_getElem? (i := 235) rfl)) rfl, iniX11, by decide +kernel, by decide⟩
theorem in_X11_branch : mi_ mX11_branch := ⟨tb_of (tk_5 _ (List.mem_of_getElem? (i := 233) rfl)) rfl, tb_of (tk_5 _ (List.mem_of_getElem? (i := 234) rfl)) rfl⟩
abbrev mX11_isValue : md_T := (yX11_isValue, cX11_isValue, 1, (some .boolean))
theorem okX11_isValue : mk_ mX11_isValue 1 := ⟨tb_of (tk_6 _ (List.mem_of_getElem? (i := 6) rfl)) rfl, iniX11, by decide +kernel, by decide⟩
theorem stX11_isValue : Cond.static yX11_isValue ∈ tb_ := tb_of (tk_6 _ (List.mem_of_getElem? (i := 5) rfl)) rfl
abbrev mX11_isSample : md_T := (yX11_isSample, cX11_isSample, 2, (some .boolean))
theorem okX11_isSample : mk_ mX11_isSample 1 := ⟨tb_of (tk_6 _ (List.mem_of_getElem? (i := 18) rfl)) rfl, iniX11, by decide +kernel, by decide⟩
theorem in_X11_isSample : mi_ mX11_isSample := ⟨tb_of (tk_6 _ (List.mem_of_getElem? (i := 17) rfl)) rfl, tb_of (tp_4 (yX11_isSample, _) (List.mem_of_getElem? (i := 5) rfl)) rfl⟩
abbrev mX11_see : md_T := (yX11_see, cX11_see, 4, (some .int))
theorem okX11_see : mk_ mX11_see 2 := ⟨tb_of (tk_6 _ (List.mem_of_getElem? (i := 2) rfl)) rfl, iniX11, by decide +kernel, by decide⟩
theorem in_X11_see : mi_ mX11_see := ⟨tb_of (tk_6 _ (List.mem_of_getElem? (i := 0) rfl)) rfl, tb_of (tk_6 _ (List.mem_of_getElem? (i := 1) rfl)) rfl⟩
abbrev mX11_cut : md_T := (yX11_cut, cX11_cut, 3, (some .int))
theorem okX11_cut : mk_ mX11_cut 1 := ⟨tb_of (tk_6 _ (List.mem_of_getElem? (i := 10) rfl)) rfl, iniX11, by decide +kernel, by decide⟩
theorem in_X11_cut : mi_ mX11_cut := ⟨tb_of (tk_6 _ (List.mem_of_getElem? (i := 8) rfl)) rfl, tb_of (tk_6 _ (List.mem_of_getElem? (i := 9) rfl)) rfl⟩
abbrev mX11_at : md_T := (yX11_at, cX11_at, 2, (some .int))
theorem okX11_at : mk_ mX11_at 1 := ⟨tb_of (tk_6 _ (List.mem_of_getElem? (i := 14) rfl)) rfl, iniX11, by decide +kernel, by decide⟩
theorem in_X11_at : mi_ mX11_at := ⟨tb_of (tk_6 _ (List.mem_of_getElem? (i := 12) rfl)) rfl, tb_of (tk_6 _ (List.mem_of_getElem? (i := 13) rfl)) rfl⟩
abbrev mX11_put : md_T := (yX11_put, cX11_put, 4, (some .int))
theorem okX11_put : mk_ mX11_put 2 := ⟨tb_of (tk_6 _ (List.mem_of_getElem? (i := 22) rfl)) rfl, iniX11, by decide +kernel, by decide⟩
theorem in_X11_put : mi_ mX11_put := ⟨tb_of (tk_6 _ (List.mem_of_getElem? (i := 20) rfl)) rfl, tb_of (tk_6 _ (List.mem_of_getElem? (i := 21) rfl)) rfl⟩
abbrev mX11_isHigh : md_T := (yX11_isHigh, cX11_isHigh, 3, (some .boolean))
theorem okX11_isHigh : mk_ mX11_isHigh 2 := ⟨tb_of (tk_6 _ (List.mem_of_getElem? (i := 47) rfl)) rfl, iniX11, by decide +kernel, by decide⟩
theorem in_X11_isHigh : mi_ mX11_isHigh := ⟨tb_of (tk_6 _ (List.mem_of_getElem? (i := 46) rfl)) rfl, tb_of (tp_4 (yX11_isHigh, _) (List.mem_of_getElem? (i := 10) rfl)) rfl⟩
abbrev mX11_rises : md_T := (yX11_rises, cX11_rises, 3, (some .boolean))
theorem okX11_rises : mk_ mX11_rises 2 := ⟨tb_of (tk_6 _ (List.mem_of_getElem? (i := 51) rfl)) rfl, iniX11, by decide +kernel, by decide⟩
theorem in_X11_rises : mi_ mX11_rises := ⟨tb_of (tk_6 _ (List.mem_of_getElem? (i := 50) rfl)) rfl, tb_of (tp_4 (yX11_rises, _) (List.mem_of_getElem? (i := 11) rfl)) rfl⟩
abbrev mX11_falls : md_T := (yX11_falls, cX11_falls, 3, (some .boolean))
theorem okX11_falls : mk_ mX11_falls 2 := ⟨tb_of (tk_6 _ (List.mem_of_getElem? (i := 55) rfl)) rfl, iniX11, by decide +kernel, by decide⟩
theorem in_X11_falls : mi_ mX11_falls := ⟨tb_of (tk_6 _ (List.mem_of_getElem? (i := 54) rfl)) rfl, tb_of (tp_4 (yX11_falls, _) (List.mem_of_getElem? (i := 12) rfl)) rfl⟩
abbrev mX11_isSo : md_T := (yX11_isSo, cX11_isSo, 8, (some .boolean))
theorem okX11_isSo : mk_ mX11_isSo 4 := ⟨tb_of (tk_6 _ (List.mem_of_getElem? (i := 43) rfl)) rfl, iniX11, by decide +kernel, by decide⟩
theorem in_X11_isSo : mi_ mX11_isSo := ⟨tb_of (tk_6 _ (List.mem_of_getElem? (i := 42) rfl)) rfl, tb_of (tp_4 (yX11_isSo, _) (List.mem_of_getElem? (i := 9) rfl)) rfl⟩
abbrev mX11_enters : md_T := (yX11_enters, cX11_enters, 3, none)
theorem okX11_enters : mk_ mX11_enters 2 := ⟨tb_of (tk_6 _ (List.mem_of_getElem? (i := 35) rfl)) rfl, iniX11, by decide +kernel, by decide⟩
theorem in_X11_enters : mi_ mX11_enters := ⟨tb_of (tk_6 _ (List.mem_of_getElem? (i := 34) rfl)) rfl, tb_of (tp_4 (yX11_enters, _) (List.mem_of_getElem? (i := 7) rfl)) rfl⟩
abbrev mX11_sample : md_T := (yX11_sample, cX11_sample, 6, none)
theorem okX11_sample : mk_ mX11_sample 1 := ⟨tb_of (tk_6 _ (List.mem_of_getElem? (i := 39) rfl)) rfl, iniX11, by decide +kernel, by decide⟩
theorem in_X11_sample : mi_ mX11_sample := ⟨tb_of (tk_6 _ (List.mem_of_getElem? (i := 38) rfl)) rfl, tb_of (tp_4 (yX11_sample, _) (List.mem_of_getElem? (i := 8) rfl)) rfl⟩
abbrev mX11_runs0 : md_T := (yX11_runs0, cX11_runs0, 3, none)
theorem okX11_runs0 : mk_ mX11_runs0 1 := ⟨tb_of (tk_6 _ (List.mem_of_getElem? (i := 31) rfl)) rfl, iniX11, by decide +kernel, by decide⟩
theorem in_X11_runs0 : mi_ mX11_runs0 := ⟨tb_of (tk_6 _ (List.mem_of_getElem? (i := 30) rfl)) rfl, tb_of (tp_4 (yX11_runs0, _) (List.mem_of_getElem? (i := 6) rfl)) rfl⟩
abbrev mX11_run : md_T := (yX11_run, cX11_run, 2, (some .int))
theorem okX11_run : mk_ mX11_run 1 := ⟨tb_of (tk_6 _ (List.mem_of_getElem? (i := 26) rfl)) rfl, iniX11, by decide +kernel, by decide⟩
theorem in_X11_run : mi_ mX11_run := ⟨tb_of (tk_6 _ (List.mem_of_getElem? (i := 24) rfl)) rfl, tb_of (tk_6 _ (List.mem_of_getElem? (i := 25) rfl)) rfl⟩
abbrev mX11_state : md_T := (yX11_state, cX11_state, 2, (some .int))
theorem okX11_state : mk_ mX11_state 1 := ⟨tb_of (tk_6 _ (List.mem_of_getElem? (i := 59) rfl)) rfl, iniX11, by decide +kernel, by decide⟩
theorem in_X11_state : mi_ mX11_state := ⟨tb_of (tk_6 _ (List.mem_of_getElem? (i := 57) rfl)) rfl, tb_of (tk_6 _ (List.mem_of_getElem? (i := 58) rfl)) rfl⟩
abbrev mX11_isKept : md_T := (yX11_isKept, cX11_isKept, 2, (some .boolean))
theorem okX11_isKept : mk_ mX11_isKept 1 := ⟨tb_of (tk_6 _ (List.mem_of_getElem? (i := 71) rfl)) rfl, iniX11, by decide +kernel, by decide⟩
theorem in_X11_isKept : mi_ mX11_isKept := ⟨tb_of (tk_6 _ (List.mem_of_getElem? (i := 70) rfl)) rfl, tb_of (tp_4 (yX11_isKept, _) (List.mem_of_getElem? (i := 13) rfl)) rfl⟩
abbrev mX11_stored : md_T := (yX11_stored, cX11_stored, 8, (some .int))
theorem okX11_stored : mk_ mX11_stored 1 := ⟨tb_of (tk_6 _ (List.mem_of_getElem? (i := 63) rfl)) rfl, iniX11, by decide +kernel, by decide⟩
theorem in_X11_stored : mi_ mX11_stored := ⟨tb_of (tk_6 _ (List.mem_of_getElem? (i := 61) rfl)) rfl, tb_of (tk_6 _ (List.mem_of_getElem? (i := 62) rfl)) rfl⟩
abbrev mX11_next : md_T := (yX11_next, cX11_next, 4, (some .int))
theorem okX11_next : mk_ mX11_next 1 := ⟨tb_of (tk_6 _ (List.mem_of_getElem? (i := 75) rfl)) rfl, iniX11, by decide +kernel, by decide⟩
theorem in_X11_next : mi_ mX11_next := ⟨tb_of (tk_6 _ (List.mem_of_getElem? (i := 73) rfl)) rfl, tb_of (tk_6 _ (List.mem_of_getElem? (i := 74) rfl)) rfl⟩
abbrev mX11_isWire : md_T := (yX11_isWire, cX11_isWire, 1, (some .boolean))
theorem okX11_isWire : mk_ mX11_isWire 1 := ⟨tb_of (tk_6 _ (List.mem_of_getElem? (i := 82) rfl)) rfl, iniX11, by decide +kernel, by decide⟩
theorem stX11_isWire : Cond.static yX11_isWire ∈ tb_ := tb_of (tk_6 _ (List.mem_of_getElem? (i := 81) rfl)) rfl
abbrev mX11_isEdge : md_T := (yX11_isEdge, cX11_isEdge, 4, (some .boolean))
theorem okX11_isEdge : mk_ mX11_isEdge 3 := ⟨tb_of (tk_6 _ (List.mem_of_getElem? (i := 87) rfl)) rfl, iniX11, by decide +kernel, by decide⟩
theorem in_X11_isEdge : mi_ mX11_isEdge := ⟨tb_of (tk_6 _ (List.mem_of_getElem? (i := 86) rfl)) rfl, tb_of (tp_4 (yX11_isEdge, _) (List.mem_of_getElem? (i := 14) rfl)) rfl⟩
abbrev mX11_edges : md_T := (yX11_edges, cX11_edges, 5, (some .int))
theorem okX11_edges : mk_ mX11_edges 2 := ⟨tb_of (tk_6 _ (List.mem_of_getElem? (i := 79) rfl)) rfl, iniX11, by decide +kernel, by decide⟩
theorem in_X11_edges : mi_ mX11_edges := ⟨tb_of (tk_6 _ (List.mem_of_getElem? (i := 77) rfl)) rfl, tb_of (tk_6 _ (List.mem_of_getElem? (i := 78) rfl)) rfl⟩
abbrev mX11_edge : md_T := (yX11_edge, cX11_edge, 6, (some .int))
theorem okX11_edge : mk_ mX11_edge 3 := ⟨tb_of (tk_6 _ (List.mem_of_getElem? (i := 94) rfl)) rfl, iniX11, by decide +kernel, by decide⟩
theorem in_X11_edge : mi_ mX11_edge := ⟨tb_of (tk_6 _ (List.mem_of_getElem? (i := 92) rfl)) rfl, tb_of (tk_6 _ (List.mem_of_getElem? (i := 93) rfl)) rfl⟩
abbrev mX11_endOf : md_T := (yX11_endOf, cX11_endOf, 4, (some .int))
theorem okX11_endOf : mk_ mX11_endOf 2 := ⟨tb_of (tk_6 _ (List.mem_of_getElem? (i := 111) rfl)) rfl, iniX11, by decide +kernel, by decide⟩
theorem in_X11_endOf : mi_ mX11_endOf := ⟨tb_of (tk_6 _ (List.mem_of_getElem? (i := 110) rfl)) rfl, tb_of (tp_5 (yX11_endOf, _) (List.mem_of_getElem? (i := 1) rfl)) rfl⟩
abbrev mX11_noPulses : md_T := (yX11_noPulses, cX11_noPulses, 1, none)
theorem okX11_noPulses : mk_ mX11_noPulses 0 := ⟨tb_of (tk_6 _ (List.mem_of_getElem? (i := 103) rfl)) rfl, iniX11, by decide +kernel, by decide⟩
theorem in_X11_noPulses : mi_ mX11_noPulses := ⟨tb_of (tk_6 _ (List.mem_of_getElem? (i := 102) rfl)) rfl, tb_of (tp_4 (yX11_noPulses, _) (List.mem_of_getElem? (i := 15) rfl)) rfl⟩
abbrev mX11_findPulses : md_T := (yX11_findPulses, cX11_findPulses, 5, none)
theorem okX11_findPulses : mk_ mX11_findPulses 2 := ⟨tb_of (tk_6 _ (List.mem_of_getElem? (i := 107) rfl)) rfl, iniX11, by decide +kernel, by decide⟩
theorem in_X11_findPulses : mi_ mX11_findPulses := ⟨tb_of (tk_6 _ (List.mem_of_getElem? (i := 106) rfl)) rfl, tb_of (tp_5 (yX11_findPulses, _) (List.mem_of_getElem? (i := 0) rfl)) rfl⟩
abbrev mX11_pulse : md_T := (yX11_pulse, cX11_pulse, 4, (some .int))
theorem okX11_pulse : mk_ mX11_pulse 3 := ⟨tb_of (tk_6 _ (List.mem_of_getElem? (i := 98) rfl)) rfl, iniX11, by decide +kernel, by decide⟩
theorem in_X11_pulse : mi_ mX11_pulse := ⟨tb_of (tk_6 _ (List.mem_of_getElem? (i := 96) rfl)) rfl, tb_of (tk_6 _ (List.mem_of_getElem? (i := 97) rfl)) rfl⟩
abbrev mX11_told : md_T := (yX11_told, cX11_told, 6, (some .int))
theorem okX11_told : mk_ mX11_told 3 := ⟨tb_of (tk_6 _ (List.mem_of_getElem? (i := 118) rfl)) rfl, iniX11, by decide +kernel, by decide⟩
theorem stX11_told : Cond.static yX11_told ∈ tb_ := tb_of (tk_6 _ (List.mem_of_getElem? (i := 117) rfl)) rfl
abbrev mX11_duty : md_T := (yX11_duty, cX11_duty, 7, (some .int))
theorem okX11_duty : mk_ mX11_duty 2 := ⟨tb_of (tk_6 _ (List.mem_of_getElem? (i := 115) rfl)) rfl, iniX11, by decide +kernel, by decide⟩
theorem in_X11_duty : mi_ mX11_duty := ⟨tb_of (tk_6 _ (List.mem_of_getElem? (i := 113) rfl)) rfl, tb_of (tk_6 _ (List.mem_of_getElem? (i := 114) rfl)) rfl⟩
abbrev mX11_shorter : md_T := (yX11_shorter, cX11_shorter, 6, (some .int))
theorem okX11_shorter : mk_ mX11_shorter 2 := ⟨tb_of (tk_6 _ (List.mem_of_getElem? (i := 122) rfl)) rfl, iniX11, by decide +kernel, by decide⟩
theorem in_X11_shorter : mi_ mX11_shorter := ⟨tb_of (tk_6 _ (List.mem_of_getElem? (i := 120) rfl)) rfl, tb_of (tk_6 _ (List.mem_of_getElem? (i := 121) rfl)) rfl⟩
abbrev mX11_smooths : md_T := (yX11_smooths, cX11_smooths, 6, none)
theorem okX11_smooths : mk_ mX11_smooths 2 := ⟨tb_of (tk_6 _ (List.mem_of_getElem? (i := 130) rfl)) rfl, iniX11, by decide +kernel, by decide⟩
theorem in_X11_smooths : mi_ mX11_smooths := ⟨tb_of (tk_6 _ (List.mem_of_getElem? (i := 129) rfl)) rfl, tb_of (tp_5 (yX11_smooths, _) (List.mem_of_getElem? (i := 2) rfl)) rfl⟩
abbrev mX11_smooth : md_T := (yX11_smooth, cX11_smooth, 4, (some .int))
theorem okX11_smooth : mk_ mX11_smooth 1 := ⟨tb_of (tk_6 _ (List.mem_of_getElem? (i := 126) rfl)) rfl, iniX11, by decide +kernel, by decide⟩
theorem in_X11_smooth : mi_ mX11_smooth := ⟨tb_of (tk_6 _ (List.mem_of_getElem? (i := 124) rfl)) rfl, tb_of (tk_6 _ (List.mem_of_getElem? (i := 125) rfl)) rfl⟩
abbrev mX11_changes : md_T := (yX11_changes, cX11_changes, 3, (some .boolean))
theorem okX11_changes : mk_ mX11_changes 2 := ⟨tb_of (tk_6 _ (List.mem_of_getElem? (i := 142) rfl)) rfl, iniX11, by decide +kernel, by decide⟩
theorem in_X11_changes : mi_ mX11_changes := ⟨tb_of (tk_6 _ (List.mem_of_getElem? (i := 141) rfl)) rfl, tb_of (tp_5 (yX11_changes, _) (List.mem_of_getElem? (i := 4) rfl)) rfl⟩
abbrev mX11_aheadOf : md_T := (yX11_aheadOf, cX11_aheadOf, 4, (some .int))
theorem okX11_aheadOf : mk_ mX11_aheadOf 2 := ⟨tb_of (tk_6 _ (List.mem_of_getElem? (i := 138) rfl)) rfl, iniX11, by decide +kernel, by decide⟩
theorem in_X11_aheadOf : mi_ mX11_aheadOf := ⟨tb_of (tk_6 _ (List.mem_of_getElem? (i := 137) rfl)) rfl, tb_of (tp_5 (yX11_aheadOf, _) (List.mem_of_getElem? (i := 3) rfl)) rfl⟩
abbrev mX11_behindOf : md_T := (yX11_behindOf, cX11_behindOf, 4, (some .int))
theorem okX11_behindOf : mk_ mX11_behindOf 2 := ⟨tb_of (tk_6 _ (List.mem_of_getElem? (i := 146) rfl)) rfl, iniX11, by decide +kernel, by decide⟩
theorem in_X11_behindOf : mi_ mX11_behindOf := ⟨tb_of (tk_6 _ (List.mem_of_getElem? (i := 145) rfl)) rfl, tb_of (tp_5 (yX11_behindOf, _) (List.mem_of_getElem? (i := 5) rfl)) rfl⟩
abbrev mX11_setup : md_T := (yX11_setup, cX11_setup, 9, (some .int))
theorem okX11_setup : mk_ mX11_setup 3 := ⟨tb_of (tk_6 _ (List.mem_of_getElem? (i := 134) rfl)) rfl, iniX11, by decide +kernel, by decide⟩
theorem in_X11_setup : mi_ mX11_setup := ⟨tb_of (tk_6 _ (List.mem_of_getElem? (i := 132) rfl)) rfl, tb_of (tk_6 _ (List.mem_of_getElem? (i := 133) rfl)) rfl⟩
abbrev mX11_tight : md_T := (yX11_tight, cX11_tight, 9, (some .int))
theorem okX11_tight : mk_ mX11_tight 4 := ⟨tb_of (tk_6 _ (List.mem_of_getElem? (i := 150) rfl)) rfl, iniX11, by decide +kernel, by decide⟩
theorem in_X11_tight : mi_ mX11_tight := ⟨tb_of (tk_6 _ (List.mem_of_getElem? (i := 148) rfl)) rfl, tb_of (tk_6 _ (List.mem_of_getElem? (i := 149) rfl)) rfl⟩
abbrev mX11_bits : md_T := (yX11_bits, cX11_bits, 11, (some .int))
theorem okX11_bits : mk_ mX11_bits 4 := ⟨tb_of (tk_6 _ (List.mem_of_getElem? (i := 154) rfl)) rfl, iniX11, by decide +kernel, by decide⟩
theorem in_X11_bits : mi_ mX11_bits := ⟨tb_of (tk_6 _ (List.mem_of_getElem? (i := 152) rfl)) rfl, tb_of (tk_6 _ (List.mem_of_getElem? (i := 153) rfl)) rfl⟩
abbrev mX11_layFrames : md_T := (yX11_layFrames, cX11_layFrames, 9, none)
theorem okX11_layFrames : mk_ mX11_layFrames 3 := ⟨tb_of (tk_6 _ (List.mem_of_getElem? (i := 166) rfl)) rfl, iniX11, by decide +kernel, by decide⟩
theorem in_X11_layFrames : mi_ mX11_layFrames := ⟨tb_of (tk_6 _ (List.mem_of_getElem? (i := 165) rfl)) rfl, tb_of (tp_5 (yX11_layFrames, _) (List.mem_of_getElem? (i := 6) rfl)) rfl⟩
abbrev mX11_isRate : md_T := (yX11_isRate, cX11_isRate, 1, (some .boolean))
theorem okX11_isRate : mk_ mX11_isRate 1 := ⟨tb_of (tk_6 _ (List.mem_of_getElem? (i := 161) rfl)) rfl, iniX11, by decide +kernel, by decide⟩
theorem stX11_isRate : Cond.static yX11_isRate ∈ tb_ := tb_of (tk_6 _ (List.mem_of_getElem? (i := 160) rfl)) rfl
abbrev mX11_serial : md_T := (yX11_serial, cX11_serial, 4, (some .int))
theorem okX11_serial : mk_ mX11_serial 3 := ⟨tb_of (tk_6 _ (List.mem_of_getElem? (i := 158) rfl)) rfl, iniX11, by decide +kernel, by decide⟩
theorem in_X11_serial : mi_ mX11_serial := ⟨tb_of (tk_6 _ (List.mem_of_getElem? (i := 156) rfl)) rfl, tb_of (tk_6 _ (List.mem_of_getElem? (i := 157) rfl)) rfl⟩
abbrev mX11_rate : md_T := (yX11_rate, cX11_rate, 8, (some .int))
theorem okX11_rate : mk_ mX11_rate 2 := ⟨tb_of (tk_6 _ (List.mem_of_getElem? (i := 170) rfl)) rfl, iniX11, by decide +kernel, by decide⟩
theorem in_X11_rate : mi_ mX11_rate := ⟨tb_of (tk_6 _ (List.mem_of_getElem? (i := 168) rfl)) rfl, tb_of (tk_6 _ (List.mem_of_getElem? (i := 169) rfl)) rfl⟩
abbrev mX11_unlikeBits : md_T := (yX11_unlikeBits, cX11_unlikeBits, 5, (some .int))
theorem okX11_unlikeBits : mk_ mX11_unlikeBits 2 := ⟨tb_of (tk_6 _ (List.mem_of_getElem? (i := 182) rfl)) rfl, iniX11, by decide +kernel, by decide⟩
theorem in_X11_unlikeBits : mi_ mX11_unlikeBits := ⟨tb_of (tk_6 _ (List.mem_of_getElem? (i := 181) rfl)) rfl, tb_of (tp_5 (yX11_unlikeBits, _) (List.mem_of_getElem? (i := 8) rfl)) rfl⟩
abbrev mX11_edgesBy : md_T := (yX11_edgesBy, cX11_edgesBy, 5, (some .int))
theorem okX11_edgesBy : mk_ mX11_edgesBy 2 := ⟨tb_of (tk_6 _ (List.mem_of_getElem? (i := 178) rfl)) rfl, iniX11, by decide +kernel, by decide⟩
theorem in_X11_edgesBy : mi_ mX11_edgesBy := ⟨tb_of (tk_6 _ (List.mem_of_getElem? (i := 177) rfl)) rfl, tb_of (tp_5 (yX11_edgesBy, _) (List.mem_of_getElem? (i := 7) rfl)) rfl⟩
abbrev mX11_seen : md_T := (yX11_seen, cX11_seen, 6, (some .int))
theorem okX11_seen : mk_ mX11_seen 3 := ⟨tb_of (tk_6 _ (List.mem_of_getElem? (i := 174) rfl)) rfl, iniX11, by decide +kernel, by decide⟩
theorem in_X11_seen : mi_ mX11_seen := ⟨tb_of (tk_6 _ (List.mem_of_getElem? (i := 172) rfl)) rfl, tb_of (tk_6 _ (List.mem_of_getElem? (i := 173) rfl)) rfl⟩
abbrev mX11_widest : md_T := (yX11_widest, cX11_widest, 2, (some .int))
theorem okX11_widest : mk_ mX11_widest 0 := ⟨tb_of (tk_6 _ (List.mem_of_getElem? (i := 186) rfl)) rfl, iniX11, by decide +kernel, by decide⟩
theorem in_X11_widest : mi_ mX11_widest := ⟨tb_of (tk_6 _ (List.mem_of_getElem? (i := 184) rfl)) rfl, tb_of (tk_6 _ (List.mem_of_getElem? (i := 185) rfl)) rfl⟩
abbrev mX11_begins : md_T := (yX11_begins, cX11_begins, 2, (some .boolean))
theorem okX11_begins : mk_ mX11_begins 1 := ⟨tb_of (tk_6 _ (List.mem_of_getElem? (i := 194) rfl)) rfl, iniX11, by decide +kernel, by decide⟩
theorem in_X11_begins : mi_ mX11_begins := ⟨tb_of (tk_6 _ (List.mem_of_getElem? (i := 193) rfl)) rfl, tb_of (tp_5 (yX11_begins, _) (List.mem_of_getElem? (i := 9) rfl)) rfl⟩
abbrev mX11_runs : md_T := (yX11_runs, cX11_runs, 3, (some .int))
theorem okX11_runs : mk_ mX11_runs 0 := ⟨tb_of (tk_6 _ (List.mem_of_getElem? (i := 190) rfl)) rfl, iniX11, by decide +kernel, by decide⟩
theorem in_X11_runs : mi_ mX11_runs := ⟨tb_of (tk_6 _ (List.mem_of_getElem? (i := 188) rfl)) rfl, tb_of (tk_6 _ (List.mem_of_getElem? (i := 189) rfl)) rfl⟩
abbrev mX11_fills : md_T := (yX11_fills, cX11_fills, 5, (some .int))
theorem okX11_fills : mk_ mX11_fills 2 := ⟨tb_of (tk_6 _ (List.mem_of_getElem? (i := 198) rfl)) rfl, iniX11, by decide +kernel, by decide⟩
theorem in_X11_fills : mi_ mX11_fills := ⟨tb_of (tk_6 _ (List.mem_of_getElem? (i := 196) rfl)) rfl, tb_of (tk_6 _ (List.mem_of_getElem? (i := 197) rfl)) rfl⟩
abbrev mX11_timesOf : md_T := (yX11_timesOf, cX11_timesOf, 4, (some .int))
theorem okX11_timesOf : mk_ mX11_timesOf 1 := ⟨tb_of (tk_6 _ (List.mem_of_getElem? (i := 206) rfl)) rfl, iniX11, by decide +kernel, by decide⟩
theorem in_X11_timesOf : mi_ mX11_timesOf := ⟨tb_of (tk_6 _ (List.mem_of_getElem? (i := 205) rfl)) rfl, tb_of (tp_5 (yX11_timesOf, _) (List.mem_of_getElem? (i := 10) rfl)) rfl⟩
abbrev mX11_isFresh : md_T := (yX11_isFresh, cX11_isFresh, 4, (some .boolean))
theorem okX11_isFresh : mk_ mX11_isFresh 1 := ⟨tb_of (tk_6 _ (List.mem_of_getElem? (i := 210) rfl)) rfl, iniX11, by decide +kernel, by decide⟩
theorem in_X11_isFresh : mi_ mX11_isFresh := ⟨tb_of (tk_6 _ (List.mem_of_getElem? (i := 209) rfl)) rfl, tb_of (tp_5 (yX11_isFresh, _) (List.mem_of_getElem? (i := 11) rfl)) rfl⟩
abbrev mX11_values : md_T := (yX11_values, cX11_values, 7, (some .int))
theorem okX11_values : mk_ mX11_values 1 := ⟨tb_of (tk_6 _ (List.mem_of_getElem? (i := 202) rfl)) rfl, iniX11, by decide +kernel, by decide⟩
theorem in_X11_values : mi_ mX11_values := ⟨tb_of (tk_6 _ (List.mem_of_getElem? (i := 200) rfl)) rfl, tb_of (tk_6 _ (List.mem_of_getElem? (i := 201) rfl)) rfl⟩
abbrev mX11_keep : md_T := (yX11_keep, cX11_keep, 4, (some .int))
theorem okX11_keep : mk_ mX11_keep 1 := ⟨tb_of (tk_6 _ (List.mem_of_getElem? (i := 214) rfl)) rfl, iniX11, by decide +kernel, by decide⟩
theorem in_X11_keep : mi_ mX11_keep := ⟨tb_of (tk_6 _ (List.mem_of_getElem? (i := 212) rfl)) rfl, tb_of (tk_6 _ (List.mem_of_getElem? (i := 213) rfl)) rfl⟩
abbrev mX11_back : md_T := (yX11_back, cX11_back, 3, (some .int))
theorem okX11_back : mk_ mX11_back 1 := ⟨tb_of (tk_6 _ (List.mem_of_getElem? (i := 218) rfl)) rfl, iniX11, by decide +kernel, by decide⟩
theorem in_X11_back : mi_ mX11_back := ⟨tb_of (tk_6 _ (List.mem_of_getElem? (i := 216) rfl)) rfl, tb_of (tk_6 _ (List.mem_of_getElem? (i := 217) rfl)) rfl⟩
abbrev mX11_unlikeBy : md_T := (yX11_unlikeBy, cX11_unlikeBy, 8, (some .int))
theorem okX11_unlikeBy : mk_ mX11_unlikeBy 2 := ⟨tb_of (tk_6 _ (List.mem_of_getElem? (i := 227) rfl)) rfl, iniX11, by decide +kernel, by decide⟩
theorem in_X11_unlikeBy : mi_ mX11_unlikeBy := ⟨tb_of (tk_6 _ (List.mem_of_getElem? (i := 226) rfl)) rfl, tb_of (tp_5 (yX11_unlikeBy, _) (List.mem_of_getElem? (i := 12) rfl)) rfl⟩
abbrev mX11_unlike : md_T := (yX11_unlike, cX11_unlike, 3, (some .int))
theorem okX11_unlike : mk_ mX11_unlike 2 := ⟨tb_of (tk_6 _ (List.mem_of_getElem? (i := 222) rfl)) rfl, iniX11, by decide +kernel, by decide⟩
theorem in_X11_unlike : mi_ mX11_unlike := ⟨tb_of (tk_6 _ (List.mem_of_getElem? (i := 220) rfl)) rfl, tb_of (tk_6 _ (List.mem_of_getElem? (i := 221) rfl)) rfl⟩
abbrev mX11_shift : md_T := (yX11_shift, cX11_shift, 8, (some .int))
theorem okX11_shift : mk_ mX11_shift 2 := ⟨tb_of (tk_6 _ (List.mem_of_getElem? (i := 231) rfl)) rfl, iniX11, by decide +kernel, by decide⟩
theorem in_X11_shift : mi_ mX11_shift := ⟨tb_of (tk_6 _ (List.mem_of_getElem? (i := 229) rfl)) rfl, tb_of (tk_6 _ (List.mem_of_getElem? (i := 230) rfl)) rfl⟩
abbrev mX11_isSheet : md_T := (yX11_isSheet, cX11_isSheet, 2, (some .boolean))
theorem okX11_isSheet : mk_ mX11_isSheet 2 := ⟨tb_of (tk_6 _ (List.mem_of_getElem? (i := 238) rfl)) rfl, iniX11, by decide +kernel, by decide⟩
theorem stX11_isSheet : Cond.static yX11_isSheet ∈ tb_ := tb_of (tk_6 _ (List.mem_of_getElem? (i := 237) rfl)) rfl
abbrev mX11_sheet : md_T := (yX11_sheet, cX11_sheet, 5, (some .int))
theorem okX11_sheet : mk_ mX11_sheet 3 := ⟨tb_of (tk_6 _ (List.mem_of_getElem? (i := 235) rfl)) rfl, iniX11, by decide +kernel, by decide⟩
theorem in_X11_sheet : mi_ mX11_sheet := ⟨tb_of (tk_6 _ (List.mem_of_getElem? (i := 233) rfl)) rfl, tb_of (tk_6 _ (List.mem_of_getElem? (i := 234) rfl)) rfl⟩
abbrev mX11_lay : md_T := (yX11_lay, cX11_lay, 4, (some .int))
theorem okX11_lay : mk_ mX11_lay 3 := ⟨tb_of (tk_7 _ (List.mem_of_getElem? (i := 2) rfl)) rfl, iniX11, by decide +kernel, by decide⟩
theorem in_X11_lay : mi_ mX11_lay := ⟨tb_of (tk_7 _ (List.mem_of_getElem? (i := 0) rfl)) rfl, tb_of (tk_7 _ (List.mem_of_getElem? (i := 1) rfl)) rfl⟩
abbrev mX11_read : md_T := (yX11_read, cX11_read, 12, (some .int))
theorem okX11_read : mk_ mX11_read 4 := ⟨tb_of (tk_7 _ (List.mem_of_getElem? (i := 6) rfl)) rfl, iniX11, by decide +kernel, by decide⟩
theorem in_X11_read : mi_ mX11_read := ⟨tb_of (tk_7 _ (List.mem_of_getElem? (i := 4) rfl)) rfl, tb_of (tk_7 _ (List.mem_of_getElem? (i := 5) rfl)) rfl⟩
abbrev mX11_torn : md_T := (yX11_torn, cX11_torn, 1, (some .int))
theorem okX11_torn : mk_ mX11_torn 0 := ⟨tb_of (tk_7 _ (List.mem_of_getElem? (i := 11) rfl)) rfl, iniX11, by decide +kernel, by decide⟩
theorem in_X11_torn : mi_ mX11_torn := ⟨tb_of (tk_7 _ (List.mem_of_getElem? (i := 9) rfl)) rfl, tb_of (tk_7 _ (List.mem_of_getElem? (i := 10) rfl)) rfl⟩
abbrev mX11_count : md_T := (yX11_count, cX11_count, 2, (some .int))
theorem okX11_count : mk_ mX11_count 1 := ⟨tb_of (tk_7 _ (List.mem_of_getElem? (i := 15) rfl)) rfl, iniX11, by decide +kernel, by decide⟩
theorem in_X11_count : mi_ mX11_count := ⟨tb_of (tk_7 _ (List.mem_of_getElem? (i := 13) rfl)) rfl, tb_of (tk_7 _ (List.mem_of_getElem? (i := 14) rfl)) rfl⟩
abbrev mJ6_bitCount_0f7a4 : md_T := (yJ6_bitCount_0f7a4, cJ6_bitCount_0f7a4, 1, (some .int))
theorem okJ6_bitCount_0f7a4 : mk_ mJ6_bitCount_0f7a4 1 := ⟨tb_of (tk_4 _ (List.mem_of_getElem? (i := 137) rfl)) rfl, iniJ6, by decide +kernel, by decide⟩
theorem stJ6_bitCount_0f7a4 : Cond.static yJ6_bitCount_0f7a4 ∈ tb_ := tb_of (tk_4 _ (List.mem_of_getElem? (i := 136) rfl)) rfl
abbrev mJ9_max_7cf53 : md_T := (yJ9_max_7cf53, cJ9_max_7cf53, 2, (some .int))
theorem okJ9_max_7cf53 : mk_ mJ9_max_7cf53 2 := ⟨tb_of (tk_2 _ (List.mem_of_getElem? (i := 165) rfl)) rfl, iniJ9, by decide +kernel, by decide⟩
theorem stJ9_max_7cf53 : Cond.static yJ9_max_7cf53 ∈ tb_ := tb_of (tk_2 _ (List.mem_of_getElem? (i := 164) rfl)) rfl
abbrev mJ9_min_7cf53 : md_T := (yJ9_min_7cf53, cJ9_min_7cf53, 2, (some .int))
theorem okJ9_min_7cf53 : mk_ mJ9_min_7cf53 2 := ⟨tb_of (tk_3 _ (List.mem_of_getElem? (i := 145) rfl)) rfl, iniJ9, by decide +kernel, by decide⟩
theorem stJ9_min_7cf53 : Cond.static yJ9_min_7cf53 ∈ tb_ := tb_of (tk_3 _ (List.mem_of_getElem? (i := 144) rfl)) rfl
abbrev mJ0_length_8abf5 : md_T := (yJ0_length_8abf5, cJ0_length_8abf5, 1, (some .int))
theorem okJ0_length_8abf5 : mk_ mJ0_length_8abf5 0 := ⟨tb_of (tk_2 _ (List.mem_of_getElem? (i := 182) rfl)) rfl, iniJ0, by decide +kernel, by decide⟩
theorem in_J0_length_8abf5 : mi_ mJ0_length_8abf5 := ⟨tb_of (tk_2 _ (List.mem_of_getElem? (i := 180) rfl)) rfl, tb_of (tk_2 _ (List.mem_of_getElem? (i := 181) rfl)) rfl⟩
abbrev mJ0_charAt_5068e : md_T := (yJ0_charAt_5068e, cJ0_charAt_5068e, 2, (some .char))
theorem okJ0_charAt_5068e : mk_ mJ0_charAt_5068e 1 := ⟨tb_of (tk_2 _ (List.mem_of_getElem? (i := 192) rfl)) rfl, iniJ0, by decide +kernel, by decide⟩
theorem in_J0_charAt_5068e : mi_ mJ0_charAt_5068e := ⟨tb_of (tk_2 _ (List.mem_of_getElem? (i := 190) rfl)) rfl, tb_of (tk_2 _ (List.mem_of_getElem? (i := 191) rfl)) rfl⟩
abbrev mJ0_coder_7d493 : md_T := (yJ0_coder_7d493, cJ0_coder_7d493, 1, (some .byte))
theorem okJ0_coder_7d493 : mk_ mJ0_coder_7d493 0 := ⟨tb_of (tk_2 _ (List.mem_of_getElem? (i := 186) rfl)) rfl, iniJ0, by decide +kernel, by decide⟩
theorem in_J0_coder_7d493 : mi_ mJ0_coder_7d493 := ⟨tb_of (tk_2 _ (List.mem_of_getElem? (i := 184) rfl)) rfl, tb_of (tk_2 _ (List.mem_of_getElem? (i := 185) rfl)) rfl⟩
abbrev mJ0_isLatin1_aae02 : md_T := (yJ0_isLatin1_aae02, cJ0_isLatin1_aae02, 1, (some .boolean))
theorem okJ0_isLatin1_aae02 : mk_ mJ0_isLatin1_aae02 0 := ⟨tb_of (tk_2 _ (List.mem_of_getElem? (i := 196) rfl)) rfl, iniJ0, by decide +kernel, by decide⟩
theorem in_J0_isLatin1_aae02 : mi_ mJ0_isLatin1_aae02 := ⟨tb_of (tk_2 _ (List.mem_of_getElem? (i := 194) rfl)) rfl, tb_of (tk_2 _ (List.mem_of_getElem? (i := 195) rfl)) rfl⟩
abbrev mJ0_checkIndex_df160 : md_T := (yJ0_checkIndex_df160, cJ0_checkIndex_df160, 2, none)
theorem okJ0_checkIndex_df160 : mk_ mJ0_checkIndex_df160 2 := ⟨tb_of (tk_2 _ (List.mem_of_getElem? (i := 202) rfl)) rfl, iniJ0, by decide +kernel, by decide⟩
theorem stJ0_checkIndex_df160 : Cond.static yJ0_checkIndex_df160 ∈ tb_ := tb_of (tk_2 _ (List.mem_of_getElem? (i := 201) rfl)) rfl
abbrev mJ1_charAt_3b067 : md_T := (yJ1_charAt_3b067, cJ1_charAt_3b067, 2, (some .char))
theorem okJ1_charAt_3b067 : mk_ mJ1_charAt_3b067 2 := ⟨tb_of (tk_2 _ (List.mem_of_getElem? (i := 199) rfl)) rfl, iniJ1, by decide +kernel, by decide⟩
theorem stJ1_charAt_3b067 : Cond.static yJ1_charAt_3b067 ∈ tb_ := tb_of (tk_2 _ (List.mem_of_getElem? (i := 198) rfl)) rfl
abbrev mJ2_getChar_3b067 : md_T := (yJ2_getChar_3b067, cJ2_getChar_3b067, 2, (some .char))
theorem okJ2_getChar_3b067 : mk_ mJ2_getChar_3b067 2 := ⟨tb_of (tk_2 _ (List.mem_of_getElem? (i := 220) rfl)) rfl, iniJ2, by decide +kernel, by decide⟩
theorem stJ2_getChar_3b067 : Cond.static yJ2_getChar_3b067 ∈ tb_ := tb_of (tk_2 _ (List.mem_of_getElem? (i := 219) rfl)) rfl
abbrev mJ2_length_9d52b : md_T := (yJ2_length_9d52b, cJ2_length_9d52b, 1, (some .int))
theorem okJ2_length_9d52b : mk_ mJ2_length_9d52b 1 := ⟨tb_of (tk_2 _ (List.mem_of_getElem? (i := 216) rfl)) rfl, iniJ2, by decide +kernel, by decide⟩
theorem stJ2_length_9d52b : Cond.static yJ2_length_9d52b ∈ tb_ := tb_of (tk_2 _ (List.mem_of_getElem? (i := 215) rfl)) rfl
abbrev mJ2_charAt_3b067 : md_T := (yJ2_charAt_3b067, cJ2_charAt_3b067, 2, (some .char))
theorem okJ2_charAt_3b067 : mk_ mJ2_charAt_3b067 2 := ⟨tb_of (tk_2 _ (List.mem_of_getElem? (i := 210) rfl)) rfl, iniJ2, by decide +kernel, by decide⟩
theorem stJ2_charAt_3b067 : Cond.static yJ2_charAt_3b067 ∈ tb_ := tb_of (tk_2 _ (List.mem_of_getElem? (i := 209) rfl)) rfl
abbrev mJ2_checkIndex_2214a : md_T := (yJ2_checkIndex_2214a, cJ2_checkIndex_2214a, 2, none)
theorem okJ2_checkIndex_2214a : mk_ mJ2_checkIndex_2214a 2 := ⟨tb_of (tk_2 _ (List.mem_of_getElem? (i := 213) rfl)) rfl, iniJ2, by decide +kernel, by decide⟩
theorem stJ2_checkIndex_2214a : Cond.static yJ2_checkIndex_2214a ∈ tb_ := tb_of (tk_2 _ (List.mem_of_getElem? (i := 212) rfl)) rfl
abbrev mJ7_fill_d0a16 : md_T := (yJ7_fill_d0a16, cJ7_fill_d0a16, 5, none)
theorem okJ7_fill_d0a16 : mk_ mJ7_fill_d0a16 2 := ⟨tb_of (tk_4 _ (List.mem_of_getElem? (i := 167) rfl)) rfl, iniJ7, by decide +kernel, by decide⟩
theorem stJ7_fill_d0a16 : Cond.static yJ7_fill_d0a16 ∈ tb_ := tb_of (tk_4 _ (List.mem_of_getElem? (i := 166) rfl)) rfl
abbrev mJ7_fill_53178 : md_T := (yJ7_fill_53178, cJ7_fill_53178, 4, none)
theorem okJ7_fill_53178 : mk_ mJ7_fill_53178 2 := ⟨tb_of (tk_3 _ (List.mem_of_getElem? (i := 26) rfl)) rfl, iniJ7, by decide +kernel, by decide⟩
theorem stJ7_fill_53178 : Cond.static yJ7_fill_53178 ∈ tb_ := tb_of (tk_3 _ (List.mem_of_getElem? (i := 25) rfl)) rfl
abbrev mJ3_checkIndex_8e157 : md_T := (yJ3_checkIndex_8e157, cJ3_checkIndex_8e157, 3, (some .int))
theorem okJ3_checkIndex_8e157 : mk_ mJ3_checkIndex_8e157 3 := ⟨tb_of (tk_2 _ (List.mem_of_getElem? (i := 207) rfl)) rfl, iniJ3, by decide +kernel, by decide⟩
theorem stJ3_checkIndex_8e157 : Cond.static yJ3_checkIndex_8e157 ∈ tb_ := tb_of (tk_2 _ (List.mem_of_getElem? (i := 206) rfl)) rfl
theorem ml_L_9 : Cond.methodLink RL 9 yX10_init ∈ tb_ := tb_of (tk_1 _ (List.mem_of_getElem? (i := 22) rfl)) rfl
theorem fl_X7_9 : fl_ RX7 9 TX7 0 := Or.inl (tb_of (tk_1 _ (List.mem_of_getElem? (i := 40) rfl)) rfl)
theorem fl_X7_24 : fl_ RX7 24 TX7 1 := Or.inl (tb_of (tk_1 _ (List.mem_of_getElem? (i := 41) rfl)) rfl)
theorem fl_X10_83 : fl_ RX10 83 TX7 1 := Or.inr ⟨_, nb_of (tk_1 _ (List.mem_of_getElem? (i := 42) rfl)) rfl⟩
theorem fl_X7_15 : fl_ RX7 15 TX7 2 := Or.inl (tb_of (tk_1 _ (List.mem_of_getElem? (i := 43) rfl)) rfl)
theorem fl_X4_121 : fl_ RX4 121 TX7 2 := Or.inr ⟨_, nb_of (tk_1 _ (List.mem_of_getElem? (i := 44) rfl)) rfl⟩
theorem fl_X7_18 : fl_ RX7 18 TX7 3 := Or.inl (tb_of (tk_1 _ (List.mem_of_getElem? (i := 45) rfl)) rfl)
theorem fl_X4_125 : fl_ RX4 125 TX7 3 := Or.inr ⟨_, nb_of (tk_1 _ (List.mem_of_getElem? (i := 46) rfl)) rfl⟩
theorem fl_X7_21 : fl_ RX7 21 TX7 4 := Or.inl (tb_of (tk_1 _ (List.mem_of_getElem? (i := 47) rfl)) rfl)
theorem fl_X4_131 : fl_ RX4 131 TX7 4 := Or.inr ⟨_, nb_of (tk_1 _ (List.mem_of_getElem? (i := 48) rfl)) rfl⟩
theorem fl_X7_28 : fl_ RX7 28 TX7 5 := Or.inl (tb_of (tk_1 _ (List.mem_of_getElem? (i := 49) rfl)) rfl)
theorem fl_X4_118 : fl_ RX4 118 TX7 5 := Or.inr ⟨_, nb_of (tk_1 _ (List.mem_of_getElem? (i := 50) rfl)) rfl⟩
theorem fl_X5_11 : fl_ RX5 11 TX5 0 := Or.inl (tb_of (tk_1 _ (List.mem_of_getElem? (i := 71) rfl)) rfl)
theorem fl_X5_15 : fl_ RX5 15 TX5 1 := Or.inl (tb_of (tk_1 _ (List.mem_of_getElem? (i := 72) rfl)) rfl)
theorem fl_X5_18 : fl_ RX5 18 TX5 2 := Or.inl (tb_of (tk_1 _ (List.mem_of_getElem? (i := 73) rfl)) rfl)
theorem fl_X5_21 : fl_ RX5 21 TX5 3 := Or.inl (tb_of (tk_1 _ (List.mem_of_getElem? (i := 74) rfl)) rfl)
theorem fl_X5_24 : fl_ RX5 24 TX5 4 := Or.inl (tb_of (tk_1 _ (List.mem_of_getElem? (i := 75) rfl)) rfl)
theorem fl_X5_27 : fl_ RX5 27 TX5 5 := Or.inl (tb_of (tk_1 _ (List.mem_of_getElem? (i := 76) rfl)) rfl)
theorem fl_X5_34 : fl_ RX5 34 TX5 6 := Or.inl (tb_of (tk_1 _ (List.mem_of_getElem? (i := 77) rfl)) rfl)
theorem fl_X9_31 : fl_ RX9 31 TX5 6 := Or.inr ⟨_, nb_of (tk_1 _ (List.mem_of_getElem? (i := 78) rfl)) rfl⟩
theorem fl_X4_83 : fl_ RX4 83 TX5 6 := Or.inr ⟨_, nb_of (tk_1 _ (List.mem_of_getElem? (i := 79) rfl)) rfl⟩
theorem fl_X10_119 : fl_ RX10 119 TX5 6 := Or.inr ⟨_, nb_of (tk_1 _ (List.mem_of_getElem? (i := 80) rfl)) rfl⟩
theorem fl_X5_30 : fl_ RX5 30 TX5 7 := Or.inl (tb_of (tk_1 _ (List.mem_of_getElem? (i := 81) rfl)) rfl)
theorem fl_X4_61 : fl_ RX4 61 TX5 7 := Or.inr ⟨_, nb_of (tk_1 _ (List.mem_of_getElem? (i := 82) rfl)) rfl⟩
theorem fl_X10_122 : fl_ RX10 122 TX5 7 := Or.inr ⟨_, nb_of (tk_1 _ (List.mem_of_getElem? (i := 83) rfl)) rfl⟩
theorem fl_X5_37 : fl_ RX5 37 TX5 8 := Or.inl (tb_of (tk_1 _ (List.mem_of_getElem? (i := 84) rfl)) rfl)
theorem fl_X4_58 : fl_ RX4 58 TX5 8 := Or.inr ⟨_, nb_of (tk_1 _ (List.mem_of_getElem? (i := 85) rfl)) rfl⟩
theorem fl_X10_125 : fl_ RX10 125 TX5 8 := Or.inr ⟨_, nb_of (tk_1 _ (List.mem_of_getElem? (i := 86) rfl)) rfl⟩
theorem fl_X4_12 : fl_ RX4 12 TX4 0 := Or.inl (tb_of (tk_1 _ (List.mem_of_getElem? (i := 106) rfl)) rfl)
theorem fl_X10_79 : fl_ RX10 79 TX4 0 := Or.inr ⟨_, nb_of (tk_1 _ (List.mem_of_getElem? (i := 107) rfl)) rfl⟩
theorem fl_X4_21 : fl_ RX4 21 TX4 1 := Or.inl (tb_of (tk_1 _ (List.mem_of_getElem? (i := 108) rfl)) rfl)
theorem fl_X4_77 : fl_ RX4 77 TX4 2 := Or.inl (tb_of (tk_1 _ (List.mem_of_getElem? (i := 109) rfl)) rfl)
theorem fl_X4_32 : fl_ RX4 32 TX4 3 := Or.inl (tb_of (tk_1 _ (List.mem_of_getElem? (i := 110) rfl)) rfl)
theorem fl_X4_128 : fl_ RX4 128 TX4 4 := Or.inl (tb_of (tk_1 _ (List.mem_of_getElem? (i := 111) rfl)) rfl)
theorem fl_X4_115 : fl_ RX4 115 TX4 5 := Or.inl (tb_of (tk_1 _ (List.mem_of_getElem? (i := 112) rfl)) rfl)
theorem fl_X4_67 : fl_ RX4 67 TX4 6 := Or.inl (tb_of (tk_1 _ (List.mem_of_getElem? (i := 113) rfl)) rfl)
theorem fl_X4_71 : fl_ RX4 71 TX4 7 := Or.inl (tb_of (tk_1 _ (List.mem_of_getElem? (i := 114) rfl)) rfl)
theorem fl_X4_28 : fl_ RX4 28 TX4 8 := Or.inl (tb_of (tk_1 _ (List.mem_of_getElem? (i := 115) rfl)) rfl)
theorem fl_X10_103 : fl_ RX10 103 TX4 8 := Or.inr ⟨_, nb_of (tk_1 _ (List.mem_of_getElem? (i := 116) rfl)) rfl⟩
theorem fl_X4_74 : fl_ RX4 74 TX4 9 := Or.inl (tb_of (tk_1 _ (List.mem_of_getElem? (i := 117) rfl)) rfl)
theorem fl_X10_109 : fl_ RX10 109 TX4 9 := Or.inr ⟨_, nb_of (tk_1 _ (List.mem_of_getElem? (i := 118) rfl)) rfl⟩
theorem fl_X4_35 : fl_ RX4 35 TX4 10 := Or.inl (tb_of (tk_1 _ (List.mem_of_getElem? (i := 119) rfl)) rfl)
theorem fl_X10_116 : fl_ RX10 116 TX4 10 := Or.inr ⟨_, nb_of (tk_1 _ (List.mem_of_getElem? (i := 120) rfl)) rfl⟩
theorem fl_X8_9 : fl_ RX8 9 TX8 0 := Or.inl (tb_of (tk_1 _ (List.mem_of_getElem? (i := 150) rfl)) rfl)
theorem fl_X8_15 : fl_ RX8 15 TX8 1 := Or.inl (tb_of (tk_1 _ (List.mem_of_getElem? (i := 151) rfl)) rfl)
theorem fl_X1_25 : fl_ RX1 25 TX8 1 := Or.inr ⟨_, nb_of (tk_1 _ (List.mem_of_getElem? (i := 152) rfl)) rfl⟩
theorem fl_X2_27 : fl_ RX2 27 TX8 1 := Or.inr ⟨_, nb_of (tk_1 _ (List.mem_of_getElem? (i := 153) rfl)) rfl⟩
theorem fl_X3_30 : fl_ RX3 30 TX8 1 := Or.inr ⟨_, nb_of (tk_1 _ (List.mem_of_getElem? (i := 154) rfl)) rfl⟩
theorem fl_X0_34 : fl_ RX0 34 TX8 1 := Or.inr ⟨_, nb_of (tk_1 _ (List.mem_of_getElem? (i := 155) rfl)) rfl⟩
theorem fl_X10_151 : fl_ RX10 151 TX8 1 := Or.inr ⟨_, nb_of (tk_1 _ (List.mem_of_getElem? (i := 156) rfl)) rfl⟩
theorem fl_X10_312 : fl_ RX10 312 TX8 2 := Or.inr ⟨_, nb_of (tk_1 _ (List.mem_of_getElem? (i := 157) rfl)) rfl⟩
theorem fl_X6_9 : fl_ RX6 9 TX6 0 := Or.inl (tb_of (tk_1 _ (List.mem_of_getElem? (i := 173) rfl)) rfl)
theorem fl_X6_23 : fl_ RX6 23 TX6 1 := Or.inl (tb_of (tk_1 _ (List.mem_of_getElem? (i := 174) rfl)) rfl)
theorem fl_X6_15 : fl_ RX6 15 TX6 2 := Or.inl (tb_of (tk_1 _ (List.mem_of_getElem? (i := 175) rfl)) rfl)
theorem fl_X10_367 : fl_ RX10 367 TX6 2 := Or.inr ⟨_, nb_of (tk_1 _ (List.mem_of_getElem? (i := 176) rfl)) rfl⟩
theorem fl_X9_11 : fl_ RX9 11 TX9 0 := Or.inl (tb_of (tk_1 _ (List.mem_of_getElem? (i := 190) rfl)) rfl)
theorem fl_X9_17 : fl_ RX9 17 TX9 1 := Or.inl (tb_of (tk_1 _ (List.mem_of_getElem? (i := 191) rfl)) rfl)
theorem fl_X10_173 : fl_ RX10 173 TX9 1 := Or.inr ⟨_, nb_of (tk_1 _ (List.mem_of_getElem? (i := 192) rfl)) rfl⟩
theorem fl_X9_38 : fl_ RX9 38 TX9 2 := Or.inl (tb_of (tk_1 _ (List.mem_of_getElem? (i := 193) rfl)) rfl)
theorem fl_X10_176 : fl_ RX10 176 TX9 2 := Or.inr ⟨_, nb_of (tk_1 _ (List.mem_of_getElem? (i := 194) rfl)) rfl⟩
theorem fl_X9_21 : fl_ RX9 21 TX9 3 := Or.inl (tb_of (tk_1 _ (List.mem_of_getElem? (i := 195) rfl)) rfl)
theorem fl_X10_179 : fl_ RX10 179 TX9 3 := Or.inr ⟨_, nb_of (tk_1 _ (List.mem_of_getElem? (i := 196) rfl)) rfl⟩
theorem fl_X9_24 : fl_ RX9 24 TX9 4 := Or.inl (tb_of (tk_1 _ (List.mem_of_getElem? (i := 197) rfl)) rfl)
theorem fl_X10_182 : fl_ RX10 182 TX9 4 := Or.inr ⟨_, nb_of (tk_1 _ (List.mem_of_getElem? (i := 198) rfl)) rfl⟩
theorem fl_X9_41 : fl_ RX9 41 TX9 5 := Or.inl (tb_of (tk_1 _ (List.mem_of_getElem? (i := 199) rfl)) rfl)
theorem fl_X3_9 : fl_ RX3 9 TX3 0 := Or.inl (tb_of (tk_1 _ (List.mem_of_getElem? (i := 219) rfl)) rfl)
theorem fl_X10_208 : fl_ RX10 208 TX3 0 := Or.inr ⟨_, nb_of (tk_1 _ (List.mem_of_getElem? (i := 220) rfl)) rfl⟩
theorem fl_X3_18 : fl_ RX3 18 TX3 1 := Or.inl (tb_of (tk_1 _ (List.mem_of_getElem? (i := 221) rfl)) rfl)
theorem fl_X10_211 : fl_ RX10 211 TX3 1 := Or.inr ⟨_, nb_of (tk_1 _ (List.mem_of_getElem? (i := 222) rfl)) rfl⟩
theorem fl_X3_21 : fl_ RX3 21 TX3 2 := Or.inl (tb_of (tk_1 _ (List.mem_of_getElem? (i := 223) rfl)) rfl)
theorem fl_X10_214 : fl_ RX10 214 TX3 2 := Or.inr ⟨_, nb_of (tk_1 _ (List.mem_of_getElem? (i := 224) rfl)) rfl⟩
theorem fl_X3_24 : fl_ RX3 24 TX3 3 := Or.inl (tb_of (tk_1 _ (List.mem_of_getElem? (i := 225) rfl)) rfl)
theorem fl_X10_217 : fl_ RX10 217 TX3 3 := Or.inr ⟨_, nb_of (tk_1 _ (List.mem_of_getElem? (i := 226) rfl)) rfl⟩
theorem fl_X3_27 : fl_ RX3 27 TX3 4 := Or.inl (tb_of (tk_1 _ (List.mem_of_getElem? (i := 227) rfl)) rfl)
theorem fl_X10_220 : fl_ RX10 220 TX3 4 := Or.inr ⟨_, nb_of (tk_1 _ (List.mem_of_getElem? (i := 228) rfl)) rfl⟩
theorem fl_X3_15 : fl_ RX3 15 TX3 5 := Or.inl (tb_of (tk_1 _ (List.mem_of_getElem? (i := 229) rfl)) rfl)
theorem fl_X10_236 : fl_ RX10 236 TX3 5 := Or.inr ⟨_, nb_of (tk_1 _ (List.mem_of_getElem? (i := 230) rfl)) rfl⟩
theorem fl_X2_9 : fl_ RX2 9 TX2 0 := Or.inl (tb_of (tk_2 _ (List.mem_of_getElem? (i := 10) rfl)) rfl)
theorem fl_X10_249 : fl_ RX10 249 TX2 0 := Or.inr ⟨_, nb_of (tk_2 _ (List.mem_of_getElem? (i := 11) rfl)) rfl⟩
theorem fl_X2_15 : fl_ RX2 15 TX2 1 := Or.inl (tb_of (tk_2 _ (List.mem_of_getElem? (i := 12) rfl)) rfl)
theorem fl_X10_252 : fl_ RX10 252 TX2 1 := Or.inr ⟨_, nb_of (tk_2 _ (List.mem_of_getElem? (i := 13) rfl)) rfl⟩
theorem fl_X2_18 : fl_ RX2 18 TX2 2 := Or.inl (tb_of (tk_2 _ (List.mem_of_getElem? (i := 14) rfl)) rfl)
theorem fl_X10_255 : fl_ RX10 255 TX2 2 := Or.inr ⟨_, nb_of (tk_2 _ (List.mem_of_getElem? (i := 15) rfl)) rfl⟩
theorem fl_X2_21 : fl_ RX2 21 TX2 3 := Or.inl (tb_of (tk_2 _ (List.mem_of_getElem? (i := 16) rfl)) rfl)
theorem fl_X10_258 : fl_ RX10 258 TX2 3 := Or.inr ⟨_, nb_of (tk_2 _ (List.mem_of_getElem? (i := 17) rfl)) rfl⟩
theorem fl_X2_24 : fl_ RX2 24 TX2 4 := Or.inl (tb_of (tk_2 _ (List.mem_of_getElem? (i := 18) rfl)) rfl)
theorem fl_X10_261 : fl_ RX10 261 TX2 4 := Or.inr ⟨_, nb_of (tk_2 _ (List.mem_of_getElem? (i := 19) rfl)) rfl⟩
theorem fl_X0_9 : fl_ RX0 9 TX0 0 := Or.inl (tb_of (tk_2 _ (List.mem_of_getElem? (i := 37) rfl)) rfl)
theorem fl_X0_15 : fl_ RX0 15 TX0 1 := Or.inl (tb_of (tk_2 _ (List.mem_of_getElem? (i := 38) rfl)) rfl)
theorem fl_X0_19 : fl_ RX0 19 TX0 2 := Or.inl (tb_of (tk_2 _ (List.mem_of_getElem? (i := 39) rfl)) rfl)
theorem fl_X10_267 : fl_ RX10 267 TX0 2 := Or.inr ⟨_, nb_of (tk_2 _ (List.mem_of_getElem? (i := 40) rfl)) rfl⟩
theorem fl_X0_22 : fl_ RX0 22 TX0 3 := Or.inl (tb_of (tk_2 _ (List.mem_of_getElem? (i := 41) rfl)) rfl)
theorem fl_X10_283 : fl_ RX10 283 TX0 3 := Or.inr ⟨_, nb_of (tk_2 _ (List.mem_of_getElem? (i := 42) rfl)) rfl⟩
theorem fl_X0_25 : fl_ RX0 25 TX0 4 := Or.inl (tb_of (tk_2 _ (List.mem_of_getElem? (i := 43) rfl)) rfl)
theorem fl_X10_270 : fl_ RX10 270 TX0 4 := Or.inr ⟨_, nb_of (tk_2 _ (List.mem_of_getElem? (i := 44) rfl)) rfl⟩
theorem fl_X0_28 : fl_ RX0 28 TX0 5 := Or.inl (tb_of (tk_2 _ (List.mem_of_getElem? (i := 45) rfl)) rfl)
theorem fl_X10_273 : fl_ RX10 273 TX0 5 := Or.inr ⟨_, nb_of (tk_2 _ (List.mem_of_getElem? (i := 46) rfl)) rfl⟩
theorem fl_X1_9 : fl_ RX1 9 TX1 0 := Or.inl (tb_of (tk_2 _ (List.mem_of_getElem? (i := 66) rfl)) rfl)
theorem fl_X1_15 : fl_ RX1 15 TX1 1 := Or.inl (tb_of (tk_2 _ (List.mem_of_getElem? (i := 67) rfl)) rfl)
theorem fl_X1_35 : fl_ RX1 35 TX1 2 := Or.inl (tb_of (tk_2 _ (List.mem_of_getElem? (i := 68) rfl)) rfl)
theorem fl_X10_299 : fl_ RX10 299 TX1 2 := Or.inr ⟨_, nb_of (tk_2 _ (List.mem_of_getElem? (i := 69) rfl)) rfl⟩
theorem fl_X1_38 : fl_ RX1 38 TX1 3 := Or.inl (tb_of (tk_2 _ (List.mem_of_getElem? (i := 70) rfl)) rfl)
theorem fl_X10_302 : fl_ RX10 302 TX1 3 := Or.inr ⟨_, nb_of (tk_2 _ (List.mem_of_getElem? (i := 71) rfl)) rfl⟩
theorem fl_X1_41 : fl_ RX1 41 TX1 4 := Or.inl (tb_of (tk_2 _ (List.mem_of_getElem? (i := 72) rfl)) rfl)
theorem fl_X10_305 : fl_ RX10 305 TX1 4 := Or.inr ⟨_, nb_of (tk_2 _ (List.mem_of_getElem? (i := 73) rfl)) rfl⟩
theorem fl_X10_10 : fl_ RX10 10 TX10 0 := Or.inl (tb_of (tk_2 _ (List.mem_of_getElem? (i := 88) rfl)) rfl)
theorem fl_X10_19 : fl_ RX10 19 TX10 1 := Or.inl (tb_of (tk_2 _ (List.mem_of_getElem? (i := 89) rfl)) rfl)
theorem fl_X10_23 : fl_ RX10 23 TX10 2 := Or.inl (tb_of (tk_2 _ (List.mem_of_getElem? (i := 90) rfl)) rfl)
theorem fl_X10_26 : fl_ RX10 26 TX10 3 := Or.inl (tb_of (tk_2 _ (List.mem_of_getElem? (i := 91) rfl)) rfl)
theorem fl_X10_33 : fl_ RX10 33 TX10 4 := Or.inl (tb_of (tk_2 _ (List.mem_of_getElem? (i := 92) rfl)) rfl)
theorem fl_X10_40 : fl_ RX10 40 TX10 5 := Or.inl (tb_of (tk_2 _ (List.mem_of_getElem? (i := 93) rfl)) rfl)
theorem fl_X10_47 : fl_ RX10 47 TX10 6 := Or.inl (tb_of (tk_2 _ (List.mem_of_getElem? (i := 94) rfl)) rfl)
theorem fl_X10_54 : fl_ RX10 54 TX10 7 := Or.inl (tb_of (tk_2 _ (List.mem_of_getElem? (i := 95) rfl)) rfl)
theorem fl_X10_61 : fl_ RX10 61 TX10 8 := Or.inl (tb_of (tk_2 _ (List.mem_of_getElem? (i := 96) rfl)) rfl)
theorem fl_X10_68 : fl_ RX10 68 TX10 9 := Or.inl (tb_of (tk_2 _ (List.mem_of_getElem? (i := 97) rfl)) rfl)
theorem fl_X10_75 : fl_ RX10 75 TX10 10 := Or.inl (tb_of (tk_2 _ (List.mem_of_getElem? (i := 98) rfl)) rfl)
theorem fl_X10_106 : fl_ RX10 106 TX10 11 := Or.inl (tb_of (tk_2 _ (List.mem_of_getElem? (i := 99) rfl)) rfl)
theorem fl_X10_351 : fl_ RX10 351 TX10 12 := Or.inl (tb_of (tk_2 _ (List.mem_of_getElem? (i := 100) rfl)) rfl)
theorem ml_L_15 : Cond.methodLink RL 15 yX10_feed ∈ tb_ := tb_of (tk_2 _ (List.mem_of_getElem? (i := 128) rfl)) rfl
theorem ml_X10_89 : Cond.methodLink RX10 89 yX7_append ∈ tb_ := tb_of (tk_2 _ (List.mem_of_getElem? (i := 132) rfl)) rfl
theorem ml_L_20 : Cond.methodLink RL 20 yX10_end ∈ tb_ := tb_of (tk_2 _ (List.mem_of_getElem? (i := 136) rfl)) rfl
theorem ml_X10_93 : Cond.methodLink RX10 93 yX10_within ∈ tb_ := tb_of (tk_2 _ (List.mem_of_getElem? (i := 140) rfl)) rfl
theorem ml_L_25 : Cond.methodLink RL 25 yX10_text ∈ tb_ := tb_of (tk_2 _ (List.mem_of_getElem? (i := 143) rfl)) rfl
theorem ml_X10_97 : Cond.methodLink RX10 97 yX7_split ∈ tb_ := tb_of (tk_2 _ (List.mem_of_getElem? (i := 147) rfl)) rfl
theorem ml_X7_31 : Cond.methodLink RX7 31 yX7_behindAll ∈ tb_ := tb_of (tk_2 _ (List.mem_of_getElem? (i := 151) rfl)) rfl
theorem ml_X7_50 : Cond.methodLink RX7 50 yX7_byteAt ∈ tb_ := tb_of (tk_2 _ (List.mem_of_getElem? (i := 155) rfl)) rfl
theorem ml_X7_35 : Cond.methodLink RX7 35 yX7_behindToken ∈ tb_ := tb_of (tk_2 _ (List.mem_of_getElem? (i := 159) rfl)) rfl
theorem ml_X7_53 : Cond.methodLink RX7 53 yJ9_max_7cf53 ∈ tb_ := tb_of (tk_2 _ (List.mem_of_getElem? (i := 163) rfl)) rfl
theorem ml_X7_39 : Cond.methodLink RX7 39 yX7_tokenBetween ∈ tb_ := tb_of (tk_2 _ (List.mem_of_getElem? (i := 166) rfl)) rfl
theorem ml_X7_58 : Cond.methodLink RX7 58 yX7_nameBetween ∈ tb_ := tb_of (tk_2 _ (List.mem_of_getElem? (i := 170) rfl)) rfl
theorem ml_X7_63 : Cond.methodLink RX7 63 yX7_spells ∈ tb_ := tb_of (tk_2 _ (List.mem_of_getElem? (i := 175) rfl)) rfl
theorem ml_X7_98 : Cond.methodLink RX7 98 yJ0_length_8abf5 ∈ tb_ := tb_of (tk_2 _ (List.mem_of_getElem? (i := 179) rfl)) rfl
theorem ml_J0_335 : Cond.methodLink RJ0 335 yJ0_coder_7d493 ∈ tb_ := tb_of (tk_2 _ (List.mem_of_getElem? (i := 183) rfl)) rfl
theorem ml_X7_104 : Cond.methodLink RX7 104 yJ0_charAt_5068e ∈ tb_ := tb_of (tk_2 _ (List.mem_of_getElem? (i := 189) rfl)) rfl
theorem ml_J0_492 : Cond.methodLink RJ0 492 yJ0_isLatin1_aae02 ∈ tb_ := tb_of (tk_2 _ (List.mem_of_getElem? (i := 193) rfl)) rfl
theorem ml_J0_495 : Cond.methodLink RJ0 495 yJ1_charAt_3b067 ∈ tb_ := tb_of (tk_2 _ (List.mem_of_getElem? (i := 197) rfl)) rfl
theorem ml_J1_9 : Cond.methodLink RJ1 9 yJ0_checkIndex_df160 ∈ tb_ := tb_of (tk_2 _ (List.mem_of_getElem? (i := 200) rfl)) rfl
theorem ml_J0_1059 : Cond.methodLink RJ0 1059 yJ3_checkIndex_8e157 ∈ tb_ := tb_of (tk_2 _ (List.mem_of_getElem? (i := 205) rfl)) rfl
theorem ml_J0_498 : Cond.methodLink RJ0 498 yJ2_charAt_3b067 ∈ tb_ := tb_of (tk_2 _ (List.mem_of_getElem? (i := 208) rfl)) rfl
theorem ml_J2_67 : Cond.methodLink RJ2 67 yJ2_checkIndex_2214a ∈ tb_ := tb_of (tk_2 _ (List.mem_of_getElem? (i := 211) rfl)) rfl
theorem ml_J2_48 : Cond.methodLink RJ2 48 yJ2_length_9d52b ∈ tb_ := tb_of (tk_2 _ (List.mem_of_getElem? (i := 214) rfl)) rfl
theorem ml_J2_414 : Cond.methodLink RJ2 414 yJ0_checkIndex_df160 ∈ tb_ := tb_of (tk_2 _ (List.mem_of_getElem? (i := 217) rfl)) rfl
theorem ml_J2_71 : Cond.methodLink RJ2 71 yJ2_getChar_3b067 ∈ tb_ := tb_of (tk_2 _ (List.mem_of_getElem? (i := 218) rfl)) rfl
theorem ml_X7_79 : Cond.methodLink RX7 79 yX7_termBetween ∈ tb_ := tb_of (tk_2 _ (List.mem_of_getElem? (i := 233) rfl)) rfl
theorem ml_X7_43 : Cond.methodLink RX7 43 yX7_valueBetween ∈ tb_ := tb_of (tk_3 _ (List.mem_of_getElem? (i := 4) rfl)) rfl
theorem ml_X7_46 : Cond.methodLink RX7 46 yX7_addToken ∈ tb_ := tb_of (tk_3 _ (List.mem_of_getElem? (i := 8) rfl)) rfl
theorem ml_X10_100 : Cond.methodLink RX10 100 yX4_readAll ∈ tb_ := tb_of (tk_3 _ (List.mem_of_getElem? (i := 12) rfl)) rfl
theorem ml_X4_25 : Cond.methodLink RX4 25 yX4_begin ∈ tb_ := tb_of (tk_3 _ (List.mem_of_getElem? (i := 16) rfl)) rfl
theorem ml_X4_64 : Cond.methodLink RX4 64 yX5_forget ∈ tb_ := tb_of (tk_3 _ (List.mem_of_getElem? (i := 20) rfl)) rfl
theorem ml_X5_40 : Cond.methodLink RX5 40 yJ7_fill_53178 ∈ tb_ := tb_of (tk_3 _ (List.mem_of_getElem? (i := 24) rfl)) rfl
theorem ml_X4_80 : Cond.methodLink RX4 80 yX4_advance ∈ tb_ := tb_of (tk_3 _ (List.mem_of_getElem? (i := 27) rfl)) rfl
theorem ml_X4_38 : Cond.methodLink RX4 38 yX4_readState ∈ tb_ := tb_of (tk_3 _ (List.mem_of_getElem? (i := 31) rfl)) rfl
theorem ml_X4_50 : Cond.methodLink RX4 50 yX4_refuse ∈ tb_ := tb_of (tk_3 _ (List.mem_of_getElem? (i := 35) rfl)) rfl
theorem ml_X4_86 : Cond.methodLink RX4 86 yX4_readBranch ∈ tb_ := tb_of (tk_3 _ (List.mem_of_getElem? (i := 39) rfl)) rfl
theorem ml_X4_93 : Cond.methodLink RX4 93 yX4_readCondition ∈ tb_ := tb_of (tk_3 _ (List.mem_of_getElem? (i := 43) rfl)) rfl
theorem ml_X4_108 : Cond.methodLink RX4 108 yX4_greatestOf ∈ tb_ := tb_of (tk_3 _ (List.mem_of_getElem? (i := 47) rfl)) rfl
theorem ml_X4_96 : Cond.methodLink RX4 96 yX4_takeNumber ∈ tb_ := tb_of (tk_3 _ (List.mem_of_getElem? (i := 50) rfl)) rfl
theorem ml_X4_111 : Cond.methodLink RX4 111 yX5_addTerm ∈ tb_ := tb_of (tk_3 _ (List.mem_of_getElem? (i := 54) rfl)) rfl
theorem ml_X5_50 : Cond.methodLink RX5 50 yX5_termCount ∈ tb_ := tb_of (tk_3 _ (List.mem_of_getElem? (i := 58) rfl)) rfl
theorem ml_X4_90 : Cond.methodLink RX4 90 yX4_take ∈ tb_ := tb_of (tk_3 _ (List.mem_of_getElem? (i := 62) rfl)) rfl
theorem ml_X4_100 : Cond.methodLink RX4 100 yX5_addBranch ∈ tb_ := tb_of (tk_3 _ (List.mem_of_getElem? (i := 66) rfl)) rfl
theorem ml_X4_41 : Cond.methodLink RX4 41 yX4_readKeep ∈ tb_ := tb_of (tk_3 _ (List.mem_of_getElem? (i := 70) rfl)) rfl
theorem ml_X4_104 : Cond.methodLink RX4 104 yX5_termCount ∈ tb_ := tb_of (tk_3 _ (List.mem_of_getElem? (i := 74) rfl)) rfl
theorem ml_X4_44 : Cond.methodLink RX4 44 yX4_readDepth ∈ tb_ := tb_of (tk_3 _ (List.mem_of_getElem? (i := 75) rfl)) rfl
theorem ml_X4_47 : Cond.methodLink RX4 47 yX4_readAhead ∈ tb_ := tb_of (tk_3 _ (List.mem_of_getElem? (i := 79) rfl)) rfl
theorem ml_X4_54 : Cond.methodLink RX4 54 yX5_leadsNowhere ∈ tb_ := tb_of (tk_3 _ (List.mem_of_getElem? (i := 83) rfl)) rfl
theorem ml_X5_46 : Cond.methodLink RX5 46 yX5_branchCount ∈ tb_ := tb_of (tk_3 _ (List.mem_of_getElem? (i := 87) rfl)) rfl
theorem ml_X5_53 : Cond.methodLink RX5 53 yX5_branchPlace ∈ tb_ := tb_of (tk_3 _ (List.mem_of_getElem? (i := 91) rfl)) rfl
theorem ml_X5_57 : Cond.methodLink RX5 57 yX5_targetOf ∈ tb_ := tb_of (tk_3 _ (List.mem_of_getElem? (i := 95) rfl)) rfl
theorem ml_X10_112 : Cond.methodLink RX10 112 yX4_exchange ∈ tb_ := tb_of (tk_3 _ (List.mem_of_getElem? (i := 99) rfl)) rfl
theorem ml_L_30 : Cond.methodLink RL 30 yX10_fault ∈ tb_ := tb_of (tk_3 _ (List.mem_of_getElem? (i := 104) rfl)) rfl
theorem ml_L_34 : Cond.methodLink RL 34 yX10_rule ∈ tb_ := tb_of (tk_3 _ (List.mem_of_getElem? (i := 108) rfl)) rfl
theorem ml_X10_128 : Cond.methodLink RX10 128 yX5_termCount ∈ tb_ := tb_of (tk_3 _ (List.mem_of_getElem? (i := 112) rfl)) rfl
theorem ml_X10_132 : Cond.methodLink RX10 132 yX5_branchCount ∈ tb_ := tb_of (tk_3 _ (List.mem_of_getElem? (i := 113) rfl)) rfl
theorem ml_L_38 : Cond.methodLink RL 38 yX10_branch ∈ tb_ := tb_of (tk_3 _ (List.mem_of_getElem? (i := 114) rfl)) rfl
theorem ml_X10_135 : Cond.methodLink RX10 135 yX5_branchPlace ∈ tb_ := tb_of (tk_3 _ (List.mem_of_getElem? (i := 118) rfl)) rfl
theorem ml_X10_139 : Cond.methodLink RX10 139 yX5_termKind ∈ tb_ := tb_of (tk_3 _ (List.mem_of_getElem? (i := 119) rfl)) rfl
theorem ml_X10_142 : Cond.methodLink RX10 142 yX5_termNumber ∈ tb_ := tb_of (tk_3 _ (List.mem_of_getElem? (i := 123) rfl)) rfl
theorem ml_X10_145 : Cond.methodLink RX10 145 yX5_timesOf ∈ tb_ := tb_of (tk_3 _ (List.mem_of_getElem? (i := 127) rfl)) rfl
theorem ml_X10_148 : Cond.methodLink RX10 148 yX5_targetOf ∈ tb_ := tb_of (tk_3 _ (List.mem_of_getElem? (i := 131) rfl)) rfl
theorem ml_L_43 : Cond.methodLink RL 43 yX10_see ∈ tb_ := tb_of (tk_3 _ (List.mem_of_getElem? (i := 132) rfl)) rfl
theorem ml_X10_152 : Cond.methodLink RX10 152 yX10_refusalOf ∈ tb_ := tb_of (tk_3 _ (List.mem_of_getElem? (i := 136) rfl)) rfl
theorem ml_X10_156 : Cond.methodLink RX10 156 yX8_append ∈ tb_ := tb_of (tk_3 _ (List.mem_of_getElem? (i := 139) rfl)) rfl
theorem ml_X8_23 : Cond.methodLink RX8 23 yJ9_min_7cf53 ∈ tb_ := tb_of (tk_3 _ (List.mem_of_getElem? (i := 143) rfl)) rfl
theorem ml_L_48 : Cond.methodLink RL 48 yX10_cut ∈ tb_ := tb_of (tk_3 _ (List.mem_of_getElem? (i := 146) rfl)) rfl
theorem ml_L_52 : Cond.methodLink RL 52 yX10_at ∈ tb_ := tb_of (tk_3 _ (List.mem_of_getElem? (i := 150) rfl)) rfl
theorem ml_X10_159 : Cond.methodLink RX10 159 yX8_has ∈ tb_ := tb_of (tk_3 _ (List.mem_of_getElem? (i := 154) rfl)) rfl
theorem ml_X10_163 : Cond.methodLink RX10 163 yX8_sample ∈ tb_ := tb_of (tk_3 _ (List.mem_of_getElem? (i := 158) rfl)) rfl
theorem ml_X8_19 : Cond.methodLink RX8 19 yX8_has ∈ tb_ := tb_of (tk_3 _ (List.mem_of_getElem? (i := 162) rfl)) rfl
theorem ml_L_56 : Cond.methodLink RL 56 yX10_put ∈ tb_ := tb_of (tk_3 _ (List.mem_of_getElem? (i := 163) rfl)) rfl
theorem ml_X10_166 : Cond.methodLink RX10 166 yX8_replace ∈ tb_ := tb_of (tk_3 _ (List.mem_of_getElem? (i := 167) rfl)) rfl
theorem ml_L_60 : Cond.methodLink RL 60 yX10_run ∈ tb_ := tb_of (tk_3 _ (List.mem_of_getElem? (i := 171) rfl)) rfl
theorem ml_X10_169 : Cond.methodLink RX10 169 yX9_follow ∈ tb_ := tb_of (tk_3 _ (List.mem_of_getElem? (i := 175) rfl)) rfl
theorem ml_X9_27 : Cond.methodLink RX9 27 yX9_enter ∈ tb_ := tb_of (tk_3 _ (List.mem_of_getElem? (i := 179) rfl)) rfl
theorem ml_X9_44 : Cond.methodLink RX9 44 yJ7_fill_53178 ∈ tb_ := tb_of (tk_3 _ (List.mem_of_getElem? (i := 183) rfl)) rfl
theorem ml_X9_34 : Cond.methodLink RX9 34 yX9_look ∈ tb_ := tb_of (tk_3 _ (List.mem_of_getElem? (i := 184) rfl)) rfl
theorem ml_X9_50 : Cond.methodLink RX9 50 yX5_branchCount ∈ tb_ := tb_of (tk_3 _ (List.mem_of_getElem? (i := 188) rfl)) rfl
theorem ml_X9_54 : Cond.methodLink RX9 54 yJ9_min_7cf53 ∈ tb_ := tb_of (tk_3 _ (List.mem_of_getElem? (i := 189) rfl)) rfl
theorem ml_X9_60 : Cond.methodLink RX9 60 yX5_branchPlace ∈ tb_ := tb_of (tk_3 _ (List.mem_of_getElem? (i := 190) rfl)) rfl
theorem ml_X9_63 : Cond.methodLink RX9 63 yX5_holds ∈ tb_ := tb_of (tk_3 _ (List.mem_of_getElem? (i := 191) rfl)) rfl
theorem ml_X5_60 : Cond.methodLink RX5 60 yX5_termKind ∈ tb_ := tb_of (tk_3 _ (List.mem_of_getElem? (i := 195) rfl)) rfl
theorem ml_X5_63 : Cond.methodLink RX5 63 yX5_termNumber ∈ tb_ := tb_of (tk_3 _ (List.mem_of_getElem? (i := 196) rfl)) rfl
theorem ml_X5_66 : Cond.methodLink RX5 66 yX5_termHolds ∈ tb_ := tb_of (tk_3 _ (List.mem_of_getElem? (i := 197) rfl)) rfl
theorem ml_X5_70 : Cond.methodLink RX5 70 yX8_high ∈ tb_ := tb_of (tk_3 _ (List.mem_of_getElem? (i := 200) rfl)) rfl
theorem ml_X5_76 : Cond.methodLink RX5 76 yX8_rises ∈ tb_ := tb_of (tk_3 _ (List.mem_of_getElem? (i := 204) rfl)) rfl
theorem ml_X5_79 : Cond.methodLink RX5 79 yX8_falls ∈ tb_ := tb_of (tk_3 _ (List.mem_of_getElem? (i := 208) rfl)) rfl
theorem ml_X5_82 : Cond.methodLink RX5 82 yX8_sample ∈ tb_ := tb_of (tk_3 _ (List.mem_of_getElem? (i := 212) rfl)) rfl
theorem ml_X9_67 : Cond.methodLink RX9 67 yX5_timesOf ∈ tb_ := tb_of (tk_3 _ (List.mem_of_getElem? (i := 213) rfl)) rfl
theorem ml_X9_70 : Cond.methodLink RX9 70 yX5_targetOf ∈ tb_ := tb_of (tk_3 _ (List.mem_of_getElem? (i := 214) rfl)) rfl
theorem ml_X9_73 : Cond.methodLink RX9 73 yX9_leave ∈ tb_ := tb_of (tk_3 _ (List.mem_of_getElem? (i := 215) rfl)) rfl
theorem ml_L_64 : Cond.methodLink RL 64 yX10_state ∈ tb_ := tb_of (tk_3 _ (List.mem_of_getElem? (i := 219) rfl)) rfl
theorem ml_L_68 : Cond.methodLink RL 68 yX10_stored ∈ tb_ := tb_of (tk_3 _ (List.mem_of_getElem? (i := 223) rfl)) rfl
theorem ml_X10_185 : Cond.methodLink RX10 185 yJ9_min_7cf53 ∈ tb_ := tb_of (tk_3 _ (List.mem_of_getElem? (i := 227) rfl)) rfl
theorem ml_X10_190 : Cond.methodLink RX10 190 yJ9_max_7cf53 ∈ tb_ := tb_of (tk_3 _ (List.mem_of_getElem? (i := 228) rfl)) rfl
theorem ml_X10_193 : Cond.methodLink RX10 193 yX5_holds ∈ tb_ := tb_of (tk_3 _ (List.mem_of_getElem? (i := 229) rfl)) rfl
theorem ml_L_72 : Cond.methodLink RL 72 yX10_next ∈ tb_ := tb_of (tk_3 _ (List.mem_of_getElem? (i := 230) rfl)) rfl
theorem ml_L_76 : Cond.methodLink RL 76 yX10_edges ∈ tb_ := tb_of (tk_3 _ (List.mem_of_getElem? (i := 234) rfl)) rfl
theorem ml_X10_197 : Cond.methodLink RX10 197 yX10_isWire ∈ tb_ := tb_of (tk_3 _ (List.mem_of_getElem? (i := 238) rfl)) rfl
theorem ml_X10_200 : Cond.methodLink RX10 200 yX10_turns ∈ tb_ := tb_of (tk_4 _ (List.mem_of_getElem? (i := 1) rfl)) rfl
theorem ml_X10_361 : Cond.methodLink RX10 361 yX8_falls ∈ tb_ := tb_of (tk_4 _ (List.mem_of_getElem? (i := 5) rfl)) rfl
theorem ml_X10_364 : Cond.methodLink RX10 364 yX8_rises ∈ tb_ := tb_of (tk_4 _ (List.mem_of_getElem? (i := 6) rfl)) rfl
theorem ml_L_81 : Cond.methodLink RL 81 yX10_edge ∈ tb_ := tb_of (tk_4 _ (List.mem_of_getElem? (i := 7) rfl)) rfl
theorem ml_L_86 : Cond.methodLink RL 86 yX10_pulse ∈ tb_ := tb_of (tk_4 _ (List.mem_of_getElem? (i := 11) rfl)) rfl
theorem ml_X10_204 : Cond.methodLink RX10 204 yX3_measure ∈ tb_ := tb_of (tk_4 _ (List.mem_of_getElem? (i := 15) rfl)) rfl
theorem ml_X3_35 : Cond.methodLink RX3 35 yX8_changes ∈ tb_ := tb_of (tk_4 _ (List.mem_of_getElem? (i := 19) rfl)) rfl
theorem ml_X3_39 : Cond.methodLink RX3 39 yX8_high ∈ tb_ := tb_of (tk_4 _ (List.mem_of_getElem? (i := 23) rfl)) rfl
theorem ml_X3_42 : Cond.methodLink RX3 42 yX3_note ∈ tb_ := tb_of (tk_4 _ (List.mem_of_getElem? (i := 24) rfl)) rfl
theorem ml_L_90 : Cond.methodLink RL 90 yX10_duty ∈ tb_ := tb_of (tk_4 _ (List.mem_of_getElem? (i := 28) rfl)) rfl
theorem ml_X10_223 : Cond.methodLink RX10 223 yX10_firstRise ∈ tb_ := tb_of (tk_4 _ (List.mem_of_getElem? (i := 32) rfl)) rfl
theorem ml_X10_226 : Cond.methodLink RX10 226 yX10_lastRise ∈ tb_ := tb_of (tk_4 _ (List.mem_of_getElem? (i := 36) rfl)) rfl
theorem ml_X10_229 : Cond.methodLink RX10 229 yX8_high ∈ tb_ := tb_of (tk_4 _ (List.mem_of_getElem? (i := 40) rfl)) rfl
theorem ml_X10_233 : Cond.methodLink RX10 233 yX10_greatestDivisor ∈ tb_ := tb_of (tk_4 _ (List.mem_of_getElem? (i := 41) rfl)) rfl
theorem ml_L_94 : Cond.methodLink RL 94 yX10_shorter ∈ tb_ := tb_of (tk_4 _ (List.mem_of_getElem? (i := 44) rfl)) rfl
theorem ml_L_98 : Cond.methodLink RL 98 yX10_smooth ∈ tb_ := tb_of (tk_4 _ (List.mem_of_getElem? (i := 48) rfl)) rfl
theorem ml_X10_239 : Cond.methodLink RX10 239 yX8_copy ∈ tb_ := tb_of (tk_4 _ (List.mem_of_getElem? (i := 52) rfl)) rfl
theorem ml_X10_243 : Cond.methodLink RX10 243 yX8_smoothWire ∈ tb_ := tb_of (tk_4 _ (List.mem_of_getElem? (i := 56) rfl)) rfl
theorem ml_X8_38 : Cond.methodLink RX8 38 yX8_changes ∈ tb_ := tb_of (tk_4 _ (List.mem_of_getElem? (i := 60) rfl)) rfl
theorem ml_X8_42 : Cond.methodLink RX8 42 yX8_flip ∈ tb_ := tb_of (tk_4 _ (List.mem_of_getElem? (i := 61) rfl)) rfl
theorem ml_X8_29 : Cond.methodLink RX8 29 yX8_sample ∈ tb_ := tb_of (tk_4 _ (List.mem_of_getElem? (i := 65) rfl)) rfl
theorem ml_X8_46 : Cond.methodLink RX8 46 yX8_replace ∈ tb_ := tb_of (tk_4 _ (List.mem_of_getElem? (i := 66) rfl)) rfl
theorem ml_L_102 : Cond.methodLink RL 102 yX10_setup ∈ tb_ := tb_of (tk_4 _ (List.mem_of_getElem? (i := 67) rfl)) rfl
theorem ml_X10_246 : Cond.methodLink RX10 246 yX2_measure ∈ tb_ := tb_of (tk_4 _ (List.mem_of_getElem? (i := 71) rfl)) rfl
theorem ml_X2_32 : Cond.methodLink RX2 32 yX8_changes ∈ tb_ := tb_of (tk_4 _ (List.mem_of_getElem? (i := 75) rfl)) rfl
theorem ml_X2_36 : Cond.methodLink RX2 36 yX2_firstChange ∈ tb_ := tb_of (tk_4 _ (List.mem_of_getElem? (i := 76) rfl)) rfl
theorem ml_X2_40 : Cond.methodLink RX2 40 yX8_rises ∈ tb_ := tb_of (tk_4 _ (List.mem_of_getElem? (i := 79) rfl)) rfl
theorem ml_X2_43 : Cond.methodLink RX2 43 yX2_note ∈ tb_ := tb_of (tk_4 _ (List.mem_of_getElem? (i := 80) rfl)) rfl
theorem ml_L_106 : Cond.methodLink RL 106 yX10_tight ∈ tb_ := tb_of (tk_4 _ (List.mem_of_getElem? (i := 84) rfl)) rfl
theorem ml_L_111 : Cond.methodLink RL 111 yX10_bits ∈ tb_ := tb_of (tk_4 _ (List.mem_of_getElem? (i := 88) rfl)) rfl
theorem ml_X10_264 : Cond.methodLink RX10 264 yX0_gather ∈ tb_ := tb_of (tk_4 _ (List.mem_of_getElem? (i := 92) rfl)) rfl
theorem ml_X0_31 : Cond.methodLink RX0 31 yX0_clear ∈ tb_ := tb_of (tk_4 _ (List.mem_of_getElem? (i := 96) rfl)) rfl
theorem ml_X0_37 : Cond.methodLink RX0 37 yX8_high ∈ tb_ := tb_of (tk_4 _ (List.mem_of_getElem? (i := 100) rfl)) rfl
theorem ml_X0_41 : Cond.methodLink RX0 41 yX8_rises ∈ tb_ := tb_of (tk_4 _ (List.mem_of_getElem? (i := 101) rfl)) rfl
theorem ml_X0_44 : Cond.methodLink RX0 44 yX0_add ∈ tb_ := tb_of (tk_4 _ (List.mem_of_getElem? (i := 102) rfl)) rfl
theorem ml_X10_276 : Cond.methodLink RX10 276 yX0_value ∈ tb_ := tb_of (tk_4 _ (List.mem_of_getElem? (i := 106) rfl)) rfl
theorem ml_L_115 : Cond.methodLink RL 115 yX10_serial ∈ tb_ := tb_of (tk_4 _ (List.mem_of_getElem? (i := 110) rfl)) rfl
theorem ml_X10_279 : Cond.methodLink RX10 279 yX0_listen ∈ tb_ := tb_of (tk_4 _ (List.mem_of_getElem? (i := 114) rfl)) rfl
theorem ml_X0_48 : Cond.methodLink RX0 48 yX8_falls ∈ tb_ := tb_of (tk_4 _ (List.mem_of_getElem? (i := 118) rfl)) rfl
theorem ml_X0_51 : Cond.methodLink RX0 51 yX0_takeFrame ∈ tb_ := tb_of (tk_4 _ (List.mem_of_getElem? (i := 119) rfl)) rfl
theorem ml_L_119 : Cond.methodLink RL 119 yX10_rate ∈ tb_ := tb_of (tk_4 _ (List.mem_of_getElem? (i := 123) rfl)) rfl
theorem ml_L_123 : Cond.methodLink RL 123 yX10_seen ∈ tb_ := tb_of (tk_4 _ (List.mem_of_getElem? (i := 127) rfl)) rfl
theorem ml_X10_286 : Cond.methodLink RX10 286 yX8_edgesSeen ∈ tb_ := tb_of (tk_4 _ (List.mem_of_getElem? (i := 131) rfl)) rfl
theorem ml_X8_33 : Cond.methodLink RX8 33 yJ6_bitCount_0f7a4 ∈ tb_ := tb_of (tk_4 _ (List.mem_of_getElem? (i := 135) rfl)) rfl
theorem ki_J6_265 : Cond.constant RJ6 265 (1431655765) ∈ tb_ := tb_of (tk_4 _ (List.mem_of_getElem? (i := 138) rfl)) rfl
theorem ki_J6_266 : Cond.constant RJ6 266 (858993459) ∈ tb_ := tb_of (tk_4 _ (List.mem_of_getElem? (i := 139) rfl)) rfl
theorem ki_J6_267 : Cond.constant RJ6 267 (252645135) ∈ tb_ := tb_of (tk_4 _ (List.mem_of_getElem? (i := 140) rfl)) rfl
theorem ml_L_127 : Cond.methodLink RL 127 yX10_widest ∈ tb_ := tb_of (tk_4 _ (List.mem_of_getElem? (i := 141) rfl)) rfl
theorem ml_L_131 : Cond.methodLink RL 131 yX10_runs ∈ tb_ := tb_of (tk_4 _ (List.mem_of_getElem? (i := 145) rfl)) rfl
theorem ml_X10_289 : Cond.methodLink RX10 289 yX8_beginsRun ∈ tb_ := tb_of (tk_4 _ (List.mem_of_getElem? (i := 149) rfl)) rfl
theorem ml_L_135 : Cond.methodLink RL 135 yX10_fills ∈ tb_ := tb_of (tk_4 _ (List.mem_of_getElem? (i := 153) rfl)) rfl
theorem ml_L_139 : Cond.methodLink RL 139 yX10_values ∈ tb_ := tb_of (tk_4 _ (List.mem_of_getElem? (i := 157) rfl)) rfl
theorem ml_X10_292 : Cond.methodLink RX10 292 yX1_unlikePairs ∈ tb_ := tb_of (tk_4 _ (List.mem_of_getElem? (i := 161) rfl)) rfl
theorem ml_X1_44 : Cond.methodLink RX1 44 yJ7_fill_d0a16 ∈ tb_ := tb_of (tk_4 _ (List.mem_of_getElem? (i := 165) rfl)) rfl
theorem ml_X1_31 : Cond.methodLink RX1 31 yX8_sample ∈ tb_ := tb_of (tk_4 _ (List.mem_of_getElem? (i := 168) rfl)) rfl
theorem ml_X1_47 : Cond.methodLink RX1 47 yX8_beginsRun ∈ tb_ := tb_of (tk_4 _ (List.mem_of_getElem? (i := 169) rfl)) rfl
theorem ml_X10_296 : Cond.methodLink RX10 296 yX1_tally ∈ tb_ := tb_of (tk_4 _ (List.mem_of_getElem? (i := 170) rfl)) rfl
theorem ml_X1_19 : Cond.methodLink RX1 19 yJ7_fill_53178 ∈ tb_ := tb_of (tk_4 _ (List.mem_of_getElem? (i := 174) rfl)) rfl
theorem ml_L_143 : Cond.methodLink RL 143 yX10_keep ∈ tb_ := tb_of (tk_4 _ (List.mem_of_getElem? (i := 175) rfl)) rfl
theorem ml_X10_308 : Cond.methodLink RX10 308 yX10_imageOf ∈ tb_ := tb_of (tk_4 _ (List.mem_of_getElem? (i := 179) rfl)) rfl
theorem ml_L_147 : Cond.methodLink RL 147 yX10_back ∈ tb_ := tb_of (tk_4 _ (List.mem_of_getElem? (i := 183) rfl)) rfl
theorem ml_L_151 : Cond.methodLink RL 151 yX10_unlike ∈ tb_ := tb_of (tk_4 _ (List.mem_of_getElem? (i := 187) rfl)) rfl
theorem ml_X10_316 : Cond.methodLink RX10 316 yX8_unlikeLaid ∈ tb_ := tb_of (tk_4 _ (List.mem_of_getElem? (i := 191) rfl)) rfl
theorem ml_L_155 : Cond.methodLink RL 155 yX10_shift ∈ tb_ := tb_of (tk_4 _ (List.mem_of_getElem? (i := 195) rfl)) rfl
theorem ml_L_159 : Cond.methodLink RL 159 yX10_sheet ∈ tb_ := tb_of (tk_4 _ (List.mem_of_getElem? (i := 199) rfl)) rfl
theorem ml_X10_320 : Cond.methodLink RX10 320 yX10_sheetOf ∈ tb_ := tb_of (tk_4 _ (List.mem_of_getElem? (i := 203) rfl)) rfl
theorem ml_X10_324 : Cond.methodLink RX10 324 yX10_isLane ∈ tb_ := tb_of (tk_4 _ (List.mem_of_getElem? (i := 207) rfl)) rfl
theorem ml_X10_327 : Cond.methodLink RX10 327 yX6_renew ∈ tb_ := tb_of (tk_4 _ (List.mem_of_getElem? (i := 210) rfl)) rfl
theorem ml_X6_26 : Cond.methodLink RX6 26 yJ9_min_7cf53 ∈ tb_ := tb_of (tk_4 _ (List.mem_of_getElem? (i := 214) rfl)) rfl
theorem ml_X6_32 : Cond.methodLink RX6 32 yJ9_max_7cf53 ∈ tb_ := tb_of (tk_4 _ (List.mem_of_getElem? (i := 215) rfl)) rfl
theorem ml_X6_35 : Cond.methodLink RX6 35 yJ7_fill_53178 ∈ tb_ := tb_of (tk_4 _ (List.mem_of_getElem? (i := 216) rfl)) rfl
theorem ml_L_163 : Cond.methodLink RL 163 yX10_lay ∈ tb_ := tb_of (tk_4 _ (List.mem_of_getElem? (i := 217) rfl)) rfl
theorem ml_X10_330 : Cond.methodLink RX10 330 yX6_isNothing ∈ tb_ := tb_of (tk_4 _ (List.mem_of_getElem? (i := 221) rfl)) rfl
theorem ml_X10_334 : Cond.methodLink RX10 334 yX6_has ∈ tb_ := tb_of (tk_4 _ (List.mem_of_getElem? (i := 225) rfl)) rfl
theorem ml_X10_335 : Cond.methodLink RX10 335 yX6_write ∈ tb_ := tb_of (tk_4 _ (List.mem_of_getElem? (i := 229) rfl)) rfl
theorem ml_X6_19 : Cond.methodLink RX6 19 yX6_has ∈ tb_ := tb_of (tk_4 _ (List.mem_of_getElem? (i := 233) rfl)) rfl
theorem ml_L_167 : Cond.methodLink RL 167 yX10_read ∈ tb_ := tb_of (tk_4 _ (List.mem_of_getElem? (i := 234) rfl)) rfl
theorem ml_X10_338 : Cond.methodLink RX10 338 yX6_faultAs ∈ tb_ := tb_of (tk_4 _ (List.mem_of_getElem? (i := 238) rfl)) rfl
theorem ml_X6_41 : Cond.methodLink RX6 41 yX6_isNothing ∈ tb_ := tb_of (tk_5 _ (List.mem_of_getElem? (i := 2) rfl)) rfl
theorem ml_X10_341 : Cond.methodLink RX10 341 yX6_wholePairs ∈ tb_ := tb_of (tk_5 _ (List.mem_of_getElem? (i := 3) rfl)) rfl
theorem ml_X10_344 : Cond.methodLink RX10 344 yX10_firstRefusal ∈ tb_ := tb_of (tk_5 _ (List.mem_of_getElem? (i := 7) rfl)) rfl
theorem ml_X10_348 : Cond.methodLink RX10 348 yX6_cell ∈ tb_ := tb_of (tk_5 _ (List.mem_of_getElem? (i := 11) rfl)) rfl
theorem ml_L_171 : Cond.methodLink RL 171 yX10_torn ∈ tb_ := tb_of (tk_5 _ (List.mem_of_getElem? (i := 15) rfl)) rfl
theorem ml_L_175 : Cond.methodLink RL 175 yX10_count ∈ tb_ := tb_of (tk_5 _ (List.mem_of_getElem? (i := 19) rfl)) rfl
theorem ml_X10_354 : Cond.methodLink RX10 354 yX10_imagesKept ∈ tb_ := tb_of (tk_5 _ (List.mem_of_getElem? (i := 23) rfl)) rfl
theorem ml_X10_358 : Cond.methodLink RX10 358 yX10_cellsOfFirst ∈ tb_ := tb_of (tk_5 _ (List.mem_of_getElem? (i := 27) rfl)) rfl
theorem ml_L_12 : Cond.methodLink RL 12 yX11_init ∈ tb_ := tb_of (tk_5 _ (List.mem_of_getElem? (i := 33) rfl)) rfl
theorem ml_X11_43 : Cond.methodLink RX11 43 yX11_firstDraft ∈ tb_ := tb_of (tk_5 _ (List.mem_of_getElem? (i := 37) rfl)) rfl
theorem ml_X11_46 : Cond.methodLink RX11 46 yX11_keepDraft ∈ tb_ := tb_of (tk_5 _ (List.mem_of_getElem? (i := 41) rfl)) rfl
theorem fl_X11_7 : fl_ RX11 7 TX11 0 := Or.inl (tb_of (tk_5 _ (List.mem_of_getElem? (i := 45) rfl)) rfl)
theorem fl_X11_13 : fl_ RX11 13 TX11 1 := Or.inl (tb_of (tk_5 _ (List.mem_of_getElem? (i := 46) rfl)) rfl)
theorem fl_X11_16 : fl_ RX11 16 TX11 2 := Or.inl (tb_of (tk_5 _ (List.mem_of_getElem? (i := 47) rfl)) rfl)
theorem fl_X11_144 : fl_ RX11 144 TX11 3 := Or.inl (tb_of (tk_5 _ (List.mem_of_getElem? (i := 48) rfl)) rfl)
theorem fl_X11_19 : fl_ RX11 19 TX11 4 := Or.inl (tb_of (tk_5 _ (List.mem_of_getElem? (i := 49) rfl)) rfl)
theorem fl_X11_22 : fl_ RX11 22 TX11 5 := Or.inl (tb_of (tk_5 _ (List.mem_of_getElem? (i := 50) rfl)) rfl)
theorem fl_X11_49 : fl_ RX11 49 TX11 6 := Or.inl (tb_of (tk_5 _ (List.mem_of_getElem? (i := 51) rfl)) rfl)
theorem fl_X11_25 : fl_ RX11 25 TX11 7 := Or.inl (tb_of (tk_5 _ (List.mem_of_getElem? (i := 52) rfl)) rfl)
theorem fl_X11_53 : fl_ RX11 53 TX11 8 := Or.inl (tb_of (tk_5 _ (List.mem_of_getElem? (i := 53) rfl)) rfl)
theorem fl_X11_71 : fl_ RX11 71 TX11 9 := Or.inl (tb_of (tk_5 _ (List.mem_of_getElem? (i := 54) rfl)) rfl)
theorem fl_X11_65 : fl_ RX11 65 TX11 10 := Or.inl (tb_of (tk_5 _ (List.mem_of_getElem? (i := 55) rfl)) rfl)
theorem fl_X11_82 : fl_ RX11 82 TX11 11 := Or.inl (tb_of (tk_5 _ (List.mem_of_getElem? (i := 56) rfl)) rfl)
theorem fl_X11_93 : fl_ RX11 93 TX11 12 := Or.inl (tb_of (tk_5 _ (List.mem_of_getElem? (i := 57) rfl)) rfl)
theorem fl_X11_62 : fl_ RX11 62 TX11 13 := Or.inl (tb_of (tk_5 _ (List.mem_of_getElem? (i := 58) rfl)) rfl)
theorem fl_X11_68 : fl_ RX11 68 TX11 14 := Or.inl (tb_of (tk_5 _ (List.mem_of_getElem? (i := 59) rfl)) rfl)
theorem fl_X11_165 : fl_ RX11 165 TX11 15 := Or.inl (tb_of (tk_5 _ (List.mem_of_getElem? (i := 60) rfl)) rfl)
theorem fl_X11_178 : fl_ RX11 178 TX11 16 := Or.inl (tb_of (tk_5 _ (List.mem_of_getElem? (i := 61) rfl)) rfl)
theorem fl_X11_185 : fl_ RX11 185 TX11 17 := Or.inl (tb_of (tk_5 _ (List.mem_of_getElem? (i := 62) rfl)) rfl)
theorem fl_X11_171 : fl_ RX11 171 TX11 18 := Or.inl (tb_of (tk_5 _ (List.mem_of_getElem? (i := 63) rfl)) rfl)
theorem fl_X11_168 : fl_ RX11 168 TX11 19 := Or.inl (tb_of (tk_5 _ (List.mem_of_getElem? (i := 64) rfl)) rfl)
theorem fl_X11_28 : fl_ RX11 28 TX11 20 := Or.inl (tb_of (tk_5 _ (List.mem_of_getElem? (i := 65) rfl)) rfl)
theorem fl_X11_217 : fl_ RX11 217 TX11 21 := Or.inl (tb_of (tk_5 _ (List.mem_of_getElem? (i := 66) rfl)) rfl)
theorem fl_X11_220 : fl_ RX11 220 TX11 22 := Or.inl (tb_of (tk_5 _ (List.mem_of_getElem? (i := 67) rfl)) rfl)
theorem fl_X11_223 : fl_ RX11 223 TX11 23 := Or.inl (tb_of (tk_5 _ (List.mem_of_getElem? (i := 68) rfl)) rfl)
theorem fl_X11_226 : fl_ RX11 226 TX11 24 := Or.inl (tb_of (tk_5 _ (List.mem_of_getElem? (i := 69) rfl)) rfl)
theorem fl_X11_229 : fl_ RX11 229 TX11 25 := Or.inl (tb_of (tk_5 _ (List.mem_of_getElem? (i := 70) rfl)) rfl)
theorem fl_X11_31 : fl_ RX11 31 TX11 26 := Or.inl (tb_of (tk_5 _ (List.mem_of_getElem? (i := 71) rfl)) rfl)
theorem fl_X11_259 : fl_ RX11 259 TX11 27 := Or.inl (tb_of (tk_5 _ (List.mem_of_getElem? (i := 72) rfl)) rfl)
theorem fl_X11_262 : fl_ RX11 262 TX11 28 := Or.inl (tb_of (tk_5 _ (List.mem_of_getElem? (i := 73) rfl)) rfl)
theorem fl_X11_265 : fl_ RX11 265 TX11 29 := Or.inl (tb_of (tk_5 _ (List.mem_of_getElem? (i := 74) rfl)) rfl)
theorem fl_X11_34 : fl_ RX11 34 TX11 30 := Or.inl (tb_of (tk_5 _ (List.mem_of_getElem? (i := 75) rfl)) rfl)
theorem fl_X11_37 : fl_ RX11 37 TX11 31 := Or.inl (tb_of (tk_5 _ (List.mem_of_getElem? (i := 76) rfl)) rfl)
theorem fl_X11_40 : fl_ RX11 40 TX11 32 := Or.inl (tb_of (tk_5 _ (List.mem_of_getElem? (i := 77) rfl)) rfl)
theorem fl_X11_303 : fl_ RX11 303 TX11 33 := Or.inl (tb_of (tk_5 _ (List.mem_of_getElem? (i := 78) rfl)) rfl)
theorem ml_L_19 : Cond.methodLink RL 19 yX11_feed ∈ tb_ := tb_of (tk_5 _ (List.mem_of_getElem? (i := 148) rfl)) rfl
theorem kl_X11_56 : Cond.constantLong RX11 56 (255) ∈ tb_ := tb_of (tk_5 _ (List.mem_of_getElem? (i := 152) rfl)) rfl
theorem ml_L_24 : Cond.methodLink RL 24 yX11_end ∈ tb_ := tb_of (tk_5 _ (List.mem_of_getElem? (i := 153) rfl)) rfl
theorem ml_X11_58 : Cond.methodLink RX11 58 yX11_in ∈ tb_ := tb_of (tk_5 _ (List.mem_of_getElem? (i := 157) rfl)) rfl
theorem ml_L_29 : Cond.methodLink RL 29 yX11_text ∈ tb_ := tb_of (tk_5 _ (List.mem_of_getElem? (i := 160) rfl)) rfl
theorem ml_X11_100 : Cond.methodLink RX11 100 yX11_token ∈ tb_ := tb_of (tk_5 _ (List.mem_of_getElem? (i := 164) rfl)) rfl
theorem ml_X11_74 : Cond.methodLink RX11 74 yX11_look ∈ tb_ := tb_of (tk_5 _ (List.mem_of_getElem? (i := 168) rfl)) rfl
theorem kl_X11_85 : Cond.constantLong RX11 85 (97) ∈ tb_ := tb_of (tk_5 _ (List.mem_of_getElem? (i := 172) rfl)) rfl
theorem kl_X11_87 : Cond.constantLong RX11 87 (122) ∈ tb_ := tb_of (tk_5 _ (List.mem_of_getElem? (i := 173) rfl)) rfl
theorem kl_X11_89 : Cond.constantLong RX11 89 (48) ∈ tb_ := tb_of (tk_5 _ (List.mem_of_getElem? (i := 174) rfl)) rfl
theorem kl_X11_91 : Cond.constantLong RX11 91 (57) ∈ tb_ := tb_of (tk_5 _ (List.mem_of_getElem? (i := 175) rfl)) rfl
theorem ml_X11_96 : Cond.methodLink RX11 96 yX11_needs ∈ tb_ := tb_of (tk_5 _ (List.mem_of_getElem? (i := 176) rfl)) rfl
theorem ml_X11_127 : Cond.methodLink RX11 127 yX11_readLine ∈ tb_ := tb_of (tk_5 _ (List.mem_of_getElem? (i := 180) rfl)) rfl
theorem ml_X11_121 : Cond.methodLink RX11 121 yX11_lineNow ∈ tb_ := tb_of (tk_5 _ (List.mem_of_getElem? (i := 184) rfl)) rfl
theorem ml_X11_78 : Cond.methodLink RX11 78 yX11_is ∈ tb_ := tb_of (tk_5 _ (List.mem_of_getElem? (i := 188) rfl)) rfl
theorem ml_X11_124 : Cond.methodLink RX11 124 yX11_readState ∈ tb_ := tb_of (tk_5 _ (List.mem_of_getElem? (i := 192) rfl)) rfl
theorem ml_X11_117 : Cond.methodLink RX11 117 yX11_readBranch ∈ tb_ := tb_of (tk_5 _ (List.mem_of_getElem? (i := 196) rfl)) rfl
theorem ml_X11_111 : Cond.methodLink RX11 111 yX11_readCond ∈ tb_ := tb_of (tk_5 _ (List.mem_of_getElem? (i := 200) rfl)) rfl
theorem ml_X11_103 : Cond.methodLink RX11 103 yX11_termNow ∈ tb_ := tb_of (tk_5 _ (List.mem_of_getElem? (i := 204) rfl)) rfl
theorem ml_X11_107 : Cond.methodLink RX11 107 yX11_readNumber ∈ tb_ := tb_of (tk_5 _ (List.mem_of_getElem? (i := 208) rfl)) rfl
theorem ml_X11_114 : Cond.methodLink RX11 114 yX11_wordNow ∈ tb_ := tb_of (tk_5 _ (List.mem_of_getElem? (i := 212) rfl)) rfl
theorem ml_X11_130 : Cond.methodLink RX11 130 yX11_isWhole ∈ tb_ := tb_of (tk_5 _ (List.mem_of_getElem? (i := 216) rfl)) rfl
theorem ml_L_33 : Cond.methodLink RL 33 yX11_fault ∈ tb_ := tb_of (tk_5 _ (List.mem_of_getElem? (i := 220) rfl)) rfl
theorem ml_L_37 : Cond.methodLink RL 37 yX11_rule ∈ tb_ := tb_of (tk_5 _ (List.mem_of_getElem? (i := 224) rfl)) rfl
theorem ml_X11_134 : Cond.methodLink RX11 134 yX11_isState ∈ tb_ := tb_of (tk_5 _ (List.mem_of_getElem? (i := 228) rfl)) rfl
theorem ml_L_42 : Cond.methodLink RL 42 yX11_branch ∈ tb_ := tb_of (tk_5 _ (List.mem_of_getElem? (i := 232) rfl)) rfl
theorem kl_X11_138 : Cond.constantLong RX11 138 (2) ∈ tb_ := tb_of (tk_5 _ (List.mem_of_getElem? (i := 236) rfl)) rfl
theorem kl_X11_140 : Cond.constantLong RX11 140 (10) ∈ tb_ := tb_of (tk_5 _ (List.mem_of_getElem? (i := 237) rfl)) rfl
theorem kl_X11_142 : Cond.constantLong RX11 142 (20) ∈ tb_ := tb_of (tk_5 _ (List.mem_of_getElem? (i := 238) rfl)) rfl
theorem ml_L_47 : Cond.methodLink RL 47 yX11_see ∈ tb_ := tb_of (tk_5 _ (List.mem_of_getElem? (i := 239) rfl)) rfl
theorem kl_X11_147 : Cond.constantLong RX11 147 (400) ∈ tb_ := tb_of (tk_6 _ (List.mem_of_getElem? (i := 3) rfl)) rfl
theorem ml_X11_149 : Cond.methodLink RX11 149 yX11_isValue ∈ tb_ := tb_of (tk_6 _ (List.mem_of_getElem? (i := 4) rfl)) rfl
theorem ml_L_51 : Cond.methodLink RL 51 yX11_cut ∈ tb_ := tb_of (tk_6 _ (List.mem_of_getElem? (i := 7) rfl)) rfl
theorem ml_L_55 : Cond.methodLink RL 55 yX11_at ∈ tb_ := tb_of (tk_6 _ (List.mem_of_getElem? (i := 11) rfl)) rfl
theorem ml_X11_152 : Cond.methodLink RX11 152 yX11_isSample ∈ tb_ := tb_of (tk_6 _ (List.mem_of_getElem? (i := 15) rfl)) rfl
theorem ml_L_59 : Cond.methodLink RL 59 yX11_put ∈ tb_ := tb_of (tk_6 _ (List.mem_of_getElem? (i := 19) rfl)) rfl
theorem ml_L_63 : Cond.methodLink RL 63 yX11_run ∈ tb_ := tb_of (tk_6 _ (List.mem_of_getElem? (i := 23) rfl)) rfl
theorem kl_X11_191 : Cond.constantLong RX11 191 (3) ∈ tb_ := tb_of (tk_6 _ (List.mem_of_getElem? (i := 27) rfl)) rfl
theorem ml_X11_193 : Cond.methodLink RX11 193 yX11_runs0 ∈ tb_ := tb_of (tk_6 _ (List.mem_of_getElem? (i := 28) rfl)) rfl
theorem ml_X11_181 : Cond.methodLink RX11 181 yX11_enters ∈ tb_ := tb_of (tk_6 _ (List.mem_of_getElem? (i := 32) rfl)) rfl
theorem ml_X11_188 : Cond.methodLink RX11 188 yX11_sample ∈ tb_ := tb_of (tk_6 _ (List.mem_of_getElem? (i := 36) rfl)) rfl
theorem ml_X11_174 : Cond.methodLink RX11 174 yX11_isSo ∈ tb_ := tb_of (tk_6 _ (List.mem_of_getElem? (i := 40) rfl)) rfl
theorem ml_X11_155 : Cond.methodLink RX11 155 yX11_isHigh ∈ tb_ := tb_of (tk_6 _ (List.mem_of_getElem? (i := 44) rfl)) rfl
theorem ml_X11_159 : Cond.methodLink RX11 159 yX11_rises ∈ tb_ := tb_of (tk_6 _ (List.mem_of_getElem? (i := 48) rfl)) rfl
theorem ml_X11_162 : Cond.methodLink RX11 162 yX11_falls ∈ tb_ := tb_of (tk_6 _ (List.mem_of_getElem? (i := 52) rfl)) rfl
theorem ml_L_67 : Cond.methodLink RL 67 yX11_state ∈ tb_ := tb_of (tk_6 _ (List.mem_of_getElem? (i := 56) rfl)) rfl
theorem ml_L_71 : Cond.methodLink RL 71 yX11_stored ∈ tb_ := tb_of (tk_6 _ (List.mem_of_getElem? (i := 60) rfl)) rfl
theorem kl_X11_196 : Cond.constantLong RX11 196 (409) ∈ tb_ := tb_of (tk_6 _ (List.mem_of_getElem? (i := 64) rfl)) rfl
theorem ml_X11_198 : Cond.methodLink RX11 198 yX11_less ∈ tb_ := tb_of (tk_6 _ (List.mem_of_getElem? (i := 65) rfl)) rfl
theorem ml_X11_201 : Cond.methodLink RX11 201 yX11_isKept ∈ tb_ := tb_of (tk_6 _ (List.mem_of_getElem? (i := 68) rfl)) rfl
theorem ml_L_75 : Cond.methodLink RL 75 yX11_next ∈ tb_ := tb_of (tk_6 _ (List.mem_of_getElem? (i := 72) rfl)) rfl
theorem ml_L_80 : Cond.methodLink RL 80 yX11_edges ∈ tb_ := tb_of (tk_6 _ (List.mem_of_getElem? (i := 76) rfl)) rfl
theorem ml_X11_206 : Cond.methodLink RX11 206 yX11_isWire ∈ tb_ := tb_of (tk_6 _ (List.mem_of_getElem? (i := 80) rfl)) rfl
theorem kl_X11_204 : Cond.constantLong RX11 204 (7) ∈ tb_ := tb_of (tk_6 _ (List.mem_of_getElem? (i := 83) rfl)) rfl
theorem ml_X11_209 : Cond.methodLink RX11 209 yX11_isEdge ∈ tb_ := tb_of (tk_6 _ (List.mem_of_getElem? (i := 84) rfl)) rfl
theorem ml_X11_213 : Cond.methodLink RX11 213 yX11_flag ∈ tb_ := tb_of (tk_6 _ (List.mem_of_getElem? (i := 88) rfl)) rfl
theorem ml_L_85 : Cond.methodLink RL 85 yX11_edge ∈ tb_ := tb_of (tk_6 _ (List.mem_of_getElem? (i := 91) rfl)) rfl
theorem ml_L_89 : Cond.methodLink RL 89 yX11_pulse ∈ tb_ := tb_of (tk_6 _ (List.mem_of_getElem? (i := 95) rfl)) rfl
theorem kl_X11_235 : Cond.constantLong RX11 235 (4) ∈ tb_ := tb_of (tk_6 _ (List.mem_of_getElem? (i := 99) rfl)) rfl
theorem ml_X11_237 : Cond.methodLink RX11 237 yX11_noPulses ∈ tb_ := tb_of (tk_6 _ (List.mem_of_getElem? (i := 100) rfl)) rfl
theorem ml_X11_240 : Cond.methodLink RX11 240 yX11_findPulses ∈ tb_ := tb_of (tk_6 _ (List.mem_of_getElem? (i := 104) rfl)) rfl
theorem ml_X11_232 : Cond.methodLink RX11 232 yX11_endOf ∈ tb_ := tb_of (tk_6 _ (List.mem_of_getElem? (i := 108) rfl)) rfl
theorem ml_L_93 : Cond.methodLink RL 93 yX11_duty ∈ tb_ := tb_of (tk_6 _ (List.mem_of_getElem? (i := 112) rfl)) rfl
theorem ml_X11_243 : Cond.methodLink RX11 243 yX11_told ∈ tb_ := tb_of (tk_6 _ (List.mem_of_getElem? (i := 116) rfl)) rfl
theorem ml_L_97 : Cond.methodLink RL 97 yX11_shorter ∈ tb_ := tb_of (tk_6 _ (List.mem_of_getElem? (i := 119) rfl)) rfl
theorem ml_L_101 : Cond.methodLink RL 101 yX11_smooth ∈ tb_ := tb_of (tk_6 _ (List.mem_of_getElem? (i := 123) rfl)) rfl
theorem ml_X11_247 : Cond.methodLink RX11 247 yX11_smooths ∈ tb_ := tb_of (tk_6 _ (List.mem_of_getElem? (i := 127) rfl)) rfl
theorem ml_L_105 : Cond.methodLink RL 105 yX11_setup ∈ tb_ := tb_of (tk_6 _ (List.mem_of_getElem? (i := 131) rfl)) rfl
theorem ml_X11_253 : Cond.methodLink RX11 253 yX11_aheadOf ∈ tb_ := tb_of (tk_6 _ (List.mem_of_getElem? (i := 135) rfl)) rfl
theorem ml_X11_250 : Cond.methodLink RX11 250 yX11_changes ∈ tb_ := tb_of (tk_6 _ (List.mem_of_getElem? (i := 139) rfl)) rfl
theorem ml_X11_256 : Cond.methodLink RX11 256 yX11_behindOf ∈ tb_ := tb_of (tk_6 _ (List.mem_of_getElem? (i := 143) rfl)) rfl
theorem ml_L_110 : Cond.methodLink RL 110 yX11_tight ∈ tb_ := tb_of (tk_6 _ (List.mem_of_getElem? (i := 147) rfl)) rfl
theorem ml_L_114 : Cond.methodLink RL 114 yX11_bits ∈ tb_ := tb_of (tk_6 _ (List.mem_of_getElem? (i := 151) rfl)) rfl
theorem ml_L_118 : Cond.methodLink RL 118 yX11_serial ∈ tb_ := tb_of (tk_6 _ (List.mem_of_getElem? (i := 155) rfl)) rfl
theorem ml_X11_270 : Cond.methodLink RX11 270 yX11_isRate ∈ tb_ := tb_of (tk_6 _ (List.mem_of_getElem? (i := 159) rfl)) rfl
theorem kl_X11_268 : Cond.constantLong RX11 268 (50) ∈ tb_ := tb_of (tk_6 _ (List.mem_of_getElem? (i := 162) rfl)) rfl
theorem ml_X11_273 : Cond.methodLink RX11 273 yX11_layFrames ∈ tb_ := tb_of (tk_6 _ (List.mem_of_getElem? (i := 163) rfl)) rfl
theorem ml_L_122 : Cond.methodLink RL 122 yX11_rate ∈ tb_ := tb_of (tk_6 _ (List.mem_of_getElem? (i := 167) rfl)) rfl
theorem ml_L_126 : Cond.methodLink RL 126 yX11_seen ∈ tb_ := tb_of (tk_6 _ (List.mem_of_getElem? (i := 171) rfl)) rfl
theorem ml_X11_280 : Cond.methodLink RX11 280 yX11_edgesBy ∈ tb_ := tb_of (tk_6 _ (List.mem_of_getElem? (i := 175) rfl)) rfl
theorem ml_X11_277 : Cond.methodLink RX11 277 yX11_unlikeBits ∈ tb_ := tb_of (tk_6 _ (List.mem_of_getElem? (i := 179) rfl)) rfl
theorem ml_L_130 : Cond.methodLink RL 130 yX11_widest ∈ tb_ := tb_of (tk_6 _ (List.mem_of_getElem? (i := 183) rfl)) rfl
theorem ml_L_134 : Cond.methodLink RL 134 yX11_runs ∈ tb_ := tb_of (tk_6 _ (List.mem_of_getElem? (i := 187) rfl)) rfl
theorem ml_X11_283 : Cond.methodLink RX11 283 yX11_begins ∈ tb_ := tb_of (tk_6 _ (List.mem_of_getElem? (i := 191) rfl)) rfl
theorem ml_L_138 : Cond.methodLink RL 138 yX11_fills ∈ tb_ := tb_of (tk_6 _ (List.mem_of_getElem? (i := 195) rfl)) rfl
theorem ml_L_142 : Cond.methodLink RL 142 yX11_values ∈ tb_ := tb_of (tk_6 _ (List.mem_of_getElem? (i := 199) rfl)) rfl
theorem ml_X11_286 : Cond.methodLink RX11 286 yX11_timesOf ∈ tb_ := tb_of (tk_6 _ (List.mem_of_getElem? (i := 203) rfl)) rfl
theorem ml_X11_289 : Cond.methodLink RX11 289 yX11_isFresh ∈ tb_ := tb_of (tk_6 _ (List.mem_of_getElem? (i := 207) rfl)) rfl
theorem ml_L_146 : Cond.methodLink RL 146 yX11_keep ∈ tb_ := tb_of (tk_6 _ (List.mem_of_getElem? (i := 211) rfl)) rfl
theorem ml_L_150 : Cond.methodLink RL 150 yX11_back ∈ tb_ := tb_of (tk_6 _ (List.mem_of_getElem? (i := 215) rfl)) rfl
theorem ml_L_154 : Cond.methodLink RL 154 yX11_unlike ∈ tb_ := tb_of (tk_6 _ (List.mem_of_getElem? (i := 219) rfl)) rfl
theorem kl_X11_292 : Cond.constantLong RX11 292 (-400) ∈ tb_ := tb_of (tk_6 _ (List.mem_of_getElem? (i := 223) rfl)) rfl
theorem ml_X11_294 : Cond.methodLink RX11 294 yX11_unlikeBy ∈ tb_ := tb_of (tk_6 _ (List.mem_of_getElem? (i := 224) rfl)) rfl
theorem ml_L_158 : Cond.methodLink RL 158 yX11_shift ∈ tb_ := tb_of (tk_6 _ (List.mem_of_getElem? (i := 228) rfl)) rfl
theorem ml_L_162 : Cond.methodLink RL 162 yX11_sheet ∈ tb_ := tb_of (tk_6 _ (List.mem_of_getElem? (i := 232) rfl)) rfl
theorem ml_X11_297 : Cond.methodLink RX11 297 yX11_isSheet ∈ tb_ := tb_of (tk_6 _ (List.mem_of_getElem? (i := 236) rfl)) rfl
theorem ml_L_166 : Cond.methodLink RL 166 yX11_lay ∈ tb_ := tb_of (tk_6 _ (List.mem_of_getElem? (i := 239) rfl)) rfl
theorem ml_L_170 : Cond.methodLink RL 170 yX11_read ∈ tb_ := tb_of (tk_7 _ (List.mem_of_getElem? (i := 3) rfl)) rfl
theorem ml_X11_300 : Cond.methodLink RX11 300 yX11_see ∈ tb_ := tb_of (tk_7 _ (List.mem_of_getElem? (i := 7) rfl)) rfl
theorem ml_L_174 : Cond.methodLink RL 174 yX11_torn ∈ tb_ := tb_of (tk_7 _ (List.mem_of_getElem? (i := 8) rfl)) rfl
theorem ml_L_178 : Cond.methodLink RL 178 yX11_count ∈ tb_ := tb_of (tk_7 _ (List.mem_of_getElem? (i := 12) rfl)) rfl
theorem kl_L_13 : Cond.constantLong RL 13 (4294967295) ∈ tb_ := tb_of (tk_7 _ (List.mem_of_getElem? (i := 16) rfl)) rfl
theorem pl8 : ∀ {j : Nat}, j < 4 → (8, j) ∈ plc := fun {j} h => (by decide +kernel : ∀ j, j < 4 → (8, j) ∈ plc) j h
theorem pl900 : ∀ {j : Nat}, j < 4 → (900, j) ∈ plc := fun {j} h => (by decide +kernel : ∀ j, j < 4 → (900, j) ∈ plc) j h
theorem pl6 : ∀ {j : Nat}, j < 4 → (6, j) ∈ plc := fun {j} h => (by decide +kernel : ∀ j, j < 4 → (6, j) ∈ plc) j h
theorem pl700 : ∀ {j : Nat}, j < 4 → (700, j) ∈ plc := fun {j} h => (by decide +kernel : ∀ j, j < 4 → (700, j) ∈ plc) j h
theorem pl5 : ∀ {j : Nat}, j < 2 → (5, j) ∈ plc := fun {j} h => (by decide +kernel : ∀ j, j < 2 → (5, j) ∈ plc) j h
theorem pl600 : ∀ {j : Nat}, j < 2 → (600, j) ∈ plc := fun {j} h => (by decide +kernel : ∀ j, j < 2 → (600, j) ∈ plc) j h
theorem pl601 : ∀ {j : Nat}, j < 2 → (601, j) ∈ plc := fun {j} h => (by decide +kernel : ∀ j, j < 2 → (601, j) ∈ plc) j h
theorem pl602 : ∀ {j : Nat}, j < 2 → (602, j) ∈ plc := fun {j} h => (by decide +kernel : ∀ j, j < 2 → (602, j) ∈ plc) j h
theorem pl603 : ∀ {j : Nat}, j < 2 → (603, j) ∈ plc := fun {j} h => (by decide +kernel : ∀ j, j < 2 → (603, j) ∈ plc) j h
theorem pl604 : ∀ {j : Nat}, j < 2 → (604, j) ∈ plc := fun {j} h => (by decide +kernel : ∀ j, j < 2 → (604, j) ∈ plc) j h
theorem pl605 : ∀ {j : Nat}, j < 2 → (605, j) ∈ plc := fun {j} h => (by decide +kernel : ∀ j, j < 2 → (605, j) ∈ plc) j h
