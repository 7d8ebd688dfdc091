theorem iu1 {w : Cond} (h : w ∈ tables_1_1) : w ∈ tables_1 := List.mem_append_left _ h
theorem it1 {w : Cond} (h : w ∈ tables_1_1) : w ∈ lw_tbl := List.mem_append_right _ (iu1 h)
theorem iu2 {w : Cond} (h : w ∈ tables_1_2) : w ∈ tables_1 := List.mem_append_right _ (List.mem_append_left _ h)
theorem it2 {w : Cond} (h : w ∈ tables_1_2) : w ∈ lw_tbl := List.mem_append_right _ (iu2 h)
theorem iu3 {w : Cond} (h : w ∈ tables_1_3) : w ∈ tables_1 := List.mem_append_right _ (List.mem_append_right _ (List.mem_append_left _ h))
theorem it3 {w : Cond} (h : w ∈ tables_1_3) : w ∈ lw_tbl := List.mem_append_right _ (iu3 h)
theorem iu4 {w : Cond} (h : w ∈ tables_1_4) : w ∈ tables_1 := List.mem_append_right _ (List.mem_append_right _ (List.mem_append_right _ (List.mem_append_left _ h)))
theorem it4 {w : Cond} (h : w ∈ tables_1_4) : w ∈ lw_tbl := List.mem_append_right _ (iu4 h)
theorem iu5 {w : Cond} (h : w ∈ tables_1_5) : w ∈ tables_1 := List.mem_append_right _ (List.mem_append_right _ (List.mem_append_right _ (List.mem_append_right _ (List.mem_append_left _ h))))
theorem it5 {w : Cond} (h : w ∈ tables_1_5) : w ∈ lw_tbl := List.mem_append_right _ (iu5 h)
theorem iu6 {w : Cond} (h : w ∈ tables_1_6) : w ∈ tables_1 := List.mem_append_right _ (List.mem_append_right _ (List.mem_append_right _ (List.mem_append_right _ (List.mem_append_right _ (h)))))
theorem it6 {w : Cond} (h : w ∈ tables_1_6) : w ∈ lw_tbl := List.mem_append_right _ (iu6 h)
theorem ip1 {q : MethodName × Nat} (h : q ∈ lw_privs_1) : Cond.selects q.1.cls q.1 q.1 ∈ lw_tbl := List.mem_append_left _ (List.mem_map.mpr ⟨q, (List.mem_append_left _ h : q ∈ lw_privs), rfl⟩)
theorem ip2 {q : MethodName × Nat} (h : q ∈ lw_privs_2) : Cond.selects q.1.cls q.1 q.1 ∈ lw_tbl := List.mem_append_left _ (List.mem_map.mpr ⟨q, (List.mem_append_right _ (List.mem_append_left _ h) : q ∈ lw_privs), rfl⟩)
theorem ip3 {q : MethodName × Nat} (h : q ∈ lw_privs_3) : Cond.selects q.1.cls q.1 q.1 ∈ lw_tbl := List.mem_append_left _ (List.mem_map.mpr ⟨q, (List.mem_append_right _ (List.mem_append_right _ (List.mem_append_left _ h)) : q ∈ lw_privs), rfl⟩)
theorem ip4 {q : MethodName × Nat} (h : q ∈ lw_privs_4) : Cond.selects q.1.cls q.1 q.1 ∈ lw_tbl := List.mem_append_left _ (List.mem_map.mpr ⟨q, (List.mem_append_right _ (List.mem_append_right _ (List.mem_append_right _ (List.mem_append_left _ h))) : q ∈ lw_privs), rfl⟩)
theorem ip5 {q : MethodName × Nat} (h : q ∈ lw_privs_5) : Cond.selects q.1.cls q.1 q.1 ∈ lw_tbl := List.mem_append_left _ (List.mem_map.mpr ⟨q, (List.mem_append_right _ (List.mem_append_right _ (List.mem_append_right _ (List.mem_append_right _ (h)))) : q ∈ lw_privs), rfl⟩)
theorem cw0 : ∀ w ∈ u_ws RX0 TX0 7, w ∈ lw_tbl ∧ goodWord w = true := by
  intro w hw
  obtain ⟨k, hk, rfl⟩ := List.mem_map.mp hw
  have hk := List.mem_range.mp hk
  match k, hk with
  | 0, _ => exact ⟨it3 (List.mem_of_getElem? (i := 47) rfl), by decide +kernel⟩
  | 1, _ => exact ⟨it3 (List.mem_of_getElem? (i := 49) rfl), by decide +kernel⟩
  | 2, _ => exact ⟨it3 (List.mem_of_getElem? (i := 51) rfl), by decide +kernel⟩
  | 3, _ => exact ⟨it3 (List.mem_of_getElem? (i := 53) rfl), by decide +kernel⟩
  | 4, _ => exact ⟨it3 (List.mem_of_getElem? (i := 55) rfl), by decide +kernel⟩
  | 5, _ => exact ⟨it3 (List.mem_of_getElem? (i := 57) rfl), by decide +kernel⟩
  | 6, _ => exact ⟨it3 (List.mem_of_getElem? (i := 59) rfl), by decide +kernel⟩
  | k + 7, hk => omega
theorem CF0 : CF 0 RX0 TX0 7 tyX0 := ⟨rfl, cw0, tyX0_ok, nmX0⟩
theorem okT0 : ∀ j, j < 7 → okT (tyX0 j) = true := by decide +kernel
theorem vc_0 : vcl[0]? = some (RX0, TX0, 7) := rfl
theorem in_0 : Cond.instantiable RX0 7 ∈ lw_tbl := it3 (List.mem_of_getElem? (i := 27) rfl)
theorem ii_0 : Cond.initialized RX0 ∈ lw_tbl := it1 (List.mem_of_getElem? (i := 16) rfl)
theorem cw1 : ∀ w ∈ u_ws RX1 TX1 4, w ∈ lw_tbl ∧ goodWord w = true := by
  intro w hw
  obtain ⟨k, hk, rfl⟩ := List.mem_map.mp hw
  have hk := List.mem_range.mp hk
  match k, hk with
  | 0, _ => exact ⟨it4 (List.mem_of_getElem? (i := 100) rfl), by decide +kernel⟩
  | 1, _ => exact ⟨it4 (List.mem_of_getElem? (i := 102) rfl), by decide +kernel⟩
  | 2, _ => exact ⟨it4 (List.mem_of_getElem? (i := 104) rfl), by decide +kernel⟩
  | 3, _ => exact ⟨it4 (List.mem_of_getElem? (i := 106) rfl), by decide +kernel⟩
  | k + 4, hk => omega
theorem CF1 : CF 1 RX1 TX1 4 tyX1 := ⟨rfl, cw1, tyX1_ok, nmX1⟩
theorem okT1 : ∀ j, j < 4 → okT (tyX1 j) = true := by decide +kernel
theorem vc_1 : vcl[1]? = some (RX1, TX1, 4) := rfl
theorem in_1 : Cond.instantiable RX1 4 ∈ lw_tbl := it4 (List.mem_of_getElem? (i := 87) rfl)
theorem ii_1 : Cond.initialized RX1 ∈ lw_tbl := it1 (List.mem_of_getElem? (i := 20) rfl)
theorem cw2 : ∀ w ∈ u_ws RX2 TX2 7, w ∈ lw_tbl ∧ goodWord w = true := by
  intro w hw
  obtain ⟨k, hk, rfl⟩ := List.mem_map.mp hw
  have hk := List.mem_range.mp hk
  match k, hk with
  | 0, _ => exact ⟨it1 (List.mem_of_getElem? (i := 99) rfl), by decide +kernel⟩
  | 1, _ => exact ⟨it1 (List.mem_of_getElem? (i := 101) rfl), by decide +kernel⟩
  | 2, _ => exact ⟨it1 (List.mem_of_getElem? (i := 103) rfl), by decide +kernel⟩
  | 3, _ => exact ⟨it1 (List.mem_of_getElem? (i := 105) rfl), by decide +kernel⟩
  | 4, _ => exact ⟨it1 (List.mem_of_getElem? (i := 107) rfl), by decide +kernel⟩
  | 5, _ => exact ⟨it1 (List.mem_of_getElem? (i := 109) rfl), by decide +kernel⟩
  | 6, _ => exact ⟨it1 (List.mem_of_getElem? (i := 111) rfl), by decide +kernel⟩
  | k + 7, hk => omega
theorem CF2 : CF 2 RX2 TX2 7 tyX2 := ⟨rfl, cw2, tyX2_ok, nmX2⟩
theorem okT2 : ∀ j, j < 7 → okT (tyX2 j) = true := by decide +kernel
theorem vc_2 : vcl[2]? = some (RX2, TX2, 7) := rfl
theorem in_2 : Cond.instantiable RX2 7 ∈ lw_tbl := it1 (List.mem_of_getElem? (i := 46) rfl)
theorem ii_2 : Cond.initialized RX2 ∈ lw_tbl := it1 (List.mem_of_getElem? (i := 3) rfl)
theorem cw3 : ∀ w ∈ u_ws RX3 TX3 3, w ∈ lw_tbl ∧ goodWord w = true := by
  intro w hw
  obtain ⟨k, hk, rfl⟩ := List.mem_map.mp hw
  have hk := List.mem_range.mp hk
  match k, hk with
  | 0, _ => exact ⟨it1 (List.mem_of_getElem? (i := 178) rfl), by decide +kernel⟩
  | 1, _ => exact ⟨it1 (List.mem_of_getElem? (i := 180) rfl), by decide +kernel⟩
  | 2, _ => exact ⟨it1 (List.mem_of_getElem? (i := 182) rfl), by decide +kernel⟩
  | k + 3, hk => omega
theorem CF3 : CF 3 RX3 TX3 3 tyX3 := ⟨rfl, cw3, tyX3_ok, nmX3⟩
theorem okT3 : ∀ j, j < 3 → okT (tyX3 j) = true := by decide +kernel
theorem vc_3 : vcl[3]? = some (RX3, TX3, 3) := rfl
theorem in_3 : Cond.instantiable RX3 3 ∈ lw_tbl := it1 (List.mem_of_getElem? (i := 147) rfl)
theorem ii_3 : Cond.initialized RX3 ∈ lw_tbl := it1 (List.mem_of_getElem? (i := 8) rfl)
theorem cw4 : ∀ w ∈ u_ws RX4 TX4 8, w ∈ lw_tbl ∧ goodWord w = true := by
  intro w hw
  obtain ⟨k, hk, rfl⟩ := List.mem_map.mp hw
  have hk := List.mem_range.mp hk
  match k, hk with
  | 0, _ => exact ⟨it2 (List.mem_of_getElem? (i := 25) rfl), by decide +kernel⟩
  | 1, _ => exact ⟨it2 (List.mem_of_getElem? (i := 27) rfl), by decide +kernel⟩
  | 2, _ => exact ⟨it2 (List.mem_of_getElem? (i := 29) rfl), by decide +kernel⟩
  | 3, _ => exact ⟨it2 (List.mem_of_getElem? (i := 31) rfl), by decide +kernel⟩
  | 4, _ => exact ⟨it2 (List.mem_of_getElem? (i := 33) rfl), by decide +kernel⟩
  | 5, _ => exact ⟨it2 (List.mem_of_getElem? (i := 35) rfl), by decide +kernel⟩
  | 6, _ => exact ⟨it2 (List.mem_of_getElem? (i := 37) rfl), by decide +kernel⟩
  | 7, _ => exact ⟨it2 (List.mem_of_getElem? (i := 39) rfl), by decide +kernel⟩
  | k + 8, hk => omega
theorem CF4 : CF 4 RX4 TX4 8 tyX4 := ⟨rfl, cw4, tyX4_ok, nmX4⟩
theorem okT4 : ∀ j, j < 8 → okT (tyX4 j) = true := by decide +kernel
theorem vc_4 : vcl[4]? = some (RX4, TX4, 8) := rfl
theorem in_4 : Cond.instantiable RX4 8 ∈ lw_tbl := it2 (List.mem_of_getElem? (i := 10) rfl)
theorem ii_4 : Cond.initialized RX4 ∈ lw_tbl := it1 (List.mem_of_getElem? (i := 10) rfl)
theorem cw5 : ∀ w ∈ u_ws RX5 TX5 4, w ∈ lw_tbl ∧ goodWord w = true := by
  intro w hw
  obtain ⟨k, hk, rfl⟩ := List.mem_map.mp hw
  have hk := List.mem_range.mp hk
  match k, hk with
  | 0, _ => exact ⟨it1 (List.mem_of_getElem? (i := 136) rfl), by decide +kernel⟩
  | 1, _ => exact ⟨it1 (List.mem_of_getElem? (i := 138) rfl), by decide +kernel⟩
  | 2, _ => exact ⟨it1 (List.mem_of_getElem? (i := 140) rfl), by decide +kernel⟩
  | 3, _ => exact ⟨it1 (List.mem_of_getElem? (i := 142) rfl), by decide +kernel⟩
  | k + 4, hk => omega
theorem CF5 : CF 5 RX5 TX5 4 tyX5 := ⟨rfl, cw5, tyX5_ok, nmX5⟩
theorem okT5 : ∀ j, j < 4 → okT (tyX5 j) = true := by decide +kernel
theorem vc_5 : vcl[5]? = some (RX5, TX5, 4) := rfl
theorem in_5 : Cond.instantiable RX5 4 ∈ lw_tbl := it1 (List.mem_of_getElem? (i := 121) rfl)
theorem ii_5 : Cond.initialized RX5 ∈ lw_tbl := it1 (List.mem_of_getElem? (i := 6) rfl)
theorem cw6 : ∀ w ∈ u_ws RX6 TX6 2, w ∈ lw_tbl ∧ goodWord w = true := by
  intro w hw
  obtain ⟨k, hk, rfl⟩ := List.mem_map.mp hw
  have hk := List.mem_range.mp hk
  match k, hk with
  | 0, _ => exact ⟨it1 (List.mem_of_getElem? (i := 39) rfl), by decide +kernel⟩
  | 1, _ => exact ⟨it1 (List.mem_of_getElem? (i := 41) rfl), by decide +kernel⟩
  | k + 2, hk => omega
theorem CF6 : CF 6 RX6 TX6 2 tyX6 := ⟨rfl, cw6, tyX6_ok, nmX6⟩
theorem okT6 : ∀ j, j < 2 → okT (tyX6 j) = true := by decide +kernel
theorem vc_6 : vcl[6]? = some (RX6, TX6, 2) := rfl
theorem in_6 : Cond.instantiable RX6 2 ∈ lw_tbl := it1 (List.mem_of_getElem? (i := 30) rfl)
theorem ii_6 : Cond.initialized RX6 ∈ lw_tbl := it1 (List.mem_of_getElem? (i := 2) rfl)
theorem cw7 : ∀ w ∈ u_ws RX7 TX7 9, w ∈ lw_tbl ∧ goodWord w = true := by
  intro w hw
  obtain ⟨k, hk, rfl⟩ := List.mem_map.mp hw
  have hk := List.mem_range.mp hk
  match k, hk with
  | 0, _ => exact ⟨it1 (List.mem_of_getElem? (i := 69) rfl), by decide +kernel⟩
  | 1, _ => exact ⟨it1 (List.mem_of_getElem? (i := 71) rfl), by decide +kernel⟩
  | 2, _ => exact ⟨it1 (List.mem_of_getElem? (i := 73) rfl), by decide +kernel⟩
  | 3, _ => exact ⟨it1 (List.mem_of_getElem? (i := 75) rfl), by decide +kernel⟩
  | 4, _ => exact ⟨it1 (List.mem_of_getElem? (i := 77) rfl), by decide +kernel⟩
  | 5, _ => exact ⟨it1 (List.mem_of_getElem? (i := 79) rfl), by decide +kernel⟩
  | 6, _ => exact ⟨it1 (List.mem_of_getElem? (i := 81) rfl), by decide +kernel⟩
  | 7, _ => exact ⟨it1 (List.mem_of_getElem? (i := 83) rfl), by decide +kernel⟩
  | 8, _ => exact ⟨it1 (List.mem_of_getElem? (i := 85) rfl), by decide +kernel⟩
  | k + 9, hk => omega
theorem CF7 : CF 7 RX7 TX7 9 tyX7 := ⟨rfl, cw7, tyX7_ok, nmX7⟩
theorem okT7 : ∀ j, j < 9 → okT (tyX7 j) = true := by decide +kernel
theorem vc_7 : vcl[7]? = some (RX7, TX7, 9) := rfl
theorem in_7 : Cond.instantiable RX7 9 ∈ lw_tbl := it1 (List.mem_of_getElem? (i := 52) rfl)
theorem ii_7 : Cond.initialized RX7 ∈ lw_tbl := it1 (List.mem_of_getElem? (i := 4) rfl)
theorem cw8 : ∀ w ∈ u_ws RX8 TX8 4, w ∈ lw_tbl ∧ goodWord w = true := by
  intro w hw
  obtain ⟨k, hk, rfl⟩ := List.mem_map.mp hw
  have hk := List.mem_range.mp hk
  match k, hk with
  | 0, _ => exact ⟨it1 (List.mem_of_getElem? (i := 196) rfl), by decide +kernel⟩
  | 1, _ => exact ⟨it1 (List.mem_of_getElem? (i := 198) rfl), by decide +kernel⟩
  | 2, _ => exact ⟨it1 (List.mem_of_getElem? (i := 200) rfl), by decide +kernel⟩
  | 3, _ => exact ⟨it1 (List.mem_of_getElem? (i := 202) rfl), by decide +kernel⟩
  | k + 4, hk => omega
theorem CF8 : CF 8 RX8 TX8 4 tyX8 := ⟨rfl, cw8, tyX8_ok, nmX8⟩
theorem okT8 : ∀ j, j < 4 → okT (tyX8 j) = true := by decide +kernel
theorem vc_8 : vcl[8]? = some (RX8, TX8, 4) := rfl
theorem in_8 : Cond.instantiable RX8 4 ∈ lw_tbl := it1 (List.mem_of_getElem? (i := 115) rfl)
theorem ii_8 : Cond.initialized RX8 ∈ lw_tbl := it1 (List.mem_of_getElem? (i := 5) rfl)
theorem cw9 : ∀ w ∈ u_ws RX9 TX9 12, w ∈ lw_tbl ∧ goodWord w = true := by
  intro w hw
  obtain ⟨k, hk, rfl⟩ := List.mem_map.mp hw
  have hk := List.mem_range.mp hk
  match k, hk with
  | 0, _ => exact ⟨it1 (List.mem_of_getElem? (i := 224) rfl), by decide +kernel⟩
  | 1, _ => exact ⟨it1 (List.mem_of_getElem? (i := 226) rfl), by decide +kernel⟩
  | 2, _ => exact ⟨it1 (List.mem_of_getElem? (i := 228) rfl), by decide +kernel⟩
  | 3, _ => exact ⟨it1 (List.mem_of_getElem? (i := 230) rfl), by decide +kernel⟩
  | 4, _ => exact ⟨it1 (List.mem_of_getElem? (i := 232) rfl), by decide +kernel⟩
  | 5, _ => exact ⟨it1 (List.mem_of_getElem? (i := 234) rfl), by decide +kernel⟩
  | 6, _ => exact ⟨it1 (List.mem_of_getElem? (i := 236) rfl), by decide +kernel⟩
  | 7, _ => exact ⟨it1 (List.mem_of_getElem? (i := 238) rfl), by decide +kernel⟩
  | 8, _ => exact ⟨it2 (List.mem_of_getElem? (i := 0) rfl), by decide +kernel⟩
  | 9, _ => exact ⟨it2 (List.mem_of_getElem? (i := 2) rfl), by decide +kernel⟩
  | 10, _ => exact ⟨it2 (List.mem_of_getElem? (i := 4) rfl), by decide +kernel⟩
  | 11, _ => exact ⟨it2 (List.mem_of_getElem? (i := 6) rfl), by decide +kernel⟩
  | k + 12, hk => omega
theorem CF9 : CF 9 RX9 TX9 12 tyX9 := ⟨rfl, cw9, tyX9_ok, nmX9⟩
theorem okT9 : ∀ j, j < 12 → okT (tyX9 j) = true := by decide +kernel
theorem vc_9 : vcl[9]? = some (RX9, TX9, 12) := rfl
theorem in_9 : Cond.instantiable RX9 12 ∈ lw_tbl := it1 (List.mem_of_getElem? (i := 207) rfl)
theorem ii_9 : Cond.initialized RX9 ∈ lw_tbl := it1 (List.mem_of_getElem? (i := 9) rfl)
theorem cw10 : ∀ w ∈ u_ws RX10 TX10 9, w ∈ lw_tbl ∧ goodWord w = true := by
  intro w hw
  obtain ⟨k, hk, rfl⟩ := List.mem_map.mp hw
  have hk := List.mem_range.mp hk
  match k, hk with
  | 0, _ => exact ⟨it2 (List.mem_of_getElem? (i := 51) rfl), by decide +kernel⟩
  | 1, _ => exact ⟨it2 (List.mem_of_getElem? (i := 53) rfl), by decide +kernel⟩
  | 2, _ => exact ⟨it2 (List.mem_of_getElem? (i := 55) rfl), by decide +kernel⟩
  | 3, _ => exact ⟨it2 (List.mem_of_getElem? (i := 57) rfl), by decide +kernel⟩
  | 4, _ => exact ⟨it2 (List.mem_of_getElem? (i := 59) rfl), by decide +kernel⟩
  | 5, _ => exact ⟨it2 (List.mem_of_getElem? (i := 61) rfl), by decide +kernel⟩
  | 6, _ => exact ⟨it2 (List.mem_of_getElem? (i := 63) rfl), by decide +kernel⟩
  | 7, _ => exact ⟨it2 (List.mem_of_getElem? (i := 65) rfl), by decide +kernel⟩
  | 8, _ => exact ⟨it2 (List.mem_of_getElem? (i := 67) rfl), by decide +kernel⟩
  | k + 9, hk => omega
theorem CF10 : CF 10 RX10 TX10 9 tyX10 := ⟨rfl, cw10, tyX10_ok, nmX10⟩
theorem okT10 : ∀ j, j < 9 → okT (tyX10 j) = true := by decide +kernel
theorem vc_10 : vcl[10]? = some (RX10, TX10, 9) := rfl
theorem in_10 : Cond.instantiable RX10 9 ∈ lw_tbl := it1 (List.mem_of_getElem? (i := 22) rfl)
theorem ii_10 : Cond.initialized RX10 ∈ lw_tbl := it1 (List.mem_of_getElem? (i := 1) rfl)
theorem cw11 : ∀ w ∈ u_ws RX11 TX11 50, w ∈ lw_tbl ∧ goodWord w = true := by
  intro w hw
  obtain ⟨k, hk, rfl⟩ := List.mem_map.mp hw
  have hk := List.mem_range.mp hk
  match k, hk with
  | 0, _ => exact ⟨it4 (List.mem_of_getElem? (i := 234) rfl), by decide +kernel⟩
  | 1, _ => exact ⟨it4 (List.mem_of_getElem? (i := 236) rfl), by decide +kernel⟩
  | 2, _ => exact ⟨it4 (List.mem_of_getElem? (i := 238) rfl), by decide +kernel⟩
  | 3, _ => exact ⟨it5 (List.mem_of_getElem? (i := 0) rfl), by decide +kernel⟩
  | 4, _ => exact ⟨it5 (List.mem_of_getElem? (i := 2) rfl), by decide +kernel⟩
  | 5, _ => exact ⟨it5 (List.mem_of_getElem? (i := 4) rfl), by decide +kernel⟩
  | 6, _ => exact ⟨it5 (List.mem_of_getElem? (i := 6) rfl), by decide +kernel⟩
  | 7, _ => exact ⟨it5 (List.mem_of_getElem? (i := 8) rfl), by decide +kernel⟩
  | 8, _ => exact ⟨it5 (List.mem_of_getElem? (i := 10) rfl), by decide +kernel⟩
  | 9, _ => exact ⟨it5 (List.mem_of_getElem? (i := 12) rfl), by decide +kernel⟩
  | 10, _ => exact ⟨it5 (List.mem_of_getElem? (i := 14) rfl), by decide +kernel⟩
  | 11, _ => exact ⟨it5 (List.mem_of_getElem? (i := 16) rfl), by decide +kernel⟩
  | 12, _ => exact ⟨it5 (List.mem_of_getElem? (i := 18) rfl), by decide +kernel⟩
  | 13, _ => exact ⟨it5 (List.mem_of_getElem? (i := 20) rfl), by decide +kernel⟩
  | 14, _ => exact ⟨it5 (List.mem_of_getElem? (i := 22) rfl), by decide +kernel⟩
  | 15, _ => exact ⟨it5 (List.mem_of_getElem? (i := 24) rfl), by decide +kernel⟩
  | 16, _ => exact ⟨it5 (List.mem_of_getElem? (i := 26) rfl), by decide +kernel⟩
  | 17, _ => exact ⟨it5 (List.mem_of_getElem? (i := 28) rfl), by decide +kernel⟩
  | 18, _ => exact ⟨it5 (List.mem_of_getElem? (i := 30) rfl), by decide +kernel⟩
  | 19, _ => exact ⟨it5 (List.mem_of_getElem? (i := 32) rfl), by decide +kernel⟩
  | 20, _ => exact ⟨it5 (List.mem_of_getElem? (i := 34) rfl), by decide +kernel⟩
  | 21, _ => exact ⟨it5 (List.mem_of_getElem? (i := 36) rfl), by decide +kernel⟩
  | 22, _ => exact ⟨it5 (List.mem_of_getElem? (i := 38) rfl), by decide +kernel⟩
  | 23, _ => exact ⟨it5 (List.mem_of_getElem? (i := 40) rfl), by decide +kernel⟩
  | 24, _ => exact ⟨it5 (List.mem_of_getElem? (i := 42) rfl), by decide +kernel⟩
  | 25, _ => exact ⟨it5 (List.mem_of_getElem? (i := 44) rfl), by decide +kernel⟩
  | 26, _ => exact ⟨it5 (List.mem_of_getElem? (i := 46) rfl), by decide +kernel⟩
  | 27, _ => exact ⟨it5 (List.mem_of_getElem? (i := 48) rfl), by decide +kernel⟩
  | 28, _ => exact ⟨it5 (List.mem_of_getElem? (i := 50) rfl), by decide +kernel⟩
  | 29, _ => exact ⟨it5 (List.mem_of_getElem? (i := 52) rfl), by decide +kernel⟩
  | 30, _ => exact ⟨it5 (List.mem_of_getElem? (i := 54) rfl), by decide +kernel⟩
  | 31, _ => exact ⟨it5 (List.mem_of_getElem? (i := 56) rfl), by decide +kernel⟩
  | 32, _ => exact ⟨it5 (List.mem_of_getElem? (i := 58) rfl), by decide +kernel⟩
  | 33, _ => exact ⟨it5 (List.mem_of_getElem? (i := 60) rfl), by decide +kernel⟩
  | 34, _ => exact ⟨it5 (List.mem_of_getElem? (i := 62) rfl), by decide +kernel⟩
  | 35, _ => exact ⟨it5 (List.mem_of_getElem? (i := 64) rfl), by decide +kernel⟩
  | 36, _ => exact ⟨it5 (List.mem_of_getElem? (i := 66) rfl), by decide +kernel⟩
  | 37, _ => exact ⟨it5 (List.mem_of_getElem? (i := 68) rfl), by decide +kernel⟩
  | 38, _ => exact ⟨it5 (List.mem_of_getElem? (i := 70) rfl), by decide +kernel⟩
  | 39, _ => exact ⟨it5 (List.mem_of_getElem? (i := 72) rfl), by decide +kernel⟩
  | 40, _ => exact ⟨it5 (List.mem_of_getElem? (i := 74) rfl), by decide +kernel⟩
  | 41, _ => exact ⟨it5 (List.mem_of_getElem? (i := 76) rfl), by decide +kernel⟩
  | 42, _ => exact ⟨it5 (List.mem_of_getElem? (i := 78) rfl), by decide +kernel⟩
  | 43, _ => exact ⟨it5 (List.mem_of_getElem? (i := 80) rfl), by decide +kernel⟩
  | 44, _ => exact ⟨it5 (List.mem_of_getElem? (i := 82) rfl), by decide +kernel⟩
  | 45, _ => exact ⟨it5 (List.mem_of_getElem? (i := 84) rfl), by decide +kernel⟩
  | 46, _ => exact ⟨it5 (List.mem_of_getElem? (i := 86) rfl), by decide +kernel⟩
  | 47, _ => exact ⟨it5 (List.mem_of_getElem? (i := 88) rfl), by decide +kernel⟩
  | 48, _ => exact ⟨it5 (List.mem_of_getElem? (i := 90) rfl), by decide +kernel⟩
  | 49, _ => exact ⟨it5 (List.mem_of_getElem? (i := 92) rfl), by decide +kernel⟩
  | k + 50, hk => omega
theorem CF11 : CF 11 RX11 TX11 50 tyX11 := ⟨rfl, cw11, tyX11_ok, nmX11⟩
theorem okT11 : ∀ j, j < 50 → okT (tyX11 j) = true := by decide +kernel
theorem vc_11 : vcl[11]? = some (RX11, TX11, 50) := rfl
theorem in_11 : Cond.instantiable RX11 50 ∈ lw_tbl := it4 (List.mem_of_getElem? (i := 179) rfl)
theorem ii_11 : Cond.initialized RX11 ∈ lw_tbl := it1 (List.mem_of_getElem? (i := 11) rfl)
theorem fl_RX10_10 : FLk RX10 10 TX10 0 := it2 (List.mem_of_getElem? (i := 42) rfl)
theorem fl_RX10_21 : FLk RX10 21 TX10 1 := it2 (List.mem_of_getElem? (i := 43) rfl)
theorem fl_RX10_28 : FLk RX10 28 TX10 2 := it2 (List.mem_of_getElem? (i := 44) rfl)
theorem fl_RX10_32 : FLk RX10 32 TX10 3 := it2 (List.mem_of_getElem? (i := 45) rfl)
theorem fl_RX10_39 : FLk RX10 39 TX10 4 := it2 (List.mem_of_getElem? (i := 46) rfl)
theorem fl_RX10_46 : FLk RX10 46 TX10 5 := it2 (List.mem_of_getElem? (i := 47) rfl)
theorem fl_RX10_50 : FLk RX10 50 TX10 6 := it2 (List.mem_of_getElem? (i := 48) rfl)
theorem fl_RX10_54 : FLk RX10 54 TX10 7 := it2 (List.mem_of_getElem? (i := 49) rfl)
theorem fl_RX10_58 : FLk RX10 58 TX10 8 := it2 (List.mem_of_getElem? (i := 50) rfl)
theorem fl_RX10_61 : FLn RX10 61 TX6 1 := iu1 (List.mem_of_getElem? (i := 37) rfl)
theorem fl_RX10_76 : FLn RX10 76 TX2 5 := iu1 (List.mem_of_getElem? (i := 96) rfl)
theorem fl_RX10_79 : FLn RX10 79 TX2 6 := iu1 (List.mem_of_getElem? (i := 98) rfl)
theorem fl_RX10_84 : FLn RX10 84 TX3 1 := iu1 (List.mem_of_getElem? (i := 174) rfl)
theorem fl_RX10_93 : FLn RX10 93 TX8 0 := iu1 (List.mem_of_getElem? (i := 187) rfl)
theorem fl_RX10_114 : FLn RX10 114 TX8 1 := iu1 (List.mem_of_getElem? (i := 190) rfl)
theorem fl_RX10_141 : FLn RX10 141 TX8 2 := iu1 (List.mem_of_getElem? (i := 193) rfl)
theorem fl_RX10_144 : FLn RX10 144 TX5 3 := iu1 (List.mem_of_getElem? (i := 135) rfl)
theorem fl_RX10_196 : FLn RX10 196 TX4 6 := iu2 (List.mem_of_getElem? (i := 22) rfl)
theorem fl_RX10_199 : FLn RX10 199 TX4 7 := iu2 (List.mem_of_getElem? (i := 24) rfl)
theorem fl_RX10_207 : FLn RX10 207 TX1 3 := iu4 (List.mem_of_getElem? (i := 99) rfl)
theorem fl_RX10_211 : FLn RX10 211 TX1 0 := iu4 (List.mem_of_getElem? (i := 93) rfl)
theorem fl_RX10_214 : FLn RX10 214 TX1 1 := iu4 (List.mem_of_getElem? (i := 95) rfl)
theorem fl_RX10_215 : FLn RX10 215 TX1 2 := iu4 (List.mem_of_getElem? (i := 97) rfl)
theorem fl_RX10_235 : FLn RX10 235 TX3 0 := iu1 (List.mem_of_getElem? (i := 171) rfl)
theorem fl_RX10_238 : FLn RX10 238 TX8 3 := iu1 (List.mem_of_getElem? (i := 195) rfl)
theorem fl_RX0_9 : FLk RX0 9 TX0 0 := it3 (List.mem_of_getElem? (i := 32) rfl)
theorem fl_RX0_15 : FLk RX0 15 TX0 1 := it3 (List.mem_of_getElem? (i := 35) rfl)
theorem fl_RX0_19 : FLk RX0 19 TX0 2 := it3 (List.mem_of_getElem? (i := 37) rfl)
theorem fl_RX0_22 : FLk RX0 22 TX0 3 := it3 (List.mem_of_getElem? (i := 39) rfl)
theorem fl_RX0_25 : FLk RX0 25 TX0 4 := it3 (List.mem_of_getElem? (i := 41) rfl)
theorem fl_RX0_28 : FLk RX0 28 TX0 5 := it3 (List.mem_of_getElem? (i := 43) rfl)
theorem fl_RX0_31 : FLk RX0 31 TX0 6 := it3 (List.mem_of_getElem? (i := 45) rfl)
theorem fl_RX1_9 : FLk RX1 9 TX1 0 := it4 (List.mem_of_getElem? (i := 92) rfl)
theorem fl_RX1_15 : FLk RX1 15 TX1 1 := it4 (List.mem_of_getElem? (i := 94) rfl)
theorem fl_RX1_18 : FLk RX1 18 TX1 2 := it4 (List.mem_of_getElem? (i := 96) rfl)
theorem fl_RX1_21 : FLk RX1 21 TX1 3 := it4 (List.mem_of_getElem? (i := 98) rfl)
theorem fl_RX2_14 : FLk RX2 14 TX2 0 := it1 (List.mem_of_getElem? (i := 90) rfl)
theorem fl_RX2_22 : FLk RX2 22 TX2 1 := it1 (List.mem_of_getElem? (i := 91) rfl)
theorem fl_RX2_26 : FLk RX2 26 TX2 2 := it1 (List.mem_of_getElem? (i := 92) rfl)
theorem fl_RX2_30 : FLk RX2 30 TX2 3 := it1 (List.mem_of_getElem? (i := 93) rfl)
theorem fl_RX2_34 : FLk RX2 34 TX2 4 := it1 (List.mem_of_getElem? (i := 94) rfl)
theorem fl_RX2_37 : FLk RX2 37 TX2 5 := it1 (List.mem_of_getElem? (i := 95) rfl)
theorem fl_RX2_40 : FLk RX2 40 TX2 6 := it1 (List.mem_of_getElem? (i := 97) rfl)
theorem fl_RX2_57 : FLn RX2 57 TX7 6 := iu1 (List.mem_of_getElem? (i := 64) rfl)
theorem fl_RX2_92 : Cond.fieldLink RX2 92 RX2 "TOP_OF_WHO" "[I" ∈ lw_tbl := it2 (List.mem_of_getElem? (i := 214) rfl)
theorem fl_RX2_99 : Cond.fieldLink RX2 99 RX2 "TOP_OF_WHAT" "[I" ∈ lw_tbl := it2 (List.mem_of_getElem? (i := 221) rfl)
theorem fl_RX2_118 : FLn RX2 118 TX7 7 := iu1 (List.mem_of_getElem? (i := 66) rfl)
theorem fl_RX2_143 : FLn RX2 143 TX7 8 := iu1 (List.mem_of_getElem? (i := 68) rfl)
theorem fl_RX3_9 : FLk RX3 9 TX3 0 := it1 (List.mem_of_getElem? (i := 169) rfl)
theorem fl_RX3_15 : FLk RX3 15 TX3 1 := it1 (List.mem_of_getElem? (i := 172) rfl)
theorem fl_RX3_27 : FLk RX3 27 TX3 2 := it1 (List.mem_of_getElem? (i := 176) rfl)
theorem fl_RX3_63 : FLn RX3 63 TX0 0 := iu3 (List.mem_of_getElem? (i := 34) rfl)
theorem fl_RX4_9 : FLk RX4 9 TX4 0 := it2 (List.mem_of_getElem? (i := 15) rfl)
theorem fl_RX4_15 : FLk RX4 15 TX4 1 := it2 (List.mem_of_getElem? (i := 16) rfl)
theorem fl_RX4_18 : FLn RX4 18 TX3 0 := iu1 (List.mem_of_getElem? (i := 170) rfl)
theorem fl_RX4_24 : FLk RX4 24 TX4 3 := it2 (List.mem_of_getElem? (i := 18) rfl)
theorem fl_RX4_25 : FLn RX4 25 TX3 1 := iu1 (List.mem_of_getElem? (i := 173) rfl)
theorem fl_RX4_29 : FLk RX4 29 TX4 4 := it2 (List.mem_of_getElem? (i := 19) rfl)
theorem fl_RX4_36 : FLk RX4 36 TX4 5 := it2 (List.mem_of_getElem? (i := 20) rfl)
theorem fl_RX4_39 : FLk RX4 39 TX4 2 := it2 (List.mem_of_getElem? (i := 17) rfl)
theorem fl_RX4_42 : FLk RX4 42 TX4 6 := it2 (List.mem_of_getElem? (i := 21) rfl)
theorem fl_RX4_45 : FLk RX4 45 TX4 7 := it2 (List.mem_of_getElem? (i := 23) rfl)
theorem fl_RX5_9 : FLk RX5 9 TX5 0 := it1 (List.mem_of_getElem? (i := 129) rfl)
theorem fl_RX5_15 : FLk RX5 15 TX5 1 := it1 (List.mem_of_getElem? (i := 130) rfl)
theorem fl_RX5_24 : FLk RX5 24 TX5 2 := it1 (List.mem_of_getElem? (i := 131) rfl)
theorem fl_RX5_28 : FLk RX5 28 TX5 3 := it1 (List.mem_of_getElem? (i := 132) rfl)
theorem fl_RX6_9 : FLk RX6 9 TX6 0 := it1 (List.mem_of_getElem? (i := 35) rfl)
theorem fl_RX6_15 : FLk RX6 15 TX6 1 := it1 (List.mem_of_getElem? (i := 36) rfl)
theorem fl_RX7_9 : FLk RX7 9 TX7 0 := it1 (List.mem_of_getElem? (i := 57) rfl)
theorem fl_RX7_15 : FLk RX7 15 TX7 1 := it1 (List.mem_of_getElem? (i := 58) rfl)
theorem fl_RX7_19 : FLk RX7 19 TX7 2 := it1 (List.mem_of_getElem? (i := 59) rfl)
theorem fl_RX7_22 : FLk RX7 22 TX7 3 := it1 (List.mem_of_getElem? (i := 60) rfl)
theorem fl_RX7_25 : FLk RX7 25 TX7 4 := it1 (List.mem_of_getElem? (i := 61) rfl)
theorem fl_RX7_29 : FLk RX7 29 TX7 5 := it1 (List.mem_of_getElem? (i := 62) rfl)
theorem fl_RX7_32 : FLk RX7 32 TX7 6 := it1 (List.mem_of_getElem? (i := 63) rfl)
theorem fl_RX7_35 : FLk RX7 35 TX7 7 := it1 (List.mem_of_getElem? (i := 65) rfl)
theorem fl_RX7_38 : FLk RX7 38 TX7 8 := it1 (List.mem_of_getElem? (i := 67) rfl)
theorem fl_RX7_41 : FLn RX7 41 TX6 1 := iu1 (List.mem_of_getElem? (i := 38) rfl)
theorem fl_RX8_14 : FLk RX8 14 TX8 0 := it1 (List.mem_of_getElem? (i := 185) rfl)
theorem fl_RX8_20 : FLk RX8 20 TX8 1 := it1 (List.mem_of_getElem? (i := 188) rfl)
theorem fl_RX8_23 : FLk RX8 23 TX8 2 := it1 (List.mem_of_getElem? (i := 191) rfl)
theorem fl_RX8_28 : FLk RX8 28 TX8 3 := it1 (List.mem_of_getElem? (i := 194) rfl)
theorem fl_RX8_49 : FLn RX8 49 TX5 3 := iu1 (List.mem_of_getElem? (i := 134) rfl)
theorem fl_RX9_11 : FLk RX9 11 TX9 0 := it1 (List.mem_of_getElem? (i := 212) rfl)
theorem fl_RX9_15 : FLk RX9 15 TX9 2 := it1 (List.mem_of_getElem? (i := 214) rfl)
theorem fl_RX9_19 : FLk RX9 19 TX9 3 := it1 (List.mem_of_getElem? (i := 215) rfl)
theorem fl_RX9_22 : FLk RX9 22 TX9 4 := it1 (List.mem_of_getElem? (i := 216) rfl)
theorem fl_RX9_25 : FLk RX9 25 TX9 5 := it1 (List.mem_of_getElem? (i := 217) rfl)
theorem fl_RX9_28 : FLn RX9 28 TX8 0 := iu1 (List.mem_of_getElem? (i := 186) rfl)
theorem fl_RX9_40 : FLk RX9 40 TX9 6 := it1 (List.mem_of_getElem? (i := 218) rfl)
theorem fl_RX9_49 : FLk RX9 49 TX9 7 := it1 (List.mem_of_getElem? (i := 219) rfl)
theorem fl_RX9_52 : FLk RX9 52 TX9 8 := it1 (List.mem_of_getElem? (i := 220) rfl)
theorem fl_RX9_55 : FLn RX9 55 TX8 1 := iu1 (List.mem_of_getElem? (i := 189) rfl)
theorem fl_RX9_58 : FLk RX9 58 TX9 9 := it1 (List.mem_of_getElem? (i := 221) rfl)
theorem fl_RX9_61 : FLk RX9 61 TX9 10 := it1 (List.mem_of_getElem? (i := 222) rfl)
theorem fl_RX9_64 : FLk RX9 64 TX9 11 := it1 (List.mem_of_getElem? (i := 223) rfl)
theorem fl_RX9_68 : FLn RX9 68 TX8 2 := iu1 (List.mem_of_getElem? (i := 192) rfl)
theorem fl_RX9_75 : FLn RX9 75 TX5 3 := iu1 (List.mem_of_getElem? (i := 133) rfl)
theorem fl_RX9_78 : FLn RX9 78 TX3 2 := iu1 (List.mem_of_getElem? (i := 177) rfl)
theorem fl_RX9_99 : FLn RX9 99 TX0 0 := iu3 (List.mem_of_getElem? (i := 33) rfl)
theorem fl_RX9_104 : FLn RX9 104 TX3 1 := iu1 (List.mem_of_getElem? (i := 175) rfl)
theorem fl_RX9_119 : FLn RX9 119 TX0 6 := iu3 (List.mem_of_getElem? (i := 46) rfl)
theorem fl_RX9_126 : FLn RX9 126 TX0 3 := iu3 (List.mem_of_getElem? (i := 40) rfl)
theorem fl_RX9_127 : FLn RX9 127 TX0 1 := iu3 (List.mem_of_getElem? (i := 36) rfl)
theorem fl_RX9_130 : FLn RX9 130 TX0 2 := iu3 (List.mem_of_getElem? (i := 38) rfl)
theorem fl_RX9_133 : FLn RX9 133 TX0 4 := iu3 (List.mem_of_getElem? (i := 42) rfl)
theorem fl_RX9_136 : FLn RX9 136 TX0 5 := iu3 (List.mem_of_getElem? (i := 44) rfl)
theorem fl_RX9_139 : FLk RX9 139 TX9 1 := it1 (List.mem_of_getElem? (i := 213) rfl)
theorem fl_RX11_7 : FLk RX11 7 TX11 1 := it4 (List.mem_of_getElem? (i := 185) rfl)
theorem fl_RX11_13 : FLk RX11 13 TX11 3 := it4 (List.mem_of_getElem? (i := 187) rfl)
theorem fl_RX11_17 : FLk RX11 17 TX11 4 := it4 (List.mem_of_getElem? (i := 188) rfl)
theorem fl_RX11_20 : FLk RX11 20 TX11 5 := it4 (List.mem_of_getElem? (i := 189) rfl)
theorem fl_RX11_23 : FLk RX11 23 TX11 6 := it4 (List.mem_of_getElem? (i := 190) rfl)
theorem fl_RX11_26 : FLk RX11 26 TX11 7 := it4 (List.mem_of_getElem? (i := 191) rfl)
theorem fl_RX11_29 : FLk RX11 29 TX11 8 := it4 (List.mem_of_getElem? (i := 192) rfl)
theorem fl_RX11_32 : FLk RX11 32 TX11 9 := it4 (List.mem_of_getElem? (i := 193) rfl)
theorem fl_RX11_35 : FLk RX11 35 TX11 10 := it4 (List.mem_of_getElem? (i := 194) rfl)
theorem fl_RX11_38 : FLk RX11 38 TX11 11 := it4 (List.mem_of_getElem? (i := 195) rfl)
theorem fl_RX11_41 : FLk RX11 41 TX11 12 := it4 (List.mem_of_getElem? (i := 196) rfl)
theorem fl_RX11_44 : FLk RX11 44 TX11 13 := it4 (List.mem_of_getElem? (i := 197) rfl)
theorem fl_RX11_47 : FLk RX11 47 TX11 14 := it4 (List.mem_of_getElem? (i := 198) rfl)
theorem fl_RX11_50 : FLk RX11 50 TX11 15 := it4 (List.mem_of_getElem? (i := 199) rfl)
theorem fl_RX11_53 : FLk RX11 53 TX11 16 := it4 (List.mem_of_getElem? (i := 200) rfl)
theorem fl_RX11_56 : FLk RX11 56 TX11 17 := it4 (List.mem_of_getElem? (i := 201) rfl)
theorem fl_RX11_59 : FLk RX11 59 TX11 25 := it4 (List.mem_of_getElem? (i := 209) rfl)
theorem fl_RX11_63 : FLk RX11 63 TX11 32 := it4 (List.mem_of_getElem? (i := 216) rfl)
theorem fl_RX11_66 : FLk RX11 66 TX11 33 := it4 (List.mem_of_getElem? (i := 217) rfl)
theorem fl_RX11_69 : FLk RX11 69 TX11 34 := it4 (List.mem_of_getElem? (i := 218) rfl)
theorem fl_RX11_72 : FLk RX11 72 TX11 37 := it4 (List.mem_of_getElem? (i := 221) rfl)
theorem fl_RX11_75 : FLk RX11 75 TX11 38 := it4 (List.mem_of_getElem? (i := 222) rfl)
theorem fl_RX11_78 : FLk RX11 78 TX11 45 := it4 (List.mem_of_getElem? (i := 229) rfl)
theorem fl_RX11_81 : FLk RX11 81 TX11 46 := it4 (List.mem_of_getElem? (i := 230) rfl)
theorem fl_RX11_84 : FLk RX11 84 TX11 47 := it4 (List.mem_of_getElem? (i := 231) rfl)
theorem fl_RX11_87 : FLk RX11 87 TX11 48 := it4 (List.mem_of_getElem? (i := 232) rfl)
theorem fl_RX11_90 : FLk RX11 90 TX11 49 := it4 (List.mem_of_getElem? (i := 233) rfl)
theorem fl_RX11_94 : FLk RX11 94 TX11 0 := it4 (List.mem_of_getElem? (i := 184) rfl)
theorem fl_RX11_101 : FLk RX11 101 TX11 2 := it4 (List.mem_of_getElem? (i := 186) rfl)
theorem fl_RX11_112 : FLk RX11 112 TX11 18 := it4 (List.mem_of_getElem? (i := 202) rfl)
theorem fl_RX11_115 : FLk RX11 115 TX11 19 := it4 (List.mem_of_getElem? (i := 203) rfl)
theorem fl_RX11_122 : FLk RX11 122 TX11 20 := it4 (List.mem_of_getElem? (i := 204) rfl)
theorem fl_RX11_125 : FLk RX11 125 TX11 22 := it4 (List.mem_of_getElem? (i := 206) rfl)
theorem fl_RX11_128 : FLk RX11 128 TX11 23 := it4 (List.mem_of_getElem? (i := 207) rfl)
theorem fl_RX11_132 : FLk RX11 132 TX11 21 := it4 (List.mem_of_getElem? (i := 205) rfl)
theorem fl_RX11_135 : FLk RX11 135 TX11 24 := it4 (List.mem_of_getElem? (i := 208) rfl)
theorem fl_RX11_138 : FLk RX11 138 TX11 26 := it4 (List.mem_of_getElem? (i := 210) rfl)
theorem fl_RX11_141 : FLk RX11 141 TX11 27 := it4 (List.mem_of_getElem? (i := 211) rfl)
theorem fl_RX11_155 : FLk RX11 155 TX11 35 := it4 (List.mem_of_getElem? (i := 219) rfl)
theorem fl_RX11_162 : FLk RX11 162 TX11 31 := it4 (List.mem_of_getElem? (i := 215) rfl)
theorem fl_RX11_165 : FLk RX11 165 TX11 29 := it4 (List.mem_of_getElem? (i := 213) rfl)
theorem fl_RX11_185 : FLk RX11 185 TX11 30 := it4 (List.mem_of_getElem? (i := 214) rfl)
theorem fl_RX11_234 : FLk RX11 234 TX11 28 := it4 (List.mem_of_getElem? (i := 212) rfl)
theorem fl_RX11_268 : FLk RX11 268 TX11 36 := it4 (List.mem_of_getElem? (i := 220) rfl)
theorem fl_RX11_285 : FLk RX11 285 TX11 40 := it4 (List.mem_of_getElem? (i := 224) rfl)
theorem fl_RX11_288 : FLk RX11 288 TX11 39 := it4 (List.mem_of_getElem? (i := 223) rfl)
theorem fl_RX11_332 : FLk RX11 332 TX11 41 := it4 (List.mem_of_getElem? (i := 225) rfl)
theorem fl_RX11_336 : FLk RX11 336 TX11 42 := it4 (List.mem_of_getElem? (i := 226) rfl)
theorem fl_RX11_339 : FLk RX11 339 TX11 43 := it4 (List.mem_of_getElem? (i := 227) rfl)
theorem fl_RX11_342 : FLk RX11 342 TX11 44 := it4 (List.mem_of_getElem? (i := 228) rfl)
theorem cl_RX10_7 : Cond.classLink RX10 7 RX6 ∈ lw_tbl := it1 (List.mem_of_getElem? (i := 29) rfl)
theorem cl_RX10_16 : Cond.classLink RX10 16 RX2 ∈ lw_tbl := it1 (List.mem_of_getElem? (i := 45) rfl)
theorem cl_RX10_25 : Cond.classLink RX10 25 RX8 ∈ lw_tbl := it1 (List.mem_of_getElem? (i := 114) rfl)
theorem cl_RX10_36 : Cond.classLink RX10 36 RX9 ∈ lw_tbl := it1 (List.mem_of_getElem? (i := 206) rfl)
theorem cl_RX10_43 : Cond.classLink RX10 43 RX4 ∈ lw_tbl := it2 (List.mem_of_getElem? (i := 9) rfl)
theorem cl_RX10_194 : Cond.classLink RX10 194 RX1 ∈ lw_tbl := it4 (List.mem_of_getElem? (i := 86) rfl)
theorem cl_RX0_10 : Cond.classLink RX0 10 RX0 ∈ lw_tbl := it4 (List.mem_of_getElem? (i := 136) rfl)
theorem cl_RX2_9 : Cond.classLink RX2 9 RX7 ∈ lw_tbl := it1 (List.mem_of_getElem? (i := 51) rfl)
theorem cl_RX2_20 : Cond.classLink RX2 20 RX0 ∈ lw_tbl := it1 (List.mem_of_getElem? (i := 88) rfl)
theorem cl_RX2_63 : Cond.classLink RX2 63 RX3 ∈ lw_tbl := it3 (List.mem_of_getElem? (i := 63) rfl)
theorem cl_RX3_10 : Cond.classLink RX3 10 RX3 ∈ lw_tbl := it4 (List.mem_of_getElem? (i := 138) rfl)
theorem cl_RX3_47 : Cond.classLink RX3 47 RX0 ∈ lw_tbl := it4 (List.mem_of_getElem? (i := 131) rfl)
theorem cl_RX8_9 : Cond.classLink RX8 9 RX5 ∈ lw_tbl := it1 (List.mem_of_getElem? (i := 120) rfl)
theorem cl_RX8_26 : Cond.classLink RX8 26 RX3 ∈ lw_tbl := it1 (List.mem_of_getElem? (i := 145) rfl)
theorem cl_RX8_32 : Cond.classLink RX8 32 RX0 ∈ lw_tbl := it1 (List.mem_of_getElem? (i := 148) rfl)
theorem cl_RL_7 : Cond.classLink RL 7 RX10 ∈ lw_tbl := it1 (List.mem_of_getElem? (i := 21) rfl)
theorem cl_RL_10 : Cond.classLink RL 10 RX11 ∈ lw_tbl := it4 (List.mem_of_getElem? (i := 178) rfl)
theorem kc_RX9_108 : Cond.constant RX9 108 (16777215 : Int32) ∈ lw_tbl := it3 (List.mem_of_getElem? (i := 171) rfl)
theorem kc_RX11_168 : Cond.constantLong RX11 168 (25209 : Int64) ∈ lw_tbl := it5 (List.mem_of_getElem? (i := 131) rfl)
theorem kc_RX11_174 : Cond.constantLong RX11 174 (439855772532 : Int64) ∈ lw_tbl := it5 (List.mem_of_getElem? (i := 136) rfl)
theorem kc_RX11_176 : Cond.constantLong RX11 176 (1818325876 : Int64) ∈ lw_tbl := it5 (List.mem_of_getElem? (i := 137) rfl)
theorem kc_RX11_178 : Cond.constantLong RX11 178 (1937010544 : Int64) ∈ lw_tbl := it5 (List.mem_of_getElem? (i := 138) rfl)
theorem kc_RX11_180 : Cond.constantLong RX11 180 (7103860 : Int64) ∈ lw_tbl := it5 (List.mem_of_getElem? (i := 139) rfl)
theorem kc_RX11_197 : Cond.constantLong RX11 197 (2003330414 : Int64) ∈ lw_tbl := it5 (List.mem_of_getElem? (i := 189) rfl)
theorem kc_RX11_205 : Cond.constantLong RX11 205 (6384748 : Int64) ∈ lw_tbl := it5 (List.mem_of_getElem? (i := 164) rfl)
theorem kc_RX11_207 : Cond.constantLong RX11 207 (444301538672 : Int64) ∈ lw_tbl := it5 (List.mem_of_getElem? (i := 165) rfl)
theorem kc_RX11_209 : Cond.constantLong RX11 209 (7302757 : Int64) ∈ lw_tbl := it5 (List.mem_of_getElem? (i := 166) rfl)
theorem kc_RX11_211 : Cond.constantLong RX11 211 (478745093490 : Int64) ∈ lw_tbl := it5 (List.mem_of_getElem? (i := 167) rfl)
theorem kc_RX11_213 : Cond.constantLong RX11 213 (427020345714 : Int64) ∈ lw_tbl := it5 (List.mem_of_getElem? (i := 168) rfl)
theorem kc_RX11_218 : Cond.constantLong RX11 218 (6385273 : Int64) ∈ lw_tbl := it5 (List.mem_of_getElem? (i := 177) rfl)
theorem kc_RX11_220 : Cond.constantLong RX11 220 (1919246692 : Int64) ∈ lw_tbl := it5 (List.mem_of_getElem? (i := 178) rfl)
theorem kc_RX11_222 : Cond.constantLong RX11 222 (513020621925 : Int64) ∈ lw_tbl := it5 (List.mem_of_getElem? (i := 179) rfl)
theorem kc_RX11_224 : Cond.constantLong RX11 224 (495672455781 : Int64) ∈ lw_tbl := it5 (List.mem_of_getElem? (i := 180) rfl)
theorem kc_RX11_226 : Cond.constantLong RX11 226 (1685221232 : Int64) ∈ lw_tbl := it5 (List.mem_of_getElem? (i := 181) rfl)
theorem kc_RX11_228 : Cond.constantLong RX11 228 (1802071652 : Int64) ∈ lw_tbl := it5 (List.mem_of_getElem? (i := 186) rfl)
theorem kc_RX11_230 : Cond.constantLong RX11 230 (499967946343 : Int64) ∈ lw_tbl := it5 (List.mem_of_getElem? (i := 187) rfl)
theorem kc_RX11_232 : Cond.constantLong RX11 232 (465558725996 : Int64) ∈ lw_tbl := it5 (List.mem_of_getElem? (i := 188) rfl)
theorem kc_RX11_240 : Cond.constantLong RX11 240 (28530 : Int64) ∈ lw_tbl := it5 (List.mem_of_getElem? (i := 218) rfl)
theorem kc_RX11_245 : Cond.constantLong RX11 245 (6385252 : Int64) ∈ lw_tbl := it5 (List.mem_of_getElem? (i := 217) rfl)
theorem kc_RX11_247 : Cond.constantLong RX11 247 (7237492 : Int64) ∈ lw_tbl := it5 (List.mem_of_getElem? (i := 202) rfl)
theorem kc_RX11_255 : Cond.constantLong RX11 255 (1752135026 : Int64) ∈ lw_tbl := it5 (List.mem_of_getElem? (i := 215) rfl)
theorem kc_RX11_257 : Cond.constantLong RX11 257 (113741193900147 : Int64) ∈ lw_tbl := it5 (List.mem_of_getElem? (i := 216) rfl)
theorem kc_RJ6_127 : Cond.constant RJ6 127 (-2147483648 : Int32) ∈ lw_tbl := it4 (List.mem_of_getElem? (i := 79) rfl)
theorem kc_RJ6_264 : Cond.constant RJ6 264 (65536 : Int32) ∈ lw_tbl := it4 (List.mem_of_getElem? (i := 35) rfl)
theorem kc_RJ6_265 : Cond.constant RJ6 265 (1431655765 : Int32) ∈ lw_tbl := it3 (List.mem_of_getElem? (i := 143) rfl)
theorem kc_RJ6_266 : Cond.constant RJ6 266 (858993459 : Int32) ∈ lw_tbl := it3 (List.mem_of_getElem? (i := 144) rfl)
theorem kc_RJ6_267 : Cond.constant RJ6 267 (252645135 : Int32) ∈ lw_tbl := it3 (List.mem_of_getElem? (i := 145) rfl)
abbrev m_X0_init : MM := (yX0_init, cX0_init, 8, (Option.none : Option Jvm.ClassFile.FieldType))
theorem mk_X0_init : MK m_X0_init 7 := ⟨by decide +kernel, it3 (List.mem_of_getElem? (i := 30) rfl), it1 (List.mem_of_getElem? (i := 16) rfl), ⟨by decide +kernel, by decide +kernel⟩, by decide +kernel, by decide +kernel⟩
theorem im_X0_init : Cond.instanceMethod yX0_init ∈ lw_tbl := it3 (List.mem_of_getElem? (i := 29) rfl)
abbrev m_X0_turned : MM := (yX0_turned, cX0_turned, 1, (Option.some (Jvm.ClassFile.FieldType.object "RulesTried$Line")))
theorem mk_X0_turned : MK m_X0_turned 0 := ⟨by decide +kernel, it4 (List.mem_of_getElem? (i := 135) rfl), it1 (List.mem_of_getElem? (i := 16) rfl), ⟨by decide +kernel, by decide +kernel⟩, by decide +kernel, by decide +kernel⟩
theorem im_X0_turned : Cond.instanceMethod yX0_turned ∈ lw_tbl := it4 (List.mem_of_getElem? (i := 133) rfl)
theorem se_X0_turned : Cond.selects RX0 yX0_turned yX0_turned ∈ lw_tbl := it4 (List.mem_of_getElem? (i := 134) rfl)
abbrev m_X0_part : MM := (yX0_part, cX0_part, 2, (Option.some Jvm.ClassFile.FieldType.int))
theorem mk_X0_part : MK m_X0_part 1 := ⟨by decide +kernel, it4 (List.mem_of_getElem? (i := 147) rfl), it1 (List.mem_of_getElem? (i := 16) rfl), ⟨by decide +kernel, by decide +kernel⟩, by decide +kernel, by decide +kernel⟩
theorem im_X0_part : Cond.instanceMethod yX0_part ∈ lw_tbl := it4 (List.mem_of_getElem? (i := 145) rfl)
theorem se_X0_part : Cond.selects RX0 yX0_part yX0_part ∈ lw_tbl := it4 (List.mem_of_getElem? (i := 146) rfl)
abbrev m_X0_step : MM := (yX0_step, cX0_step, 3, (Option.some Jvm.ClassFile.FieldType.int))
theorem mk_X0_step : MK m_X0_step 3 := ⟨by decide +kernel, it3 (List.mem_of_getElem? (i := 1) rfl), it1 (List.mem_of_getElem? (i := 16) rfl), ⟨by decide +kernel, by decide +kernel⟩, by decide +kernel, by decide +kernel⟩
theorem sm_X0_step : Cond.static yX0_step ∈ lw_tbl := it3 (List.mem_of_getElem? (i := 0) rfl)
abbrev m_X0_deedOf : MM := (yX0_deedOf, cX0_deedOf, 1, (Option.some Jvm.ClassFile.FieldType.int))
theorem mk_X0_deedOf : MK m_X0_deedOf 1 := ⟨by decide +kernel, it3 (List.mem_of_getElem? (i := 188) rfl), it1 (List.mem_of_getElem? (i := 16) rfl), ⟨by decide +kernel, by decide +kernel⟩, by decide +kernel, by decide +kernel⟩
theorem sm_X0_deedOf : Cond.static yX0_deedOf ∈ lw_tbl := it3 (List.mem_of_getElem? (i := 187) rfl)
abbrev m_X0_leftOf : MM := (yX0_leftOf, cX0_leftOf, 1, (Option.some Jvm.ClassFile.FieldType.int))
theorem mk_X0_leftOf : MK m_X0_leftOf 1 := ⟨by decide +kernel, it3 (List.mem_of_getElem? (i := 182) rfl), it1 (List.mem_of_getElem? (i := 16) rfl), ⟨by decide +kernel, by decide +kernel⟩, by decide +kernel, by decide +kernel⟩
theorem sm_X0_leftOf : Cond.static yX0_leftOf ∈ lw_tbl := it3 (List.mem_of_getElem? (i := 181) rfl)
abbrev m_X0_rightOf : MM := (yX0_rightOf, cX0_rightOf, 1, (Option.some Jvm.ClassFile.FieldType.int))
theorem mk_X0_rightOf : MK m_X0_rightOf 1 := ⟨by decide +kernel, it3 (List.mem_of_getElem? (i := 185) rfl), it1 (List.mem_of_getElem? (i := 16) rfl), ⟨by decide +kernel, by decide +kernel⟩, by decide +kernel, by decide +kernel⟩
theorem sm_X0_rightOf : Cond.static yX0_rightOf ∈ lw_tbl := it3 (List.mem_of_getElem? (i := 184) rfl)
abbrev m_X1_init : MM := (yX1_init, cX1_init, 4, (Option.none : Option Jvm.ClassFile.FieldType))
theorem mk_X1_init : MK m_X1_init 3 := ⟨by decide +kernel, it4 (List.mem_of_getElem? (i := 90) rfl), it1 (List.mem_of_getElem? (i := 20) rfl), ⟨by decide +kernel, by decide +kernel⟩, by decide +kernel, by decide +kernel⟩
theorem im_X1_init : Cond.instanceMethod yX1_init ∈ lw_tbl := it4 (List.mem_of_getElem? (i := 89) rfl)
abbrev m_X1_changeAt : MM := (yX1_changeAt, cX1_changeAt, 4, (Option.some Jvm.ClassFile.FieldType.int))
theorem mk_X1_changeAt : MK m_X1_changeAt 2 := ⟨by decide +kernel, it4 (List.mem_of_getElem? (i := 116) rfl), it1 (List.mem_of_getElem? (i := 20) rfl), ⟨by decide +kernel, by decide +kernel⟩, by decide +kernel, by decide +kernel⟩
theorem im_X1_changeAt : Cond.instanceMethod yX1_changeAt ∈ lw_tbl := it4 (List.mem_of_getElem? (i := 114) rfl)
theorem se_X1_changeAt : Cond.selects RX1 yX1_changeAt yX1_changeAt ∈ lw_tbl := it4 (List.mem_of_getElem? (i := 115) rfl)
abbrev m_X1_lineOf : MM := (yX1_lineOf, cX1_lineOf, 4, (Option.some Jvm.ClassFile.FieldType.int))
theorem mk_X1_lineOf : MK m_X1_lineOf 1 := ⟨by decide +kernel, it4 (List.mem_of_getElem? (i := 120) rfl), it1 (List.mem_of_getElem? (i := 20) rfl), ⟨by decide +kernel, by decide +kernel⟩, by decide +kernel, by decide +kernel⟩
theorem im_X1_lineOf : Cond.instanceMethod yX1_lineOf ∈ lw_tbl := it4 (List.mem_of_getElem? (i := 119) rfl)
theorem se_X1_lineOf : Cond.selects RX1 yX1_lineOf yX1_lineOf ∈ lw_tbl := ip3 (q := (yX1_lineOf, 4)) (List.mem_of_getElem? (i := 3) rfl)
abbrev m_X2_init : MM := (yX2_init, cX2_init, 2, (Option.none : Option Jvm.ClassFile.FieldType))
theorem mk_X2_init : MK m_X2_init 1 := ⟨by decide +kernel, it1 (List.mem_of_getElem? (i := 49) rfl), it1 (List.mem_of_getElem? (i := 3) rfl), ⟨by decide +kernel, by decide +kernel⟩, by decide +kernel, by decide +kernel⟩
theorem im_X2_init : Cond.instanceMethod yX2_init ∈ lw_tbl := it1 (List.mem_of_getElem? (i := 48) rfl)
abbrev m_X2_read : MM := (yX2_read, cX2_read, 3, (Option.some (Jvm.ClassFile.FieldType.object "RulesTried$Rules")))
theorem mk_X2_read : MK m_X2_read 0 := ⟨by decide +kernel, it2 (List.mem_of_getElem? (i := 90) rfl), it1 (List.mem_of_getElem? (i := 3) rfl), ⟨by decide +kernel, by decide +kernel⟩, by decide +kernel, by decide +kernel⟩
theorem im_X2_read : Cond.instanceMethod yX2_read ∈ lw_tbl := it2 (List.mem_of_getElem? (i := 88) rfl)
theorem se_X2_read : Cond.selects RX2 yX2_read yX2_read ∈ lw_tbl := it2 (List.mem_of_getElem? (i := 89) rfl)
abbrev m_X2_linesRead : MM := (yX2_linesRead, cX2_linesRead, 3, (Option.some (Jvm.ClassFile.FieldType.array (Jvm.ClassFile.FieldType.object "RulesTried$Line"))))
theorem mk_X2_linesRead : MK m_X2_linesRead 0 := ⟨by decide +kernel, it3 (List.mem_of_getElem? (i := 67) rfl), it1 (List.mem_of_getElem? (i := 3) rfl), ⟨by decide +kernel, by decide +kernel⟩, by decide +kernel, by decide +kernel⟩
theorem im_X2_linesRead : Cond.instanceMethod yX2_linesRead ∈ lw_tbl := it3 (List.mem_of_getElem? (i := 66) rfl)
theorem se_X2_linesRead : Cond.selects RX2 yX2_linesRead yX2_linesRead ∈ lw_tbl := ip2 (q := (yX2_linesRead, 7)) (List.mem_of_getElem? (i := 3) rfl)
abbrev m_X2_readHow : MM := (yX2_readHow, cX2_readHow, 2, (Option.some Jvm.ClassFile.FieldType.int))
theorem mk_X2_readHow : MK m_X2_readHow 0 := ⟨by decide +kernel, it2 (List.mem_of_getElem? (i := 184) rfl), it1 (List.mem_of_getElem? (i := 3) rfl), ⟨by decide +kernel, by decide +kernel⟩, by decide +kernel, by decide +kernel⟩
theorem im_X2_readHow : Cond.instanceMethod yX2_readHow ∈ lw_tbl := it2 (List.mem_of_getElem? (i := 183) rfl)
theorem se_X2_readHow : Cond.selects RX2 yX2_readHow yX2_readHow ∈ lw_tbl := ip1 (q := (yX2_readHow, 7)) (List.mem_of_getElem? (i := 4) rfl)
abbrev m_X2_startsLine : MM := (yX2_startsLine, cX2_startsLine, 1, (Option.some Jvm.ClassFile.FieldType.boolean))
theorem mk_X2_startsLine : MK m_X2_startsLine 0 := ⟨by decide +kernel, it2 (List.mem_of_getElem? (i := 205) rfl), it1 (List.mem_of_getElem? (i := 3) rfl), ⟨by decide +kernel, by decide +kernel⟩, by decide +kernel, by decide +kernel⟩
theorem im_X2_startsLine : Cond.instanceMethod yX2_startsLine ∈ lw_tbl := it2 (List.mem_of_getElem? (i := 204) rfl)
theorem se_X2_startsLine : Cond.selects RX2 yX2_startsLine yX2_startsLine ∈ lw_tbl := ip1 (q := (yX2_startsLine, 7)) (List.mem_of_getElem? (i := 9) rfl)
abbrev m_X2_readLine : MM := (yX2_readLine, cX2_readLine, 8, (Option.none : Option Jvm.ClassFile.FieldType))
theorem mk_X2_readLine : MK m_X2_readLine 0 := ⟨by decide +kernel, it2 (List.mem_of_getElem? (i := 209) rfl), it1 (List.mem_of_getElem? (i := 3) rfl), ⟨by decide +kernel, by decide +kernel⟩, by decide +kernel, by decide +kernel⟩
theorem im_X2_readLine : Cond.instanceMethod yX2_readLine ∈ lw_tbl := it2 (List.mem_of_getElem? (i := 208) rfl)
theorem se_X2_readLine : Cond.selects RX2 yX2_readLine yX2_readLine ∈ lw_tbl := ip1 (q := (yX2_readLine, 7)) (List.mem_of_getElem? (i := 10) rfl)
abbrev m_X2_numberBehind : MM := (yX2_numberBehind, cX2_numberBehind, 5, (Option.some Jvm.ClassFile.FieldType.int))
theorem mk_X2_numberBehind : MK m_X2_numberBehind 2 := ⟨by decide +kernel, it2 (List.mem_of_getElem? (i := 219) rfl), it1 (List.mem_of_getElem? (i := 3) rfl), ⟨by decide +kernel, by decide +kernel⟩, by decide +kernel, by decide +kernel⟩
theorem im_X2_numberBehind : Cond.instanceMethod yX2_numberBehind ∈ lw_tbl := it2 (List.mem_of_getElem? (i := 218) rfl)
theorem se_X2_numberBehind : Cond.selects RX2 yX2_numberBehind yX2_numberBehind ∈ lw_tbl := ip1 (q := (yX2_numberBehind, 7)) (List.mem_of_getElem? (i := 12) rfl)
abbrev m_X2_readEither : MM := (yX2_readEither, cX2_readEither, 3, (Option.none : Option Jvm.ClassFile.FieldType))
theorem mk_X2_readEither : MK m_X2_readEither 1 := ⟨by decide +kernel, it2 (List.mem_of_getElem? (i := 226) rfl), it1 (List.mem_of_getElem? (i := 3) rfl), ⟨by decide +kernel, by decide +kernel⟩, by decide +kernel, by decide +kernel⟩
theorem im_X2_readEither : Cond.instanceMethod yX2_readEither ∈ lw_tbl := it2 (List.mem_of_getElem? (i := 225) rfl)
theorem se_X2_readEither : Cond.selects RX2 yX2_readEither yX2_readEither ∈ lw_tbl := ip1 (q := (yX2_readEither, 7)) (List.mem_of_getElem? (i := 13) rfl)
abbrev m_X2_readBoth : MM := (yX2_readBoth, cX2_readBoth, 4, (Option.none : Option Jvm.ClassFile.FieldType))
theorem mk_X2_readBoth : MK m_X2_readBoth 1 := ⟨by decide +kernel, it2 (List.mem_of_getElem? (i := 230) rfl), it1 (List.mem_of_getElem? (i := 3) rfl), ⟨by decide +kernel, by decide +kernel⟩, by decide +kernel, by decide +kernel⟩
theorem im_X2_readBoth : Cond.instanceMethod yX2_readBoth ∈ lw_tbl := it2 (List.mem_of_getElem? (i := 229) rfl)
theorem se_X2_readBoth : Cond.selects RX2 yX2_readBoth yX2_readBoth ∈ lw_tbl := ip1 (q := (yX2_readBoth, 7)) (List.mem_of_getElem? (i := 14) rfl)
abbrev m_X2_readOne : MM := (yX2_readOne, cX2_readOne, 5, (Option.none : Option Jvm.ClassFile.FieldType))
theorem mk_X2_readOne : MK m_X2_readOne 1 := ⟨by decide +kernel, it2 (List.mem_of_getElem? (i := 234) rfl), it1 (List.mem_of_getElem? (i := 3) rfl), ⟨by decide +kernel, by decide +kernel⟩, by decide +kernel, by decide +kernel⟩
theorem im_X2_readOne : Cond.instanceMethod yX2_readOne ∈ lw_tbl := it2 (List.mem_of_getElem? (i := 233) rfl)
theorem se_X2_readOne : Cond.selects RX2 yX2_readOne yX2_readOne ∈ lw_tbl := ip1 (q := (yX2_readOne, 7)) (List.mem_of_getElem? (i := 15) rfl)
abbrev m_X2_readTerm : MM := (yX2_readTerm, cX2_readTerm, 2, (Option.some Jvm.ClassFile.FieldType.int))
theorem mk_X2_readTerm : MK m_X2_readTerm 0 := ⟨by decide +kernel, it3 (List.mem_of_getElem? (i := 5) rfl), it1 (List.mem_of_getElem? (i := 3) rfl), ⟨by decide +kernel, by decide +kernel⟩, by decide +kernel, by decide +kernel⟩
theorem im_X2_readTerm : Cond.instanceMethod yX2_readTerm ∈ lw_tbl := it3 (List.mem_of_getElem? (i := 4) rfl)
theorem se_X2_readTerm : Cond.selects RX2 yX2_readTerm yX2_readTerm ∈ lw_tbl := ip2 (q := (yX2_readTerm, 7)) (List.mem_of_getElem? (i := 1) rfl)
abbrev m_X2_termAtHand : MM := (yX2_termAtHand, cX2_termAtHand, 1, (Option.some Jvm.ClassFile.FieldType.int))
theorem mk_X2_termAtHand : MK m_X2_termAtHand 0 := ⟨by decide +kernel, it3 (List.mem_of_getElem? (i := 9) rfl), it1 (List.mem_of_getElem? (i := 3) rfl), ⟨by decide +kernel, by decide +kernel⟩, by decide +kernel, by decide +kernel⟩
theorem im_X2_termAtHand : Cond.instanceMethod yX2_termAtHand ∈ lw_tbl := it3 (List.mem_of_getElem? (i := 8) rfl)
theorem se_X2_termAtHand : Cond.selects RX2 yX2_termAtHand yX2_termAtHand ∈ lw_tbl := ip2 (q := (yX2_termAtHand, 7)) (List.mem_of_getElem? (i := 2) rfl)
abbrev m_X2_addStep : MM := (yX2_addStep, cX2_addStep, 4, (Option.none : Option Jvm.ClassFile.FieldType))
theorem mk_X2_addStep : MK m_X2_addStep 3 := ⟨by decide +kernel, it2 (List.mem_of_getElem? (i := 238) rfl), it1 (List.mem_of_getElem? (i := 3) rfl), ⟨by decide +kernel, by decide +kernel⟩, by decide +kernel, by decide +kernel⟩
theorem im_X2_addStep : Cond.instanceMethod yX2_addStep ∈ lw_tbl := it2 (List.mem_of_getElem? (i := 237) rfl)
theorem se_X2_addStep : Cond.selects RX2 yX2_addStep yX2_addStep ∈ lw_tbl := ip2 (q := (yX2_addStep, 7)) (List.mem_of_getElem? (i := 0) rfl)
abbrev m_X2_takes : MM := (yX2_takes, cX2_takes, 2, (Option.some Jvm.ClassFile.FieldType.boolean))
theorem mk_X2_takes : MK m_X2_takes 1 := ⟨by decide +kernel, it2 (List.mem_of_getElem? (i := 188) rfl), it1 (List.mem_of_getElem? (i := 3) rfl), ⟨by decide +kernel, by decide +kernel⟩, by decide +kernel, by decide +kernel⟩
theorem im_X2_takes : Cond.instanceMethod yX2_takes ∈ lw_tbl := it2 (List.mem_of_getElem? (i := 187) rfl)
theorem se_X2_takes : Cond.selects RX2 yX2_takes yX2_takes ∈ lw_tbl := ip1 (q := (yX2_takes, 7)) (List.mem_of_getElem? (i := 5) rfl)
abbrev m_X2_needs : MM := (yX2_needs, cX2_needs, 2, (Option.none : Option Jvm.ClassFile.FieldType))
theorem mk_X2_needs : MK m_X2_needs 1 := ⟨by decide +kernel, it2 (List.mem_of_getElem? (i := 201) rfl), it1 (List.mem_of_getElem? (i := 3) rfl), ⟨by decide +kernel, by decide +kernel⟩, by decide +kernel, by decide +kernel⟩
theorem im_X2_needs : Cond.instanceMethod yX2_needs ∈ lw_tbl := it2 (List.mem_of_getElem? (i := 200) rfl)
theorem se_X2_needs : Cond.selects RX2 yX2_needs yX2_needs ∈ lw_tbl := ip1 (q := (yX2_needs, 7)) (List.mem_of_getElem? (i := 8) rfl)
abbrev m_X2_choice : MM := (yX2_choice, cX2_choice, 4, (Option.some Jvm.ClassFile.FieldType.int))
theorem mk_X2_choice : MK m_X2_choice 2 := ⟨by decide +kernel, it2 (List.mem_of_getElem? (i := 193) rfl), it1 (List.mem_of_getElem? (i := 3) rfl), ⟨by decide +kernel, by decide +kernel⟩, by decide +kernel, by decide +kernel⟩
theorem im_X2_choice : Cond.instanceMethod yX2_choice ∈ lw_tbl := it2 (List.mem_of_getElem? (i := 192) rfl)
theorem se_X2_choice : Cond.selects RX2 yX2_choice yX2_choice ∈ lw_tbl := ip1 (q := (yX2_choice, 7)) (List.mem_of_getElem? (i := 6) rfl)
abbrev m_X2_refuse : MM := (yX2_refuse, cX2_refuse, 1, (Option.none : Option Jvm.ClassFile.FieldType))
theorem mk_X2_refuse : MK m_X2_refuse 0 := ⟨by decide +kernel, it2 (List.mem_of_getElem? (i := 197) rfl), it1 (List.mem_of_getElem? (i := 3) rfl), ⟨by decide +kernel, by decide +kernel⟩, by decide +kernel, by decide +kernel⟩
theorem im_X2_refuse : Cond.instanceMethod yX2_refuse ∈ lw_tbl := it2 (List.mem_of_getElem? (i := 196) rfl)
theorem se_X2_refuse : Cond.selects RX2 yX2_refuse yX2_refuse ∈ lw_tbl := ip1 (q := (yX2_refuse, 7)) (List.mem_of_getElem? (i := 7) rfl)
abbrev m_X2_note : MM := (yX2_note, cX2_note, 2, (Option.none : Option Jvm.ClassFile.FieldType))
theorem mk_X2_note : MK m_X2_note 1 := ⟨by decide +kernel, it2 (List.mem_of_getElem? (i := 213) rfl), it1 (List.mem_of_getElem? (i := 3) rfl), ⟨by decide +kernel, by decide +kernel⟩, by decide +kernel, by decide +kernel⟩
theorem im_X2_note : Cond.instanceMethod yX2_note ∈ lw_tbl := it2 (List.mem_of_getElem? (i := 212) rfl)
theorem se_X2_note : Cond.selects RX2 yX2_note yX2_note ∈ lw_tbl := ip1 (q := (yX2_note, 7)) (List.mem_of_getElem? (i := 11) rfl)
abbrev m_X3_init : MM := (yX3_init, cX3_init, 3, (Option.none : Option Jvm.ClassFile.FieldType))
theorem mk_X3_init : MK m_X3_init 2 := ⟨by decide +kernel, it1 (List.mem_of_getElem? (i := 151) rfl), it1 (List.mem_of_getElem? (i := 8) rfl), ⟨by decide +kernel, by decide +kernel⟩, by decide +kernel, by decide +kernel⟩
theorem im_X3_init : Cond.instanceMethod yX3_init ∈ lw_tbl := it1 (List.mem_of_getElem? (i := 150) rfl)
abbrev m_X3_lineAt : MM := (yX3_lineAt, cX3_lineAt, 2, (Option.some (Jvm.ClassFile.FieldType.object "RulesTried$Line")))
theorem mk_X3_lineAt : MK m_X3_lineAt 1 := ⟨by decide +kernel, it3 (List.mem_of_getElem? (i := 153) rfl), it1 (List.mem_of_getElem? (i := 8) rfl), ⟨by decide +kernel, by decide +kernel⟩, by decide +kernel, by decide +kernel⟩
theorem im_X3_lineAt : Cond.instanceMethod yX3_lineAt ∈ lw_tbl := it3 (List.mem_of_getElem? (i := 151) rfl)
theorem se_X3_lineAt : Cond.selects RX3 yX3_lineAt yX3_lineAt ∈ lw_tbl := it3 (List.mem_of_getElem? (i := 152) rfl)
abbrev m_X3_letSet : MM := (yX3_letSet, cX3_letSet, 1, (Option.some Jvm.ClassFile.FieldType.int))
theorem mk_X3_letSet : MK m_X3_letSet 0 := ⟨by decide +kernel, it4 (List.mem_of_getElem? (i := 51) rfl), it1 (List.mem_of_getElem? (i := 8) rfl), ⟨by decide +kernel, by decide +kernel⟩, by decide +kernel, by decide +kernel⟩
theorem im_X3_letSet : Cond.instanceMethod yX3_letSet ∈ lw_tbl := it4 (List.mem_of_getElem? (i := 49) rfl)
theorem se_X3_letSet : Cond.selects RX3 yX3_letSet yX3_letSet ∈ lw_tbl := it4 (List.mem_of_getElem? (i := 50) rfl)
abbrev m_X3_changed : MM := (yX3_changed, cX3_changed, 6, (Option.some (Jvm.ClassFile.FieldType.object "RulesTried$Rules")))
theorem mk_X3_changed : MK m_X3_changed 2 := ⟨by decide +kernel, it4 (List.mem_of_getElem? (i := 129) rfl), it1 (List.mem_of_getElem? (i := 8) rfl), ⟨by decide +kernel, by decide +kernel⟩, by decide +kernel, by decide +kernel⟩
theorem im_X3_changed : Cond.instanceMethod yX3_changed ∈ lw_tbl := it4 (List.mem_of_getElem? (i := 127) rfl)
theorem se_X3_changed : Cond.selects RX3 yX3_changed yX3_changed ∈ lw_tbl := it4 (List.mem_of_getElem? (i := 128) rfl)
abbrev m_X3_orderOf : MM := (yX3_orderOf, cX3_orderOf, 6, (Option.some (Jvm.ClassFile.FieldType.array Jvm.ClassFile.FieldType.int)))
theorem mk_X3_orderOf : MK m_X3_orderOf 4 := ⟨by decide +kernel, it1 (List.mem_of_getElem? (i := 158) rfl), it1 (List.mem_of_getElem? (i := 8) rfl), ⟨by decide +kernel, by decide +kernel⟩, by decide +kernel, by decide +kernel⟩
theorem sm_X3_orderOf : Cond.static yX3_orderOf ∈ lw_tbl := it1 (List.mem_of_getElem? (i := 157) rfl)
abbrev m_X3_addLines : MM := (yX3_addLines, cX3_addLines, 5, (Option.some Jvm.ClassFile.FieldType.int))
theorem mk_X3_addLines : MK m_X3_addLines 3 := ⟨by decide +kernel, it1 (List.mem_of_getElem? (i := 162) rfl), it1 (List.mem_of_getElem? (i := 8) rfl), ⟨by decide +kernel, by decide +kernel⟩, by decide +kernel, by decide +kernel⟩
theorem sm_X3_addLines : Cond.static yX3_addLines ∈ lw_tbl := it1 (List.mem_of_getElem? (i := 161) rfl)
abbrev m_X3_letsOf : MM := (yX3_letsOf, cX3_letsOf, 3, (Option.some Jvm.ClassFile.FieldType.int))
theorem mk_X3_letsOf : MK m_X3_letsOf 1 := ⟨by decide +kernel, it1 (List.mem_of_getElem? (i := 155) rfl), it1 (List.mem_of_getElem? (i := 8) rfl), ⟨by decide +kernel, by decide +kernel⟩, by decide +kernel, by decide +kernel⟩
theorem sm_X3_letsOf : Cond.static yX3_letsOf ∈ lw_tbl := it1 (List.mem_of_getElem? (i := 154) rfl)
abbrev m_X4_init : MM := (yX4_init, cX4_init, 1, (Option.none : Option Jvm.ClassFile.FieldType))
theorem mk_X4_init : MK m_X4_init 0 := ⟨by decide +kernel, it2 (List.mem_of_getElem? (i := 13) rfl), it1 (List.mem_of_getElem? (i := 10) rfl), ⟨by decide +kernel, by decide +kernel⟩, by decide +kernel, by decide +kernel⟩
theorem im_X4_init : Cond.instanceMethod yX4_init ∈ lw_tbl := it2 (List.mem_of_getElem? (i := 12) rfl)
abbrev m_X4_start : MM := (yX4_start, cX4_start, 2, (Option.none : Option Jvm.ClassFile.FieldType))
theorem mk_X4_start : MK m_X4_start 1 := ⟨by decide +kernel, it4 (List.mem_of_getElem? (i := 47) rfl), it1 (List.mem_of_getElem? (i := 10) rfl), ⟨by decide +kernel, by decide +kernel⟩, by decide +kernel, by decide +kernel⟩
theorem im_X4_start : Cond.instanceMethod yX4_start ∈ lw_tbl := it4 (List.mem_of_getElem? (i := 45) rfl)
theorem se_X4_start : Cond.selects RX4 yX4_start yX4_start ∈ lw_tbl := it4 (List.mem_of_getElem? (i := 46) rfl)
abbrev m_X4_want : MM := (yX4_want, cX4_want, 4, (Option.none : Option Jvm.ClassFile.FieldType))
theorem mk_X4_want : MK m_X4_want 2 := ⟨by decide +kernel, it4 (List.mem_of_getElem? (i := 59) rfl), it1 (List.mem_of_getElem? (i := 10) rfl), ⟨by decide +kernel, by decide +kernel⟩, by decide +kernel, by decide +kernel⟩
theorem im_X4_want : Cond.instanceMethod yX4_want ∈ lw_tbl := it4 (List.mem_of_getElem? (i := 57) rfl)
theorem se_X4_want : Cond.selects RX4 yX4_want yX4_want ∈ lw_tbl := it4 (List.mem_of_getElem? (i := 58) rfl)
abbrev m_X4_fewest : MM := (yX4_fewest, cX4_fewest, 2, (Option.some Jvm.ClassFile.FieldType.int))
theorem mk_X4_fewest : MK m_X4_fewest 0 := ⟨by decide +kernel, it4 (List.mem_of_getElem? (i := 63) rfl), it1 (List.mem_of_getElem? (i := 10) rfl), ⟨by decide +kernel, by decide +kernel⟩, by decide +kernel, by decide +kernel⟩
theorem im_X4_fewest : Cond.instanceMethod yX4_fewest ∈ lw_tbl := it4 (List.mem_of_getElem? (i := 61) rfl)
theorem se_X4_fewest : Cond.selects RX4 yX4_fewest yX4_fewest ∈ lw_tbl := it4 (List.mem_of_getElem? (i := 62) rfl)
abbrev m_X4_finds : MM := (yX4_finds, cX4_finds, 5, (Option.some Jvm.ClassFile.FieldType.boolean))
theorem mk_X4_finds : MK m_X4_finds 2 := ⟨by decide +kernel, it4 (List.mem_of_getElem? (i := 67) rfl), it1 (List.mem_of_getElem? (i := 10) rfl), ⟨by decide +kernel, by decide +kernel⟩, by decide +kernel, by decide +kernel⟩
theorem im_X4_finds : Cond.instanceMethod yX4_finds ∈ lw_tbl := it4 (List.mem_of_getElem? (i := 66) rfl)
theorem se_X4_finds : Cond.selects RX4 yX4_finds yX4_finds ∈ lw_tbl := ip3 (q := (yX4_finds, 8)) (List.mem_of_getElem? (i := 0) rfl)
abbrev m_X4_allAsMarked : MM := (yX4_allAsMarked, cX4_allAsMarked, 3, (Option.some Jvm.ClassFile.FieldType.boolean))
theorem mk_X4_allAsMarked : MK m_X4_allAsMarked 0 := ⟨by decide +kernel, it4 (List.mem_of_getElem? (i := 71) rfl), it1 (List.mem_of_getElem? (i := 10) rfl), ⟨by decide +kernel, by decide +kernel⟩, by decide +kernel, by decide +kernel⟩
theorem im_X4_allAsMarked : Cond.instanceMethod yX4_allAsMarked ∈ lw_tbl := it4 (List.mem_of_getElem? (i := 70) rfl)
theorem se_X4_allAsMarked : Cond.selects RX4 yX4_allAsMarked yX4_allAsMarked ∈ lw_tbl := ip3 (q := (yX4_allAsMarked, 8)) (List.mem_of_getElem? (i := 1) rfl)
abbrev m_X4_isLet : MM := (yX4_isLet, cX4_isLet, 3, (Option.some Jvm.ClassFile.FieldType.boolean))
theorem mk_X4_isLet : MK m_X4_isLet 2 := ⟨by decide +kernel, it4 (List.mem_of_getElem? (i := 75) rfl), it1 (List.mem_of_getElem? (i := 10) rfl), ⟨by decide +kernel, by decide +kernel⟩, by decide +kernel, by decide +kernel⟩
theorem im_X4_isLet : Cond.instanceMethod yX4_isLet ∈ lw_tbl := it4 (List.mem_of_getElem? (i := 74) rfl)
theorem se_X4_isLet : Cond.selects RX4 yX4_isLet yX4_isLet ∈ lw_tbl := ip3 (q := (yX4_isLet, 8)) (List.mem_of_getElem? (i := 2) rfl)
abbrev m_X5_init : MM := (yX5_init, cX5_init, 3, (Option.none : Option Jvm.ClassFile.FieldType))
theorem mk_X5_init : MK m_X5_init 2 := ⟨by decide +kernel, it1 (List.mem_of_getElem? (i := 124) rfl), it1 (List.mem_of_getElem? (i := 6) rfl), ⟨by decide +kernel, by decide +kernel⟩, by decide +kernel, by decide +kernel⟩
theorem im_X5_init : Cond.instanceMethod yX5_init ∈ lw_tbl := it1 (List.mem_of_getElem? (i := 123) rfl)
abbrev m_X5_has : MM := (yX5_has, cX5_has, 2, (Option.some Jvm.ClassFile.FieldType.boolean))
theorem mk_X5_has : MK m_X5_has 1 := ⟨by decide +kernel, it3 (List.mem_of_getElem? (i := 98) rfl), it1 (List.mem_of_getElem? (i := 6) rfl), ⟨by decide +kernel, by decide +kernel⟩, by decide +kernel, by decide +kernel⟩
theorem im_X5_has : Cond.instanceMethod yX5_has ∈ lw_tbl := it3 (List.mem_of_getElem? (i := 96) rfl)
theorem se_X5_has : Cond.selects RX5 yX5_has yX5_has ∈ lw_tbl := it3 (List.mem_of_getElem? (i := 97) rfl)
abbrev m_X5_addRow : MM := (yX5_addRow, cX5_addRow, 1, (Option.some Jvm.ClassFile.FieldType.int))
theorem mk_X5_addRow : MK m_X5_addRow 0 := ⟨by decide +kernel, it3 (List.mem_of_getElem? (i := 90) rfl), it1 (List.mem_of_getElem? (i := 6) rfl), ⟨by decide +kernel, by decide +kernel⟩, by decide +kernel, by decide +kernel⟩
theorem im_X5_addRow : Cond.instanceMethod yX5_addRow ∈ lw_tbl := it3 (List.mem_of_getElem? (i := 88) rfl)
theorem se_X5_addRow : Cond.selects RX5 yX5_addRow yX5_addRow ∈ lw_tbl := it3 (List.mem_of_getElem? (i := 89) rfl)
abbrev m_X5_get : MM := (yX5_get, cX5_get, 3, (Option.some Jvm.ClassFile.FieldType.int))
theorem mk_X5_get : MK m_X5_get 2 := ⟨by decide +kernel, it3 (List.mem_of_getElem? (i := 120) rfl), it1 (List.mem_of_getElem? (i := 6) rfl), ⟨by decide +kernel, by decide +kernel⟩, by decide +kernel, by decide +kernel⟩
theorem im_X5_get : Cond.instanceMethod yX5_get ∈ lw_tbl := it3 (List.mem_of_getElem? (i := 118) rfl)
theorem se_X5_get : Cond.selects RX5 yX5_get yX5_get ∈ lw_tbl := it3 (List.mem_of_getElem? (i := 119) rfl)
abbrev m_X5_set : MM := (yX5_set, cX5_set, 4, (Option.none : Option Jvm.ClassFile.FieldType))
theorem mk_X5_set : MK m_X5_set 3 := ⟨by decide +kernel, it3 (List.mem_of_getElem? (i := 94) rfl), it1 (List.mem_of_getElem? (i := 6) rfl), ⟨by decide +kernel, by decide +kernel⟩, by decide +kernel, by decide +kernel⟩
theorem im_X5_set : Cond.instanceMethod yX5_set ∈ lw_tbl := it3 (List.mem_of_getElem? (i := 92) rfl)
theorem se_X5_set : Cond.selects RX5 yX5_set yX5_set ∈ lw_tbl := it3 (List.mem_of_getElem? (i := 93) rfl)
abbrev m_X5_copyFrom : MM := (yX5_copyFrom, cX5_copyFrom, 3, (Option.none : Option Jvm.ClassFile.FieldType))
theorem mk_X5_copyFrom : MK m_X5_copyFrom 1 := ⟨by decide +kernel, it4 (List.mem_of_getElem? (i := 172) rfl), it1 (List.mem_of_getElem? (i := 6) rfl), ⟨by decide +kernel, by decide +kernel⟩, by decide +kernel, by decide +kernel⟩
theorem im_X5_copyFrom : Cond.instanceMethod yX5_copyFrom ∈ lw_tbl := it4 (List.mem_of_getElem? (i := 170) rfl)
theorem se_X5_copyFrom : Cond.selects RX5 yX5_copyFrom yX5_copyFrom ∈ lw_tbl := it4 (List.mem_of_getElem? (i := 171) rfl)
abbrev m_X6_init : MM := (yX6_init, cX6_init, 1, (Option.none : Option Jvm.ClassFile.FieldType))
theorem mk_X6_init : MK m_X6_init 0 := ⟨by decide +kernel, it1 (List.mem_of_getElem? (i := 33) rfl), it1 (List.mem_of_getElem? (i := 2) rfl), ⟨by decide +kernel, by decide +kernel⟩, by decide +kernel, by decide +kernel⟩
theorem im_X6_init : Cond.instanceMethod yX6_init ∈ lw_tbl := it1 (List.mem_of_getElem? (i := 32) rfl)
abbrev m_X6_put : MM := (yX6_put, cX6_put, 3, (Option.none : Option Jvm.ClassFile.FieldType))
theorem mk_X6_put : MK m_X6_put 1 := ⟨by decide +kernel, it2 (List.mem_of_getElem? (i := 77) rfl), it1 (List.mem_of_getElem? (i := 2) rfl), ⟨by decide +kernel, by decide +kernel⟩, by decide +kernel, by decide +kernel⟩
theorem im_X6_put : Cond.instanceMethod yX6_put ∈ lw_tbl := it2 (List.mem_of_getElem? (i := 75) rfl)
theorem se_X6_put : Cond.selects RX6 yX6_put yX6_put ∈ lw_tbl := it2 (List.mem_of_getElem? (i := 76) rfl)
abbrev m_X6_at : MM := (yX6_at, cX6_at, 2, (Option.some Jvm.ClassFile.FieldType.int))
theorem mk_X6_at : MK m_X6_at 1 := ⟨by decide +kernel, it2 (List.mem_of_getElem? (i := 98) rfl), it1 (List.mem_of_getElem? (i := 2) rfl), ⟨by decide +kernel, by decide +kernel⟩, by decide +kernel, by decide +kernel⟩
theorem im_X6_at : Cond.instanceMethod yX6_at ∈ lw_tbl := it2 (List.mem_of_getElem? (i := 96) rfl)
theorem se_X6_at : Cond.selects RX6 yX6_at yX6_at ∈ lw_tbl := it2 (List.mem_of_getElem? (i := 97) rfl)
abbrev m_X7_init : MM := (yX7_init, cX7_init, 2, (Option.none : Option Jvm.ClassFile.FieldType))
theorem mk_X7_init : MK m_X7_init 1 := ⟨by decide +kernel, it1 (List.mem_of_getElem? (i := 55) rfl), it1 (List.mem_of_getElem? (i := 4) rfl), ⟨by decide +kernel, by decide +kernel⟩, by decide +kernel, by decide +kernel⟩
theorem im_X7_init : Cond.instanceMethod yX7_init ∈ lw_tbl := it1 (List.mem_of_getElem? (i := 54) rfl)
abbrev m_X7_takeApart : MM := (yX7_takeApart, cX7_takeApart, 3, (Option.none : Option Jvm.ClassFile.FieldType))
theorem mk_X7_takeApart : MK m_X7_takeApart 0 := ⟨by decide +kernel, it2 (List.mem_of_getElem? (i := 94) rfl), it1 (List.mem_of_getElem? (i := 4) rfl), ⟨by decide +kernel, by decide +kernel⟩, by decide +kernel, by decide +kernel⟩
theorem im_X7_takeApart : Cond.instanceMethod yX7_takeApart ∈ lw_tbl := it2 (List.mem_of_getElem? (i := 92) rfl)
theorem se_X7_takeApart : Cond.selects RX7 yX7_takeApart yX7_takeApart ∈ lw_tbl := it2 (List.mem_of_getElem? (i := 93) rfl)
abbrev m_X7_step : MM := (yX7_step, cX7_step, 1, (Option.none : Option Jvm.ClassFile.FieldType))
theorem mk_X7_step : MK m_X7_step 0 := ⟨by decide +kernel, it2 (List.mem_of_getElem? (i := 180) rfl), it1 (List.mem_of_getElem? (i := 4) rfl), ⟨by decide +kernel, by decide +kernel⟩, by decide +kernel, by decide +kernel⟩
theorem im_X7_step : Cond.instanceMethod yX7_step ∈ lw_tbl := it2 (List.mem_of_getElem? (i := 178) rfl)
theorem se_X7_step : Cond.selects RX7 yX7_step yX7_step ∈ lw_tbl := it2 (List.mem_of_getElem? (i := 179) rfl)
abbrev m_X7_add : MM := (yX7_add, cX7_add, 4, (Option.none : Option Jvm.ClassFile.FieldType))
theorem mk_X7_add : MK m_X7_add 3 := ⟨by decide +kernel, it2 (List.mem_of_getElem? (i := 165) rfl), it1 (List.mem_of_getElem? (i := 4) rfl), ⟨by decide +kernel, by decide +kernel⟩, by decide +kernel, by decide +kernel⟩
theorem im_X7_add : Cond.instanceMethod yX7_add ∈ lw_tbl := it2 (List.mem_of_getElem? (i := 164) rfl)
theorem se_X7_add : Cond.selects RX7 yX7_add yX7_add ∈ lw_tbl := ip1 (q := (yX7_add, 9)) (List.mem_of_getElem? (i := 2) rfl)
abbrev m_X7_addToken : MM := (yX7_addToken, cX7_addToken, 4, (Option.some Jvm.ClassFile.FieldType.int))
theorem mk_X7_addToken : MK m_X7_addToken 1 := ⟨by decide +kernel, it2 (List.mem_of_getElem? (i := 105) rfl), it1 (List.mem_of_getElem? (i := 4) rfl), ⟨by decide +kernel, by decide +kernel⟩, by decide +kernel, by decide +kernel⟩
theorem im_X7_addToken : Cond.instanceMethod yX7_addToken ∈ lw_tbl := it2 (List.mem_of_getElem? (i := 104) rfl)
theorem se_X7_addToken : Cond.selects RX7 yX7_addToken yX7_addToken ∈ lw_tbl := ip1 (q := (yX7_addToken, 9)) (List.mem_of_getElem? (i := 0) rfl)
abbrev m_X7_addNumber : MM := (yX7_addNumber, cX7_addNumber, 5, (Option.none : Option Jvm.ClassFile.FieldType))
theorem mk_X7_addNumber : MK m_X7_addNumber 2 := ⟨by decide +kernel, it2 (List.mem_of_getElem? (i := 173) rfl), it1 (List.mem_of_getElem? (i := 4) rfl), ⟨by decide +kernel, by decide +kernel⟩, by decide +kernel, by decide +kernel⟩
theorem im_X7_addNumber : Cond.instanceMethod yX7_addNumber ∈ lw_tbl := it2 (List.mem_of_getElem? (i := 172) rfl)
theorem se_X7_addNumber : Cond.selects RX7 yX7_addNumber yX7_addNumber ∈ lw_tbl := ip1 (q := (yX7_addNumber, 9)) (List.mem_of_getElem? (i := 3) rfl)
abbrev m_X7_kindOfWord : MM := (yX7_kindOfWord, cX7_kindOfWord, 8, (Option.some Jvm.ClassFile.FieldType.int))
theorem mk_X7_kindOfWord : MK m_X7_kindOfWord 2 := ⟨by decide +kernel, it2 (List.mem_of_getElem? (i := 112) rfl), it1 (List.mem_of_getElem? (i := 4) rfl), ⟨by decide +kernel, by decide +kernel⟩, by decide +kernel, by decide +kernel⟩
theorem im_X7_kindOfWord : Cond.instanceMethod yX7_kindOfWord ∈ lw_tbl := it2 (List.mem_of_getElem? (i := 111) rfl)
theorem se_X7_kindOfWord : Cond.selects RX7 yX7_kindOfWord yX7_kindOfWord ∈ lw_tbl := ip1 (q := (yX7_kindOfWord, 9)) (List.mem_of_getElem? (i := 1) rfl)
abbrev m_X7_isBlank : MM := (yX7_isBlank, cX7_isBlank, 1, (Option.some Jvm.ClassFile.FieldType.boolean))
theorem mk_X7_isBlank : MK m_X7_isBlank 1 := ⟨by decide +kernel, it2 (List.mem_of_getElem? (i := 101) rfl), it1 (List.mem_of_getElem? (i := 4) rfl), ⟨by decide +kernel, by decide +kernel⟩, by decide +kernel, by decide +kernel⟩
theorem sm_X7_isBlank : Cond.static yX7_isBlank ∈ lw_tbl := it2 (List.mem_of_getElem? (i := 100) rfl)
abbrev m_X7_isLetter : MM := (yX7_isLetter, cX7_isLetter, 1, (Option.some Jvm.ClassFile.FieldType.boolean))
theorem mk_X7_isLetter : MK m_X7_isLetter 1 := ⟨by decide +kernel, it2 (List.mem_of_getElem? (i := 108) rfl), it1 (List.mem_of_getElem? (i := 4) rfl), ⟨by decide +kernel, by decide +kernel⟩, by decide +kernel, by decide +kernel⟩
theorem sm_X7_isLetter : Cond.static yX7_isLetter ∈ lw_tbl := it2 (List.mem_of_getElem? (i := 107) rfl)
abbrev m_X7_isDigit : MM := (yX7_isDigit, cX7_isDigit, 1, (Option.some Jvm.ClassFile.FieldType.boolean))
theorem mk_X7_isDigit : MK m_X7_isDigit 1 := ⟨by decide +kernel, it2 (List.mem_of_getElem? (i := 169) rfl), it1 (List.mem_of_getElem? (i := 4) rfl), ⟨by decide +kernel, by decide +kernel⟩, by decide +kernel, by decide +kernel⟩
theorem sm_X7_isDigit : Cond.static yX7_isDigit ∈ lw_tbl := it2 (List.mem_of_getElem? (i := 168) rfl)
abbrev m_X7_isSign : MM := (yX7_isSign, cX7_isSign, 1, (Option.some Jvm.ClassFile.FieldType.boolean))
theorem mk_X7_isSign : MK m_X7_isSign 1 := ⟨by decide +kernel, it2 (List.mem_of_getElem? (i := 176) rfl), it1 (List.mem_of_getElem? (i := 4) rfl), ⟨by decide +kernel, by decide +kernel⟩, by decide +kernel, by decide +kernel⟩
theorem sm_X7_isSign : Cond.static yX7_isSign ∈ lw_tbl := it2 (List.mem_of_getElem? (i := 175) rfl)
abbrev m_X8_init : MM := (yX8_init, cX8_init, 3, (Option.none : Option Jvm.ClassFile.FieldType))
theorem mk_X8_init : MK m_X8_init 0 := ⟨by decide +kernel, it1 (List.mem_of_getElem? (i := 118) rfl), it1 (List.mem_of_getElem? (i := 5) rfl), ⟨by decide +kernel, by decide +kernel⟩, by decide +kernel, by decide +kernel⟩
theorem im_X8_init : Cond.instanceMethod yX8_init ∈ lw_tbl := it1 (List.mem_of_getElem? (i := 117) rfl)
abbrev m_X8_copyFrom : MM := (yX8_copyFrom, cX8_copyFrom, 3, (Option.none : Option Jvm.ClassFile.FieldType))
theorem mk_X8_copyFrom : MK m_X8_copyFrom 1 := ⟨by decide +kernel, it4 (List.mem_of_getElem? (i := 168) rfl), it1 (List.mem_of_getElem? (i := 5) rfl), ⟨by decide +kernel, by decide +kernel⟩, by decide +kernel, by decide +kernel⟩
theorem im_X8_copyFrom : Cond.instanceMethod yX8_copyFrom ∈ lw_tbl := it4 (List.mem_of_getElem? (i := 166) rfl)
theorem se_X8_copyFrom : Cond.selects RX8 yX8_copyFrom yX8_copyFrom ∈ lw_tbl := it4 (List.mem_of_getElem? (i := 167) rfl)
abbrev m_X8_canBeAsked : MM := (yX8_canBeAsked, cX8_canBeAsked, 5, (Option.some Jvm.ClassFile.FieldType.boolean))
theorem mk_X8_canBeAsked : MK m_X8_canBeAsked 4 := ⟨by decide +kernel, it3 (List.mem_of_getElem? (i := 132) rfl), it1 (List.mem_of_getElem? (i := 5) rfl), ⟨by decide +kernel, by decide +kernel⟩, by decide +kernel, by decide +kernel⟩
theorem im_X8_canBeAsked : Cond.instanceMethod yX8_canBeAsked ∈ lw_tbl := it3 (List.mem_of_getElem? (i := 130) rfl)
theorem se_X8_canBeAsked : Cond.selects RX8 yX8_canBeAsked yX8_canBeAsked ∈ lw_tbl := it3 (List.mem_of_getElem? (i := 131) rfl)
abbrev m_X8_marked : MM := (yX8_marked, cX8_marked, 3, (Option.some Jvm.ClassFile.FieldType.int))
theorem mk_X8_marked : MK m_X8_marked 0 := ⟨by decide +kernel, it4 (List.mem_of_getElem? (i := 155) rfl), it1 (List.mem_of_getElem? (i := 5) rfl), ⟨by decide +kernel, by decide +kernel⟩, by decide +kernel, by decide +kernel⟩
theorem im_X8_marked : Cond.instanceMethod yX8_marked ∈ lw_tbl := it4 (List.mem_of_getElem? (i := 153) rfl)
theorem se_X8_marked : Cond.selects RX8 yX8_marked yX8_marked ∈ lw_tbl := it4 (List.mem_of_getElem? (i := 154) rfl)
abbrev m_X8_cases : MM := (yX8_cases, cX8_cases, 1, (Option.some Jvm.ClassFile.FieldType.int))
theorem mk_X8_cases : MK m_X8_cases 0 := ⟨by decide +kernel, it4 (List.mem_of_getElem? (i := 10) rfl), it1 (List.mem_of_getElem? (i := 5) rfl), ⟨by decide +kernel, by decide +kernel⟩, by decide +kernel, by decide +kernel⟩
theorem im_X8_cases : Cond.instanceMethod yX8_cases ∈ lw_tbl := it4 (List.mem_of_getElem? (i := 8) rfl)
theorem se_X8_cases : Cond.selects RX8 yX8_cases yX8_cases ∈ lw_tbl := it4 (List.mem_of_getElem? (i := 9) rfl)
abbrev m_X9_init : MM := (yX9_init, cX9_init, 1, (Option.none : Option Jvm.ClassFile.FieldType))
theorem mk_X9_init : MK m_X9_init 0 := ⟨by decide +kernel, it1 (List.mem_of_getElem? (i := 210) rfl), it1 (List.mem_of_getElem? (i := 9) rfl), ⟨by decide +kernel, by decide +kernel⟩, by decide +kernel, by decide +kernel⟩
theorem im_X9_init : Cond.instanceMethod yX9_init ∈ lw_tbl := it1 (List.mem_of_getElem? (i := 209) rfl)
abbrev m_X9_stand : MM := (yX9_stand, cX9_stand, 6, (Option.none : Option Jvm.ClassFile.FieldType))
theorem mk_X9_stand : MK m_X9_stand 5 := ⟨by decide +kernel, it3 (List.mem_of_getElem? (i := 138) rfl), it1 (List.mem_of_getElem? (i := 9) rfl), ⟨by decide +kernel, by decide +kernel⟩, by decide +kernel, by decide +kernel⟩
theorem im_X9_stand : Cond.instanceMethod yX9_stand ∈ lw_tbl := it3 (List.mem_of_getElem? (i := 136) rfl)
theorem se_X9_stand : Cond.selects RX9 yX9_stand yX9_stand ∈ lw_tbl := it3 (List.mem_of_getElem? (i := 137) rfl)
abbrev m_X9_standAtAsk : MM := (yX9_standAtAsk, cX9_standAtAsk, 4, (Option.none : Option Jvm.ClassFile.FieldType))
theorem mk_X9_standAtAsk : MK m_X9_standAtAsk 2 := ⟨by decide +kernel, it3 (List.mem_of_getElem? (i := 232) rfl), it1 (List.mem_of_getElem? (i := 9) rfl), ⟨by decide +kernel, by decide +kernel⟩, by decide +kernel, by decide +kernel⟩
theorem im_X9_standAtAsk : Cond.instanceMethod yX9_standAtAsk ∈ lw_tbl := it3 (List.mem_of_getElem? (i := 230) rfl)
theorem se_X9_standAtAsk : Cond.selects RX9 yX9_standAtAsk yX9_standAtAsk ∈ lw_tbl := it3 (List.mem_of_getElem? (i := 231) rfl)
abbrev m_X9_standAtCase : MM := (yX9_standAtCase, cX9_standAtCase, 4, (Option.none : Option Jvm.ClassFile.FieldType))
theorem mk_X9_standAtCase : MK m_X9_standAtCase 2 := ⟨by decide +kernel, it4 (List.mem_of_getElem? (i := 14) rfl), it1 (List.mem_of_getElem? (i := 9) rfl), ⟨by decide +kernel, by decide +kernel⟩, by decide +kernel, by decide +kernel⟩
theorem im_X9_standAtCase : Cond.instanceMethod yX9_standAtCase ∈ lw_tbl := it4 (List.mem_of_getElem? (i := 12) rfl)
theorem se_X9_standAtCase : Cond.selects RX9 yX9_standAtCase yX9_standAtCase ∈ lw_tbl := it4 (List.mem_of_getElem? (i := 13) rfl)
abbrev m_X9_toldAt : MM := (yX9_toldAt, cX9_toldAt, 3, (Option.some Jvm.ClassFile.FieldType.int))
theorem mk_X9_toldAt : MK m_X9_toldAt 2 := ⟨by decide +kernel, it4 (List.mem_of_getElem? (i := 39) rfl), it1 (List.mem_of_getElem? (i := 9) rfl), ⟨by decide +kernel, by decide +kernel⟩, by decide +kernel, by decide +kernel⟩
theorem im_X9_toldAt : Cond.instanceMethod yX9_toldAt ∈ lw_tbl := it4 (List.mem_of_getElem? (i := 37) rfl)
theorem se_X9_toldAt : Cond.selects RX9 yX9_toldAt yX9_toldAt ∈ lw_tbl := it4 (List.mem_of_getElem? (i := 38) rfl)
abbrev m_X9_decider : MM := (yX9_decider, cX9_decider, 3, (Option.some Jvm.ClassFile.FieldType.int))
theorem mk_X9_decider : MK m_X9_decider 1 := ⟨by decide +kernel, it3 (List.mem_of_getElem? (i := 149) rfl), it1 (List.mem_of_getElem? (i := 9) rfl), ⟨by decide +kernel, by decide +kernel⟩, by decide +kernel, by decide +kernel⟩
theorem im_X9_decider : Cond.instanceMethod yX9_decider ∈ lw_tbl := it3 (List.mem_of_getElem? (i := 147) rfl)
theorem se_X9_decider : Cond.selects RX9 yX9_decider yX9_decider ∈ lw_tbl := it3 (List.mem_of_getElem? (i := 148) rfl)
abbrev m_X9_lets : MM := (yX9_lets, cX9_lets, 3, (Option.some Jvm.ClassFile.FieldType.boolean))
theorem mk_X9_lets : MK m_X9_lets 1 := ⟨by decide +kernel, it3 (List.mem_of_getElem? (i := 211) rfl), it1 (List.mem_of_getElem? (i := 9) rfl), ⟨by decide +kernel, by decide +kernel⟩, by decide +kernel, by decide +kernel⟩
theorem im_X9_lets : Cond.instanceMethod yX9_lets ∈ lw_tbl := it3 (List.mem_of_getElem? (i := 209) rfl)
theorem se_X9_lets : Cond.selects RX9 yX9_lets yX9_lets ∈ lw_tbl := it3 (List.mem_of_getElem? (i := 210) rfl)
abbrev m_X9_linesHeld : MM := (yX9_linesHeld, cX9_linesHeld, 4, (Option.some Jvm.ClassFile.FieldType.int))
theorem mk_X9_linesHeld : MK m_X9_linesHeld 1 := ⟨by decide +kernel, it4 (List.mem_of_getElem? (i := 55) rfl), it1 (List.mem_of_getElem? (i := 9) rfl), ⟨by decide +kernel, by decide +kernel⟩, by decide +kernel, by decide +kernel⟩
theorem im_X9_linesHeld : Cond.instanceMethod yX9_linesHeld ∈ lw_tbl := it4 (List.mem_of_getElem? (i := 53) rfl)
theorem se_X9_linesHeld : Cond.selects RX9 yX9_linesHeld yX9_linesHeld ∈ lw_tbl := it4 (List.mem_of_getElem? (i := 54) rfl)
abbrev m_X9_hoursLet : MM := (yX9_hoursLet, cX9_hoursLet, 7, (Option.some Jvm.ClassFile.FieldType.int))
theorem mk_X9_hoursLet : MK m_X9_hoursLet 1 := ⟨by decide +kernel, it4 (List.mem_of_getElem? (i := 26) rfl), it1 (List.mem_of_getElem? (i := 9) rfl), ⟨by decide +kernel, by decide +kernel⟩, by decide +kernel, by decide +kernel⟩
theorem im_X9_hoursLet : Cond.instanceMethod yX9_hoursLet ∈ lw_tbl := it4 (List.mem_of_getElem? (i := 24) rfl)
theorem se_X9_hoursLet : Cond.selects RX9 yX9_hoursLet yX9_hoursLet ∈ lw_tbl := it4 (List.mem_of_getElem? (i := 25) rfl)
abbrev m_X9_hoursDecided : MM := (yX9_hoursDecided, cX9_hoursDecided, 6, (Option.some Jvm.ClassFile.FieldType.int))
theorem mk_X9_hoursDecided : MK m_X9_hoursDecided 2 := ⟨by decide +kernel, it4 (List.mem_of_getElem? (i := 18) rfl), it1 (List.mem_of_getElem? (i := 9) rfl), ⟨by decide +kernel, by decide +kernel⟩, by decide +kernel, by decide +kernel⟩
theorem im_X9_hoursDecided : Cond.instanceMethod yX9_hoursDecided ∈ lw_tbl := it4 (List.mem_of_getElem? (i := 16) rfl)
theorem se_X9_hoursDecided : Cond.selects RX9 yX9_hoursDecided yX9_hoursDecided ∈ lw_tbl := it4 (List.mem_of_getElem? (i := 17) rfl)
abbrev m_X9_hoursHeld : MM := (yX9_hoursHeld, cX9_hoursHeld, 2, (Option.some Jvm.ClassFile.FieldType.int))
theorem mk_X9_hoursHeld : MK m_X9_hoursHeld 1 := ⟨by decide +kernel, it3 (List.mem_of_getElem? (i := 157) rfl), it1 (List.mem_of_getElem? (i := 9) rfl), ⟨by decide +kernel, by decide +kernel⟩, by decide +kernel, by decide +kernel⟩
theorem im_X9_hoursHeld : Cond.instanceMethod yX9_hoursHeld ∈ lw_tbl := it3 (List.mem_of_getElem? (i := 156) rfl)
theorem se_X9_hoursHeld : Cond.selects RX9 yX9_hoursHeld yX9_hoursHeld ∈ lw_tbl := ip2 (q := (yX9_hoursHeld, 12)) (List.mem_of_getElem? (i := 6) rfl)
abbrev m_X9_holdsAct : MM := (yX9_holdsAct, cX9_holdsAct, 2, (Option.some Jvm.ClassFile.FieldType.boolean))
theorem mk_X9_holdsAct : MK m_X9_holdsAct 1 := ⟨by decide +kernel, it3 (List.mem_of_getElem? (i := 166) rfl), it1 (List.mem_of_getElem? (i := 9) rfl), ⟨by decide +kernel, by decide +kernel⟩, by decide +kernel, by decide +kernel⟩
theorem im_X9_holdsAct : Cond.instanceMethod yX9_holdsAct ∈ lw_tbl := it3 (List.mem_of_getElem? (i := 165) rfl)
theorem se_X9_holdsAct : Cond.selects RX9 yX9_holdsAct yX9_holdsAct ∈ lw_tbl := ip2 (q := (yX9_holdsAct, 12)) (List.mem_of_getElem? (i := 8) rfl)
abbrev m_X9_holdsWho : MM := (yX9_holdsWho, cX9_holdsWho, 2, (Option.some Jvm.ClassFile.FieldType.boolean))
theorem mk_X9_holdsWho : MK m_X9_holdsWho 1 := ⟨by decide +kernel, it3 (List.mem_of_getElem? (i := 161) rfl), it1 (List.mem_of_getElem? (i := 9) rfl), ⟨by decide +kernel, by decide +kernel⟩, by decide +kernel, by decide +kernel⟩
theorem im_X9_holdsWho : Cond.instanceMethod yX9_holdsWho ∈ lw_tbl := it3 (List.mem_of_getElem? (i := 160) rfl)
theorem se_X9_holdsWho : Cond.selects RX9 yX9_holdsWho yX9_holdsWho ∈ lw_tbl := ip2 (q := (yX9_holdsWho, 12)) (List.mem_of_getElem? (i := 7) rfl)
abbrev m_X9_holdsWhat : MM := (yX9_holdsWhat, cX9_holdsWhat, 2, (Option.some Jvm.ClassFile.FieldType.boolean))
theorem mk_X9_holdsWhat : MK m_X9_holdsWhat 1 := ⟨by decide +kernel, it3 (List.mem_of_getElem? (i := 170) rfl), it1 (List.mem_of_getElem? (i := 9) rfl), ⟨by decide +kernel, by decide +kernel⟩, by decide +kernel, by decide +kernel⟩
theorem im_X9_holdsWhat : Cond.instanceMethod yX9_holdsWhat ∈ lw_tbl := it3 (List.mem_of_getElem? (i := 169) rfl)
theorem se_X9_holdsWhat : Cond.selects RX9 yX9_holdsWhat yX9_holdsWhat ∈ lw_tbl := ip2 (q := (yX9_holdsWhat, 12)) (List.mem_of_getElem? (i := 9) rfl)
abbrev m_X9_hoursOf : MM := (yX9_hoursOf, cX9_hoursOf, 3, (Option.some Jvm.ClassFile.FieldType.int))
theorem mk_X9_hoursOf : MK m_X9_hoursOf 1 := ⟨by decide +kernel, it3 (List.mem_of_getElem? (i := 175) rfl), it1 (List.mem_of_getElem? (i := 9) rfl), ⟨by decide +kernel, by decide +kernel⟩, by decide +kernel, by decide +kernel⟩
theorem im_X9_hoursOf : Cond.instanceMethod yX9_hoursOf ∈ lw_tbl := it3 (List.mem_of_getElem? (i := 174) rfl)
theorem se_X9_hoursOf : Cond.selects RX9 yX9_hoursOf yX9_hoursOf ∈ lw_tbl := ip2 (q := (yX9_hoursOf, 12)) (List.mem_of_getElem? (i := 10) rfl)
abbrev m_X9_hoursAfter : MM := (yX9_hoursAfter, cX9_hoursAfter, 4, (Option.some Jvm.ClassFile.FieldType.int))
theorem mk_X9_hoursAfter : MK m_X9_hoursAfter 1 := ⟨by decide +kernel, it3 (List.mem_of_getElem? (i := 179) rfl), it1 (List.mem_of_getElem? (i := 9) rfl), ⟨by decide +kernel, by decide +kernel⟩, by decide +kernel, by decide +kernel⟩
theorem im_X9_hoursAfter : Cond.instanceMethod yX9_hoursAfter ∈ lw_tbl := it3 (List.mem_of_getElem? (i := 178) rfl)
theorem se_X9_hoursAfter : Cond.selects RX9 yX9_hoursAfter yX9_hoursAfter ∈ lw_tbl := ip2 (q := (yX9_hoursAfter, 12)) (List.mem_of_getElem? (i := 11) rfl)
abbrev m_X9_hoursLess : MM := (yX9_hoursLess, cX9_hoursLess, 3, (Option.some Jvm.ClassFile.FieldType.int))
theorem mk_X9_hoursLess : MK m_X9_hoursLess 2 := ⟨by decide +kernel, it3 (List.mem_of_getElem? (i := 192) rfl), it1 (List.mem_of_getElem? (i := 9) rfl), ⟨by decide +kernel, by decide +kernel⟩, by decide +kernel, by decide +kernel⟩
theorem im_X9_hoursLess : Cond.instanceMethod yX9_hoursLess ∈ lw_tbl := it3 (List.mem_of_getElem? (i := 191) rfl)
theorem se_X9_hoursLess : Cond.selects RX9 yX9_hoursLess yX9_hoursLess ∈ lw_tbl := ip2 (q := (yX9_hoursLess, 12)) (List.mem_of_getElem? (i := 12) rfl)
abbrev m_X9_hoursBelow : MM := (yX9_hoursBelow, cX9_hoursBelow, 1, (Option.some Jvm.ClassFile.FieldType.int))
theorem mk_X9_hoursBelow : MK m_X9_hoursBelow 1 := ⟨by decide +kernel, it3 (List.mem_of_getElem? (i := 199) rfl), it1 (List.mem_of_getElem? (i := 9) rfl), ⟨by decide +kernel, by decide +kernel⟩, by decide +kernel, by decide +kernel⟩
theorem sm_X9_hoursBelow : Cond.static yX9_hoursBelow ∈ lw_tbl := it3 (List.mem_of_getElem? (i := 198) rfl)
abbrev m_X9_value : MM := (yX9_value, cX9_value, 2, (Option.some Jvm.ClassFile.FieldType.int))
theorem mk_X9_value : MK m_X9_value 1 := ⟨by decide +kernel, it3 (List.mem_of_getElem? (i := 196) rfl), it1 (List.mem_of_getElem? (i := 9) rfl), ⟨by decide +kernel, by decide +kernel⟩, by decide +kernel, by decide +kernel⟩
theorem im_X9_value : Cond.instanceMethod yX9_value ∈ lw_tbl := it3 (List.mem_of_getElem? (i := 195) rfl)
theorem se_X9_value : Cond.selects RX9 yX9_value yX9_value ∈ lw_tbl := ip2 (q := (yX9_value, 12)) (List.mem_of_getElem? (i := 13) rfl)
abbrev m_X9_push : MM := (yX9_push, cX9_push, 2, (Option.none : Option Jvm.ClassFile.FieldType))
theorem mk_X9_push : MK m_X9_push 1 := ⟨by decide +kernel, it3 (List.mem_of_getElem? (i := 207) rfl), it1 (List.mem_of_getElem? (i := 9) rfl), ⟨by decide +kernel, by decide +kernel⟩, by decide +kernel, by decide +kernel⟩
theorem im_X9_push : Cond.instanceMethod yX9_push ∈ lw_tbl := it3 (List.mem_of_getElem? (i := 206) rfl)
theorem se_X9_push : Cond.selects RX9 yX9_push yX9_push ∈ lw_tbl := ip2 (q := (yX9_push, 12)) (List.mem_of_getElem? (i := 15) rfl)
abbrev m_X9_pop : MM := (yX9_pop, cX9_pop, 1, (Option.some Jvm.ClassFile.FieldType.int))
theorem mk_X9_pop : MK m_X9_pop 0 := ⟨by decide +kernel, it3 (List.mem_of_getElem? (i := 203) rfl), it1 (List.mem_of_getElem? (i := 9) rfl), ⟨by decide +kernel, by decide +kernel⟩, by decide +kernel, by decide +kernel⟩
theorem im_X9_pop : Cond.instanceMethod yX9_pop ∈ lw_tbl := it3 (List.mem_of_getElem? (i := 202) rfl)
theorem se_X9_pop : Cond.selects RX9 yX9_pop yX9_pop ∈ lw_tbl := ip2 (q := (yX9_pop, 12)) (List.mem_of_getElem? (i := 14) rfl)
abbrev m_X10_init : MM := (yX10_init, cX10_init, 1, (Option.none : Option Jvm.ClassFile.FieldType))
theorem mk_X10_init : MK m_X10_init 0 := ⟨by decide +kernel, it1 (List.mem_of_getElem? (i := 25) rfl), it1 (List.mem_of_getElem? (i := 1) rfl), ⟨by decide +kernel, by decide +kernel⟩, by decide +kernel, by decide +kernel⟩
theorem im_X10_init : Cond.instanceMethod yX10_init ∈ lw_tbl := it1 (List.mem_of_getElem? (i := 24) rfl)
abbrev m_X10_feed : MM := (yX10_feed, cX10_feed, 6, (Option.some Jvm.ClassFile.FieldType.int))
theorem mk_X10_feed : MK m_X10_feed 5 := ⟨by decide +kernel, it2 (List.mem_of_getElem? (i := 73) rfl), it1 (List.mem_of_getElem? (i := 1) rfl), ⟨by decide +kernel, by decide +kernel⟩, by decide +kernel, by decide +kernel⟩
theorem im_X10_feed : Cond.instanceMethod yX10_feed ∈ lw_tbl := it2 (List.mem_of_getElem? (i := 71) rfl)
theorem se_X10_feed : Cond.selects RX10 yX10_feed yX10_feed ∈ lw_tbl := it2 (List.mem_of_getElem? (i := 72) rfl)
abbrev m_X10_end : MM := (yX10_end, cX10_end, 2, (Option.some Jvm.ClassFile.FieldType.int))
theorem mk_X10_end : MK m_X10_end 1 := ⟨by decide +kernel, it2 (List.mem_of_getElem? (i := 81) rfl), it1 (List.mem_of_getElem? (i := 1) rfl), ⟨by decide +kernel, by decide +kernel⟩, by decide +kernel, by decide +kernel⟩
theorem im_X10_end : Cond.instanceMethod yX10_end ∈ lw_tbl := it2 (List.mem_of_getElem? (i := 79) rfl)
theorem se_X10_end : Cond.selects RX10 yX10_end yX10_end ∈ lw_tbl := it2 (List.mem_of_getElem? (i := 80) rfl)
abbrev m_X10_rules : MM := (yX10_rules, cX10_rules, 3, (Option.some Jvm.ClassFile.FieldType.int))
theorem mk_X10_rules : MK m_X10_rules 1 := ⟨by decide +kernel, it2 (List.mem_of_getElem? (i := 85) rfl), it1 (List.mem_of_getElem? (i := 1) rfl), ⟨by decide +kernel, by decide +kernel⟩, by decide +kernel, by decide +kernel⟩
theorem im_X10_rules : Cond.instanceMethod yX10_rules ∈ lw_tbl := it2 (List.mem_of_getElem? (i := 83) rfl)
theorem se_X10_rules : Cond.selects RX10 yX10_rules yX10_rules ∈ lw_tbl := it2 (List.mem_of_getElem? (i := 84) rfl)
abbrev m_X10_fault : MM := (yX10_fault, cX10_fault, 2, (Option.some Jvm.ClassFile.FieldType.int))
theorem mk_X10_fault : MK m_X10_fault 1 := ⟨by decide +kernel, it3 (List.mem_of_getElem? (i := 76) rfl), it1 (List.mem_of_getElem? (i := 1) rfl), ⟨by decide +kernel, by decide +kernel⟩, by decide +kernel, by decide +kernel⟩
theorem im_X10_fault : Cond.instanceMethod yX10_fault ∈ lw_tbl := it3 (List.mem_of_getElem? (i := 74) rfl)
theorem se_X10_fault : Cond.selects RX10 yX10_fault yX10_fault ∈ lw_tbl := it3 (List.mem_of_getElem? (i := 75) rfl)
abbrev m_X10_person : MM := (yX10_person, cX10_person, 4, (Option.some Jvm.ClassFile.FieldType.int))
theorem mk_X10_person : MK m_X10_person 2 := ⟨by decide +kernel, it3 (List.mem_of_getElem? (i := 80) rfl), it1 (List.mem_of_getElem? (i := 1) rfl), ⟨by decide +kernel, by decide +kernel⟩, by decide +kernel, by decide +kernel⟩
theorem im_X10_person : Cond.instanceMethod yX10_person ∈ lw_tbl := it3 (List.mem_of_getElem? (i := 78) rfl)
theorem se_X10_person : Cond.selects RX10 yX10_person yX10_person ∈ lw_tbl := it3 (List.mem_of_getElem? (i := 79) rfl)
abbrev m_X10_thing : MM := (yX10_thing, cX10_thing, 5, (Option.some Jvm.ClassFile.FieldType.int))
theorem mk_X10_thing : MK m_X10_thing 3 := ⟨by decide +kernel, it3 (List.mem_of_getElem? (i := 103) rfl), it1 (List.mem_of_getElem? (i := 1) rfl), ⟨by decide +kernel, by decide +kernel⟩, by decide +kernel, by decide +kernel⟩
theorem im_X10_thing : Cond.instanceMethod yX10_thing ∈ lw_tbl := it3 (List.mem_of_getElem? (i := 101) rfl)
theorem se_X10_thing : Cond.selects RX10 yX10_thing yX10_thing ∈ lw_tbl := it3 (List.mem_of_getElem? (i := 102) rfl)
abbrev m_X10_moves : MM := (yX10_moves, cX10_moves, 4, (Option.some Jvm.ClassFile.FieldType.boolean))
theorem mk_X10_moves : MK m_X10_moves 3 := ⟨by decide +kernel, it3 (List.mem_of_getElem? (i := 108) rfl), it1 (List.mem_of_getElem? (i := 1) rfl), ⟨by decide +kernel, by decide +kernel⟩, by decide +kernel, by decide +kernel⟩
theorem im_X10_moves : Cond.instanceMethod yX10_moves ∈ lw_tbl := it3 (List.mem_of_getElem? (i := 106) rfl)
theorem se_X10_moves : Cond.selects RX10 yX10_moves yX10_moves ∈ lw_tbl := it3 (List.mem_of_getElem? (i := 107) rfl)
abbrev m_X10_gives : MM := (yX10_gives, cX10_gives, 4, (Option.some Jvm.ClassFile.FieldType.boolean))
theorem mk_X10_gives : MK m_X10_gives 3 := ⟨by decide +kernel, it3 (List.mem_of_getElem? (i := 112) rfl), it1 (List.mem_of_getElem? (i := 1) rfl), ⟨by decide +kernel, by decide +kernel⟩, by decide +kernel, by decide +kernel⟩
theorem im_X10_gives : Cond.instanceMethod yX10_gives ∈ lw_tbl := it3 (List.mem_of_getElem? (i := 110) rfl)
theorem se_X10_gives : Cond.selects RX10 yX10_gives yX10_gives ∈ lw_tbl := it3 (List.mem_of_getElem? (i := 111) rfl)
abbrev m_X10_tell : MM := (yX10_tell, cX10_tell, 3, (Option.some Jvm.ClassFile.FieldType.int))
theorem mk_X10_tell : MK m_X10_tell 2 := ⟨by decide +kernel, it3 (List.mem_of_getElem? (i := 116) rfl), it1 (List.mem_of_getElem? (i := 1) rfl), ⟨by decide +kernel, by decide +kernel⟩, by decide +kernel, by decide +kernel⟩
theorem im_X10_tell : Cond.instanceMethod yX10_tell ∈ lw_tbl := it3 (List.mem_of_getElem? (i := 114) rfl)
theorem se_X10_tell : Cond.selects RX10 yX10_tell yX10_tell ∈ lw_tbl := it3 (List.mem_of_getElem? (i := 115) rfl)
abbrev m_X10_decide : MM := (yX10_decide, cX10_decide, 8, (Option.some Jvm.ClassFile.FieldType.int))
theorem mk_X10_decide : MK m_X10_decide 6 := ⟨by decide +kernel, it3 (List.mem_of_getElem? (i := 124) rfl), it1 (List.mem_of_getElem? (i := 1) rfl), ⟨by decide +kernel, by decide +kernel⟩, by decide +kernel, by decide +kernel⟩
theorem im_X10_decide : Cond.instanceMethod yX10_decide ∈ lw_tbl := it3 (List.mem_of_getElem? (i := 122) rfl)
theorem se_X10_decide : Cond.selects RX10 yX10_decide yX10_decide ∈ lw_tbl := it3 (List.mem_of_getElem? (i := 123) rfl)
abbrev m_X10_ask : MM := (yX10_ask, cX10_ask, 6, (Option.some Jvm.ClassFile.FieldType.int))
theorem mk_X10_ask : MK m_X10_ask 4 := ⟨by decide +kernel, it3 (List.mem_of_getElem? (i := 216) rfl), it1 (List.mem_of_getElem? (i := 1) rfl), ⟨by decide +kernel, by decide +kernel⟩, by decide +kernel, by decide +kernel⟩
theorem im_X10_ask : Cond.instanceMethod yX10_ask ∈ lw_tbl := it3 (List.mem_of_getElem? (i := 214) rfl)
theorem se_X10_ask : Cond.selects RX10 yX10_ask yX10_ask ∈ lw_tbl := it3 (List.mem_of_getElem? (i := 215) rfl)
abbrev m_X10_mark : MM := (yX10_mark, cX10_mark, 3, (Option.some Jvm.ClassFile.FieldType.boolean))
theorem mk_X10_mark : MK m_X10_mark 2 := ⟨by decide +kernel, it3 (List.mem_of_getElem? (i := 220) rfl), it1 (List.mem_of_getElem? (i := 1) rfl), ⟨by decide +kernel, by decide +kernel⟩, by decide +kernel, by decide +kernel⟩
theorem im_X10_mark : Cond.instanceMethod yX10_mark ∈ lw_tbl := it3 (List.mem_of_getElem? (i := 218) rfl)
theorem se_X10_mark : Cond.selects RX10 yX10_mark yX10_mark ∈ lw_tbl := it3 (List.mem_of_getElem? (i := 219) rfl)
abbrev m_X10_book : MM := (yX10_book, cX10_book, 3, (Option.some Jvm.ClassFile.FieldType.int))
theorem mk_X10_book : MK m_X10_book 2 := ⟨by decide +kernel, it3 (List.mem_of_getElem? (i := 224) rfl), it1 (List.mem_of_getElem? (i := 1) rfl), ⟨by decide +kernel, by decide +kernel⟩, by decide +kernel, by decide +kernel⟩
theorem im_X10_book : Cond.instanceMethod yX10_book ∈ lw_tbl := it3 (List.mem_of_getElem? (i := 222) rfl)
theorem se_X10_book : Cond.selects RX10 yX10_book yX10_book ∈ lw_tbl := it3 (List.mem_of_getElem? (i := 223) rfl)
abbrev m_X10_tried : MM := (yX10_tried, cX10_tried, 5, (Option.some Jvm.ClassFile.FieldType.int))
theorem mk_X10_tried : MK m_X10_tried 1 := ⟨by decide +kernel, it3 (List.mem_of_getElem? (i := 228) rfl), it1 (List.mem_of_getElem? (i := 1) rfl), ⟨by decide +kernel, by decide +kernel⟩, by decide +kernel, by decide +kernel⟩
theorem im_X10_tried : Cond.instanceMethod yX10_tried ∈ lw_tbl := it3 (List.mem_of_getElem? (i := 226) rfl)
theorem se_X10_tried : Cond.selects RX10 yX10_tried yX10_tried ∈ lw_tbl := it3 (List.mem_of_getElem? (i := 227) rfl)
abbrev m_X10_decides : MM := (yX10_decides, cX10_decides, 6, (Option.some Jvm.ClassFile.FieldType.int))
theorem mk_X10_decides : MK m_X10_decides 2 := ⟨by decide +kernel, it3 (List.mem_of_getElem? (i := 237) rfl), it1 (List.mem_of_getElem? (i := 1) rfl), ⟨by decide +kernel, by decide +kernel⟩, by decide +kernel, by decide +kernel⟩
theorem im_X10_decides : Cond.instanceMethod yX10_decides ∈ lw_tbl := it3 (List.mem_of_getElem? (i := 235) rfl)
theorem se_X10_decides : Cond.selects RX10 yX10_decides yX10_decides ∈ lw_tbl := it3 (List.mem_of_getElem? (i := 236) rfl)
abbrev m_X10_lost : MM := (yX10_lost, cX10_lost, 8, (Option.some Jvm.ClassFile.FieldType.int))
theorem mk_X10_lost : MK m_X10_lost 3 := ⟨by decide +kernel, it4 (List.mem_of_getElem? (i := 2) rfl), it1 (List.mem_of_getElem? (i := 1) rfl), ⟨by decide +kernel, by decide +kernel⟩, by decide +kernel, by decide +kernel⟩
theorem im_X10_lost : Cond.instanceMethod yX10_lost ∈ lw_tbl := it4 (List.mem_of_getElem? (i := 0) rfl)
theorem se_X10_lost : Cond.selects RX10 yX10_lost yX10_lost ∈ lw_tbl := it4 (List.mem_of_getElem? (i := 1) rfl)
abbrev m_X10_idle : MM := (yX10_idle, cX10_idle, 6, (Option.some Jvm.ClassFile.FieldType.boolean))
theorem mk_X10_idle : MK m_X10_idle 2 := ⟨by decide +kernel, it4 (List.mem_of_getElem? (i := 6) rfl), it1 (List.mem_of_getElem? (i := 1) rfl), ⟨by decide +kernel, by decide +kernel⟩, by decide +kernel, by decide +kernel⟩
theorem im_X10_idle : Cond.instanceMethod yX10_idle ∈ lw_tbl := it4 (List.mem_of_getElem? (i := 4) rfl)
theorem se_X10_idle : Cond.selects RX10 yX10_idle yX10_idle ∈ lw_tbl := it4 (List.mem_of_getElem? (i := 5) rfl)
abbrev m_X10_more : MM := (yX10_more, cX10_more, 8, (Option.some Jvm.ClassFile.FieldType.int))
theorem mk_X10_more : MK m_X10_more 2 := ⟨by decide +kernel, it4 (List.mem_of_getElem? (i := 22) rfl), it1 (List.mem_of_getElem? (i := 1) rfl), ⟨by decide +kernel, by decide +kernel⟩, by decide +kernel, by decide +kernel⟩
theorem im_X10_more : Cond.instanceMethod yX10_more ∈ lw_tbl := it4 (List.mem_of_getElem? (i := 20) rfl)
theorem se_X10_more : Cond.selects RX10 yX10_more yX10_more ∈ lw_tbl := it4 (List.mem_of_getElem? (i := 21) rfl)
abbrev m_X10_unlike : MM := (yX10_unlike, cX10_unlike, 9, (Option.some Jvm.ClassFile.FieldType.int))
theorem mk_X10_unlike : MK m_X10_unlike 3 := ⟨by decide +kernel, it4 (List.mem_of_getElem? (i := 31) rfl), it1 (List.mem_of_getElem? (i := 1) rfl), ⟨by decide +kernel, by decide +kernel⟩, by decide +kernel, by decide +kernel⟩
theorem im_X10_unlike : Cond.instanceMethod yX10_unlike ∈ lw_tbl := it4 (List.mem_of_getElem? (i := 29) rfl)
theorem se_X10_unlike : Cond.selects RX10 yX10_unlike yX10_unlike ∈ lw_tbl := it4 (List.mem_of_getElem? (i := 30) rfl)
abbrev m_X10_mend : MM := (yX10_mend, cX10_mend, 5, (Option.some Jvm.ClassFile.FieldType.int))
theorem mk_X10_mend : MK m_X10_mend 1 := ⟨by decide +kernel, it4 (List.mem_of_getElem? (i := 43) rfl), it1 (List.mem_of_getElem? (i := 1) rfl), ⟨by decide +kernel, by decide +kernel⟩, by decide +kernel, by decide +kernel⟩
theorem im_X10_mend : Cond.instanceMethod yX10_mend ∈ lw_tbl := it4 (List.mem_of_getElem? (i := 41) rfl)
theorem se_X10_mend : Cond.selects RX10 yX10_mend yX10_mend ∈ lw_tbl := it4 (List.mem_of_getElem? (i := 42) rfl)
abbrev m_X10_change : MM := (yX10_change, cX10_change, 3, (Option.some Jvm.ClassFile.FieldType.int))
theorem mk_X10_change : MK m_X10_change 2 := ⟨by decide +kernel, it4 (List.mem_of_getElem? (i := 112) rfl), it1 (List.mem_of_getElem? (i := 1) rfl), ⟨by decide +kernel, by decide +kernel⟩, by decide +kernel, by decide +kernel⟩
theorem im_X10_change : Cond.instanceMethod yX10_change ∈ lw_tbl := it4 (List.mem_of_getElem? (i := 110) rfl)
theorem se_X10_change : Cond.selects RX10 yX10_change yX10_change ∈ lw_tbl := it4 (List.mem_of_getElem? (i := 111) rfl)
abbrev m_X10_apply : MM := (yX10_apply, cX10_apply, 3, (Option.some Jvm.ClassFile.FieldType.int))
theorem mk_X10_apply : MK m_X10_apply 0 := ⟨by decide +kernel, it4 (List.mem_of_getElem? (i := 125) rfl), it1 (List.mem_of_getElem? (i := 1) rfl), ⟨by decide +kernel, by decide +kernel⟩, by decide +kernel, by decide +kernel⟩
theorem im_X10_apply : Cond.instanceMethod yX10_apply ∈ lw_tbl := it4 (List.mem_of_getElem? (i := 123) rfl)
theorem se_X10_apply : Cond.selects RX10 yX10_apply yX10_apply ∈ lw_tbl := it4 (List.mem_of_getElem? (i := 124) rfl)
abbrev m_X10_line : MM := (yX10_line, cX10_line, 6, (Option.some Jvm.ClassFile.FieldType.int))
theorem mk_X10_line : MK m_X10_line 3 := ⟨by decide +kernel, it4 (List.mem_of_getElem? (i := 143) rfl), it1 (List.mem_of_getElem? (i := 1) rfl), ⟨by decide +kernel, by decide +kernel⟩, by decide +kernel, by decide +kernel⟩
theorem im_X10_line : Cond.instanceMethod yX10_line ∈ lw_tbl := it4 (List.mem_of_getElem? (i := 141) rfl)
theorem se_X10_line : Cond.selects RX10 yX10_line yX10_line ∈ lw_tbl := it4 (List.mem_of_getElem? (i := 142) rfl)
abbrev m_X10_count : MM := (yX10_count, cX10_count, 2, (Option.some Jvm.ClassFile.FieldType.int))
theorem mk_X10_count : MK m_X10_count 1 := ⟨by decide +kernel, it4 (List.mem_of_getElem? (i := 151) rfl), it1 (List.mem_of_getElem? (i := 1) rfl), ⟨by decide +kernel, by decide +kernel⟩, by decide +kernel, by decide +kernel⟩
theorem im_X10_count : Cond.instanceMethod yX10_count ∈ lw_tbl := it4 (List.mem_of_getElem? (i := 149) rfl)
theorem se_X10_count : Cond.selects RX10 yX10_count yX10_count ∈ lw_tbl := it4 (List.mem_of_getElem? (i := 150) rfl)
abbrev m_X10_image : MM := (yX10_image, cX10_image, 2, (Option.some Jvm.ClassFile.FieldType.boolean))
theorem mk_X10_image : MK m_X10_image 1 := ⟨by decide +kernel, it4 (List.mem_of_getElem? (i := 164) rfl), it1 (List.mem_of_getElem? (i := 1) rfl), ⟨by decide +kernel, by decide +kernel⟩, by decide +kernel, by decide +kernel⟩
theorem im_X10_image : Cond.instanceMethod yX10_image ∈ lw_tbl := it4 (List.mem_of_getElem? (i := 162) rfl)
theorem se_X10_image : Cond.selects RX10 yX10_image yX10_image ∈ lw_tbl := it4 (List.mem_of_getElem? (i := 163) rfl)
abbrev m_X10_again : MM := (yX10_again, cX10_again, 2, (Option.some Jvm.ClassFile.FieldType.boolean))
theorem mk_X10_again : MK m_X10_again 1 := ⟨by decide +kernel, it4 (List.mem_of_getElem? (i := 177) rfl), it1 (List.mem_of_getElem? (i := 1) rfl), ⟨by decide +kernel, by decide +kernel⟩, by decide +kernel, by decide +kernel⟩
theorem im_X10_again : Cond.instanceMethod yX10_again ∈ lw_tbl := it4 (List.mem_of_getElem? (i := 175) rfl)
theorem se_X10_again : Cond.selects RX10 yX10_again yX10_again ∈ lw_tbl := it4 (List.mem_of_getElem? (i := 176) rfl)
abbrev m_X10_countOfSlot : MM := (yX10_countOfSlot, cX10_countOfSlot, 3, (Option.some Jvm.ClassFile.FieldType.int))
theorem mk_X10_countOfSlot : MK m_X10_countOfSlot 1 := ⟨by decide +kernel, it4 (List.mem_of_getElem? (i := 160) rfl), it1 (List.mem_of_getElem? (i := 1) rfl), ⟨by decide +kernel, by decide +kernel⟩, by decide +kernel, by decide +kernel⟩
theorem im_X10_countOfSlot : Cond.instanceMethod yX10_countOfSlot ∈ lw_tbl := it4 (List.mem_of_getElem? (i := 159) rfl)
theorem se_X10_countOfSlot : Cond.selects RX10 yX10_countOfSlot yX10_countOfSlot ∈ lw_tbl := ip3 (q := (yX10_countOfSlot, 9)) (List.mem_of_getElem? (i := 4) rfl)
abbrev m_X10_rulesIn : MM := (yX10_rulesIn, cX10_rulesIn, 2, (Option.some (Jvm.ClassFile.FieldType.object "RulesTried$Rules")))
theorem mk_X10_rulesIn : MK m_X10_rulesIn 1 := ⟨by decide +kernel, it3 (List.mem_of_getElem? (i := 128) rfl), it1 (List.mem_of_getElem? (i := 1) rfl), ⟨by decide +kernel, by decide +kernel⟩, by decide +kernel, by decide +kernel⟩
theorem im_X10_rulesIn : Cond.instanceMethod yX10_rulesIn ∈ lw_tbl := it3 (List.mem_of_getElem? (i := 127) rfl)
theorem se_X10_rulesIn : Cond.selects RX10 yX10_rulesIn yX10_rulesIn ∈ lw_tbl := ip2 (q := (yX10_rulesIn, 9)) (List.mem_of_getElem? (i := 5) rfl)
abbrev m_X10_putRules : MM := (yX10_putRules, cX10_putRules, 3, (Option.none : Option Jvm.ClassFile.FieldType))
theorem mk_X10_putRules : MK m_X10_putRules 2 := ⟨by decide +kernel, it3 (List.mem_of_getElem? (i := 72) rfl), it1 (List.mem_of_getElem? (i := 1) rfl), ⟨by decide +kernel, by decide +kernel⟩, by decide +kernel, by decide +kernel⟩
theorem im_X10_putRules : Cond.instanceMethod yX10_putRules ∈ lw_tbl := it3 (List.mem_of_getElem? (i := 71) rfl)
theorem se_X10_putRules : Cond.selects RX10 yX10_putRules yX10_putRules ∈ lw_tbl := ip2 (q := (yX10_putRules, 9)) (List.mem_of_getElem? (i := 4) rfl)
abbrev m_X10_canBePerson : MM := (yX10_canBePerson, cX10_canBePerson, 2, (Option.some Jvm.ClassFile.FieldType.boolean))
theorem mk_X10_canBePerson : MK m_X10_canBePerson 2 := ⟨by decide +kernel, it3 (List.mem_of_getElem? (i := 83) rfl), it1 (List.mem_of_getElem? (i := 1) rfl), ⟨by decide +kernel, by decide +kernel⟩, by decide +kernel, by decide +kernel⟩
theorem sm_X10_canBePerson : Cond.static yX10_canBePerson ∈ lw_tbl := it3 (List.mem_of_getElem? (i := 82) rfl)
abbrev m_X10_isIn : MM := (yX10_isIn, cX10_isIn, 2, (Option.some Jvm.ClassFile.FieldType.boolean))
theorem mk_X10_isIn : MK m_X10_isIn 2 := ⟨by decide +kernel, it1 (List.mem_of_getElem? (i := 168) rfl), it1 (List.mem_of_getElem? (i := 1) rfl), ⟨by decide +kernel, by decide +kernel⟩, by decide +kernel, by decide +kernel⟩
theorem sm_X10_isIn : Cond.static yX10_isIn ∈ lw_tbl := it1 (List.mem_of_getElem? (i := 167) rfl)
abbrev m_X10_isUpTo : MM := (yX10_isUpTo, cX10_isUpTo, 2, (Option.some Jvm.ClassFile.FieldType.boolean))
theorem mk_X10_isUpTo : MK m_X10_isUpTo 2 := ⟨by decide +kernel, it3 (List.mem_of_getElem? (i := 86) rfl), it1 (List.mem_of_getElem? (i := 1) rfl), ⟨by decide +kernel, by decide +kernel⟩, by decide +kernel, by decide +kernel⟩
theorem sm_X10_isUpTo : Cond.static yX10_isUpTo ∈ lw_tbl := it3 (List.mem_of_getElem? (i := 85) rfl)
abbrev m_X10_hasBit : MM := (yX10_hasBit, cX10_hasBit, 2, (Option.some Jvm.ClassFile.FieldType.boolean))
theorem mk_X10_hasBit : MK m_X10_hasBit 2 := ⟨by decide +kernel, it1 (List.mem_of_getElem? (i := 165) rfl), it1 (List.mem_of_getElem? (i := 1) rfl), ⟨by decide +kernel, by decide +kernel⟩, by decide +kernel, by decide +kernel⟩
theorem sm_X10_hasBit : Cond.static yX10_hasBit ∈ lw_tbl := it1 (List.mem_of_getElem? (i := 164) rfl)
abbrev m_X11_init : MM := (yX11_init, cX11_init, 1, (Option.none : Option Jvm.ClassFile.FieldType))
theorem mk_X11_init : MK m_X11_init 0 := ⟨by decide +kernel, it4 (List.mem_of_getElem? (i := 182) rfl), it1 (List.mem_of_getElem? (i := 11) rfl), ⟨by decide +kernel, by decide +kernel⟩, by decide +kernel, by decide +kernel⟩
theorem im_X11_init : Cond.instanceMethod yX11_init ∈ lw_tbl := it4 (List.mem_of_getElem? (i := 181) rfl)
abbrev m_X11_in : MM := (yX11_in, cX11_in, 3, (Option.some Jvm.ClassFile.FieldType.boolean))
theorem mk_X11_in : MK m_X11_in 3 := ⟨by decide +kernel, it5 (List.mem_of_getElem? (i := 110) rfl), it1 (List.mem_of_getElem? (i := 11) rfl), ⟨by decide +kernel, by decide +kernel⟩, by decide +kernel, by decide +kernel⟩
theorem sm_X11_in : Cond.static yX11_in ∈ lw_tbl := it5 (List.mem_of_getElem? (i := 109) rfl)
abbrev m_X11_move : MM := (yX11_move, cX11_move, 5, (Option.none : Option Jvm.ClassFile.FieldType))
theorem mk_X11_move : MK m_X11_move 4 := ⟨by decide +kernel, it6 (List.mem_of_getElem? (i := 136) rfl), it1 (List.mem_of_getElem? (i := 11) rfl), ⟨by decide +kernel, by decide +kernel⟩, by decide +kernel, by decide +kernel⟩
theorem sm_X11_move : Cond.static yX11_move ∈ lw_tbl := it6 (List.mem_of_getElem? (i := 135) rfl)
abbrev m_X11_copy : MM := (yX11_copy, cX11_copy, 4, (Option.none : Option Jvm.ClassFile.FieldType))
theorem mk_X11_copy : MK m_X11_copy 2 := ⟨by decide +kernel, it6 (List.mem_of_getElem? (i := 133) rfl), it1 (List.mem_of_getElem? (i := 11) rfl), ⟨by decide +kernel, by decide +kernel⟩, by decide +kernel, by decide +kernel⟩
theorem im_X11_copy : Cond.instanceMethod yX11_copy ∈ lw_tbl := it6 (List.mem_of_getElem? (i := 132) rfl)
theorem se_X11_copy : Cond.selects RX11 yX11_copy yX11_copy ∈ lw_tbl := ip5 (q := (yX11_copy, 50)) (List.mem_of_getElem? (i := 9) rfl)
abbrev m_X11_feed : MM := (yX11_feed, cX11_feed, 6, (Option.some Jvm.ClassFile.FieldType.int))
theorem mk_X11_feed : MK m_X11_feed 5 := ⟨by decide +kernel, it5 (List.mem_of_getElem? (i := 99) rfl), it1 (List.mem_of_getElem? (i := 11) rfl), ⟨by decide +kernel, by decide +kernel⟩, by decide +kernel, by decide +kernel⟩
theorem im_X11_feed : Cond.instanceMethod yX11_feed ∈ lw_tbl := it5 (List.mem_of_getElem? (i := 97) rfl)
theorem se_X11_feed : Cond.selects RX11 yX11_feed yX11_feed ∈ lw_tbl := it5 (List.mem_of_getElem? (i := 98) rfl)
abbrev m_X11_four : MM := (yX11_four, cX11_four, 3, (Option.none : Option Jvm.ClassFile.FieldType))
theorem mk_X11_four : MK m_X11_four 1 := ⟨by decide +kernel, it5 (List.mem_of_getElem? (i := 103) rfl), it1 (List.mem_of_getElem? (i := 11) rfl), ⟨by decide +kernel, by decide +kernel⟩, by decide +kernel, by decide +kernel⟩
theorem im_X11_four : Cond.instanceMethod yX11_four ∈ lw_tbl := it5 (List.mem_of_getElem? (i := 102) rfl)
theorem se_X11_four : Cond.selects RX11 yX11_four yX11_four ∈ lw_tbl := ip3 (q := (yX11_four, 50)) (List.mem_of_getElem? (i := 5) rfl)
abbrev m_X11_end : MM := (yX11_end, cX11_end, 2, (Option.some Jvm.ClassFile.FieldType.int))
theorem mk_X11_end : MK m_X11_end 1 := ⟨by decide +kernel, it5 (List.mem_of_getElem? (i := 107) rfl), it1 (List.mem_of_getElem? (i := 11) rfl), ⟨by decide +kernel, by decide +kernel⟩, by decide +kernel, by decide +kernel⟩
theorem im_X11_end : Cond.instanceMethod yX11_end ∈ lw_tbl := it5 (List.mem_of_getElem? (i := 105) rfl)
theorem se_X11_end : Cond.selects RX11 yX11_end yX11_end ∈ lw_tbl := it5 (List.mem_of_getElem? (i := 106) rfl)
abbrev m_X11_see : MM := (yX11_see, cX11_see, 1, (Option.some Jvm.ClassFile.FieldType.int))
theorem mk_X11_see : MK m_X11_see 0 := ⟨by decide +kernel, it5 (List.mem_of_getElem? (i := 126) rfl), it1 (List.mem_of_getElem? (i := 11) rfl), ⟨by decide +kernel, by decide +kernel⟩, by decide +kernel, by decide +kernel⟩
theorem im_X11_see : Cond.instanceMethod yX11_see ∈ lw_tbl := it5 (List.mem_of_getElem? (i := 125) rfl)
theorem se_X11_see : Cond.selects RX11 yX11_see yX11_see ∈ lw_tbl := ip3 (q := (yX11_see, 50)) (List.mem_of_getElem? (i := 8) rfl)
abbrev m_X11_next : MM := (yX11_next, cX11_next, 3, (Option.none : Option Jvm.ClassFile.FieldType))
theorem mk_X11_next : MK m_X11_next 0 := ⟨by decide +kernel, it5 (List.mem_of_getElem? (i := 122) rfl), it1 (List.mem_of_getElem? (i := 11) rfl), ⟨by decide +kernel, by decide +kernel⟩, by decide +kernel, by decide +kernel⟩
theorem im_X11_next : Cond.instanceMethod yX11_next ∈ lw_tbl := it5 (List.mem_of_getElem? (i := 121) rfl)
theorem se_X11_next : Cond.selects RX11 yX11_next yX11_next ∈ lw_tbl := ip3 (q := (yX11_next, 50)) (List.mem_of_getElem? (i := 7) rfl)
abbrev m_X11_isWord : MM := (yX11_isWord, cX11_isWord, 3, (Option.some Jvm.ClassFile.FieldType.boolean))
theorem mk_X11_isWord : MK m_X11_isWord 1 := ⟨by decide +kernel, it5 (List.mem_of_getElem? (i := 135) rfl), it1 (List.mem_of_getElem? (i := 11) rfl), ⟨by decide +kernel, by decide +kernel⟩, by decide +kernel, by decide +kernel⟩
theorem im_X11_isWord : Cond.instanceMethod yX11_isWord ∈ lw_tbl := it5 (List.mem_of_getElem? (i := 134) rfl)
theorem se_X11_isWord : Cond.selects RX11 yX11_isWord yX11_isWord ∈ lw_tbl := ip3 (q := (yX11_isWord, 50)) (List.mem_of_getElem? (i := 10) rfl)
abbrev m_X11_isSign : MM := (yX11_isSign, cX11_isSign, 2, (Option.some Jvm.ClassFile.FieldType.boolean))
theorem mk_X11_isSign : MK m_X11_isSign 1 := ⟨by decide +kernel, it5 (List.mem_of_getElem? (i := 151) rfl), it1 (List.mem_of_getElem? (i := 11) rfl), ⟨by decide +kernel, by decide +kernel⟩, by decide +kernel, by decide +kernel⟩
theorem im_X11_isSign : Cond.instanceMethod yX11_isSign ∈ lw_tbl := it5 (List.mem_of_getElem? (i := 150) rfl)
theorem se_X11_isSign : Cond.selects RX11 yX11_isSign yX11_isSign ∈ lw_tbl := ip3 (q := (yX11_isSign, 50)) (List.mem_of_getElem? (i := 13) rfl)
abbrev m_X11_wrong : MM := (yX11_wrong, cX11_wrong, 1, (Option.some Jvm.ClassFile.FieldType.boolean))
theorem mk_X11_wrong : MK m_X11_wrong 0 := ⟨by decide +kernel, it5 (List.mem_of_getElem? (i := 143) rfl), it1 (List.mem_of_getElem? (i := 11) rfl), ⟨by decide +kernel, by decide +kernel⟩, by decide +kernel, by decide +kernel⟩
theorem im_X11_wrong : Cond.instanceMethod yX11_wrong ∈ lw_tbl := it5 (List.mem_of_getElem? (i := 142) rfl)
theorem se_X11_wrong : Cond.selects RX11 yX11_wrong yX11_wrong ∈ lw_tbl := ip3 (q := (yX11_wrong, 50)) (List.mem_of_getElem? (i := 11) rfl)
abbrev m_X11_note : MM := (yX11_note, cX11_note, 3, (Option.none : Option Jvm.ClassFile.FieldType))
theorem mk_X11_note : MK m_X11_note 2 := ⟨by decide +kernel, it5 (List.mem_of_getElem? (i := 159) rfl), it1 (List.mem_of_getElem? (i := 11) rfl), ⟨by decide +kernel, by decide +kernel⟩, by decide +kernel, by decide +kernel⟩
theorem im_X11_note : Cond.instanceMethod yX11_note ∈ lw_tbl := it5 (List.mem_of_getElem? (i := 158) rfl)
theorem se_X11_note : Cond.selects RX11 yX11_note yX11_note ∈ lw_tbl := ip3 (q := (yX11_note, 50)) (List.mem_of_getElem? (i := 15) rfl)
abbrev m_X11_need : MM := (yX11_need, cX11_need, 2, (Option.some Jvm.ClassFile.FieldType.boolean))
theorem mk_X11_need : MK m_X11_need 1 := ⟨by decide +kernel, it5 (List.mem_of_getElem? (i := 147) rfl), it1 (List.mem_of_getElem? (i := 11) rfl), ⟨by decide +kernel, by decide +kernel⟩, by decide +kernel, by decide +kernel⟩
theorem im_X11_need : Cond.instanceMethod yX11_need ∈ lw_tbl := it5 (List.mem_of_getElem? (i := 146) rfl)
theorem se_X11_need : Cond.selects RX11 yX11_need yX11_need ∈ lw_tbl := ip3 (q := (yX11_need, 50)) (List.mem_of_getElem? (i := 12) rfl)
abbrev m_X11_number : MM := (yX11_number, cX11_number, 2, (Option.some Jvm.ClassFile.FieldType.boolean))
theorem mk_X11_number : MK m_X11_number 1 := ⟨by decide +kernel, it5 (List.mem_of_getElem? (i := 172) rfl), it1 (List.mem_of_getElem? (i := 11) rfl), ⟨by decide +kernel, by decide +kernel⟩, by decide +kernel, by decide +kernel⟩
theorem im_X11_number : Cond.instanceMethod yX11_number ∈ lw_tbl := it5 (List.mem_of_getElem? (i := 171) rfl)
theorem se_X11_number : Cond.selects RX11 yX11_number yX11_number ∈ lw_tbl := ip4 (q := (yX11_number, 50)) (List.mem_of_getElem? (i := 1) rfl)
abbrev m_X11_put : MM := (yX11_put, cX11_put, 3, (Option.none : Option Jvm.ClassFile.FieldType))
theorem mk_X11_put : MK m_X11_put 2 := ⟨by decide +kernel, it5 (List.mem_of_getElem? (i := 210) rfl), it1 (List.mem_of_getElem? (i := 11) rfl), ⟨by decide +kernel, by decide +kernel⟩, by decide +kernel, by decide +kernel⟩
theorem im_X11_put : Cond.instanceMethod yX11_put ∈ lw_tbl := it5 (List.mem_of_getElem? (i := 209) rfl)
theorem se_X11_put : Cond.selects RX11 yX11_put yX11_put ∈ lw_tbl := ip4 (q := (yX11_put, 50)) (List.mem_of_getElem? (i := 8) rfl)
abbrev m_X11_beginning : MM := (yX11_beginning, cX11_beginning, 1, (Option.some Jvm.ClassFile.FieldType.boolean))
theorem mk_X11_beginning : MK m_X11_beginning 0 := ⟨by decide +kernel, it5 (List.mem_of_getElem? (i := 130) rfl), it1 (List.mem_of_getElem? (i := 11) rfl), ⟨by decide +kernel, by decide +kernel⟩, by decide +kernel, by decide +kernel⟩
theorem im_X11_beginning : Cond.instanceMethod yX11_beginning ∈ lw_tbl := it5 (List.mem_of_getElem? (i := 129) rfl)
theorem se_X11_beginning : Cond.selects RX11 yX11_beginning yX11_beginning ∈ lw_tbl := ip3 (q := (yX11_beginning, 50)) (List.mem_of_getElem? (i := 9) rfl)
abbrev m_X11_oneLine : MM := (yX11_oneLine, cX11_oneLine, 2, (Option.some Jvm.ClassFile.FieldType.boolean))
theorem mk_X11_oneLine : MK m_X11_oneLine 0 := ⟨by decide +kernel, it5 (List.mem_of_getElem? (i := 155) rfl), it1 (List.mem_of_getElem? (i := 11) rfl), ⟨by decide +kernel, by decide +kernel⟩, by decide +kernel, by decide +kernel⟩
theorem im_X11_oneLine : Cond.instanceMethod yX11_oneLine ∈ lw_tbl := it5 (List.mem_of_getElem? (i := 154) rfl)
theorem se_X11_oneLine : Cond.selects RX11 yX11_oneLine yX11_oneLine ∈ lw_tbl := ip3 (q := (yX11_oneLine, 50)) (List.mem_of_getElem? (i := 14) rfl)
abbrev m_X11_who : MM := (yX11_who, cX11_who, 4, (Option.some Jvm.ClassFile.FieldType.boolean))
theorem mk_X11_who : MK m_X11_who 1 := ⟨by decide +kernel, it5 (List.mem_of_getElem? (i := 163) rfl), it1 (List.mem_of_getElem? (i := 11) rfl), ⟨by decide +kernel, by decide +kernel⟩, by decide +kernel, by decide +kernel⟩
theorem im_X11_who : Cond.instanceMethod yX11_who ∈ lw_tbl := it5 (List.mem_of_getElem? (i := 162) rfl)
theorem se_X11_who : Cond.selects RX11 yX11_who yX11_who ∈ lw_tbl := ip4 (q := (yX11_who, 50)) (List.mem_of_getElem? (i := 0) rfl)
abbrev m_X11_act : MM := (yX11_act, cX11_act, 3, (Option.some Jvm.ClassFile.FieldType.boolean))
theorem mk_X11_act : MK m_X11_act 1 := ⟨by decide +kernel, it5 (List.mem_of_getElem? (i := 176) rfl), it1 (List.mem_of_getElem? (i := 11) rfl), ⟨by decide +kernel, by decide +kernel⟩, by decide +kernel, by decide +kernel⟩
theorem im_X11_act : Cond.instanceMethod yX11_act ∈ lw_tbl := it5 (List.mem_of_getElem? (i := 175) rfl)
theorem se_X11_act : Cond.selects RX11 yX11_act yX11_act ∈ lw_tbl := ip4 (q := (yX11_act, 50)) (List.mem_of_getElem? (i := 2) rfl)
abbrev m_X11_what : MM := (yX11_what, cX11_what, 4, (Option.some Jvm.ClassFile.FieldType.boolean))
theorem mk_X11_what : MK m_X11_what 1 := ⟨by decide +kernel, it5 (List.mem_of_getElem? (i := 185) rfl), it1 (List.mem_of_getElem? (i := 11) rfl), ⟨by decide +kernel, by decide +kernel⟩, by decide +kernel, by decide +kernel⟩
theorem im_X11_what : Cond.instanceMethod yX11_what ∈ lw_tbl := it5 (List.mem_of_getElem? (i := 184) rfl)
theorem se_X11_what : Cond.selects RX11 yX11_what yX11_what ∈ lw_tbl := ip4 (q := (yX11_what, 50)) (List.mem_of_getElem? (i := 3) rfl)
abbrev m_X11_any : MM := (yX11_any, cX11_any, 2, (Option.some Jvm.ClassFile.FieldType.boolean))
theorem mk_X11_any : MK m_X11_any 0 := ⟨by decide +kernel, it5 (List.mem_of_getElem? (i := 193) rfl), it1 (List.mem_of_getElem? (i := 11) rfl), ⟨by decide +kernel, by decide +kernel⟩, by decide +kernel, by decide +kernel⟩
theorem im_X11_any : Cond.instanceMethod yX11_any ∈ lw_tbl := it5 (List.mem_of_getElem? (i := 192) rfl)
theorem se_X11_any : Cond.selects RX11 yX11_any yX11_any ∈ lw_tbl := ip4 (q := (yX11_any, 50)) (List.mem_of_getElem? (i := 4) rfl)
abbrev m_X11_both : MM := (yX11_both, cX11_both, 2, (Option.some Jvm.ClassFile.FieldType.boolean))
theorem mk_X11_both : MK m_X11_both 0 := ⟨by decide +kernel, it5 (List.mem_of_getElem? (i := 197) rfl), it1 (List.mem_of_getElem? (i := 11) rfl), ⟨by decide +kernel, by decide +kernel⟩, by decide +kernel, by decide +kernel⟩
theorem im_X11_both : Cond.instanceMethod yX11_both ∈ lw_tbl := it5 (List.mem_of_getElem? (i := 196) rfl)
theorem se_X11_both : Cond.selects RX11 yX11_both yX11_both ∈ lw_tbl := ip4 (q := (yX11_both, 50)) (List.mem_of_getElem? (i := 5) rfl)
abbrev m_X11_negated : MM := (yX11_negated, cX11_negated, 3, (Option.some Jvm.ClassFile.FieldType.boolean))
theorem mk_X11_negated : MK m_X11_negated 0 := ⟨by decide +kernel, it5 (List.mem_of_getElem? (i := 201) rfl), it1 (List.mem_of_getElem? (i := 11) rfl), ⟨by decide +kernel, by decide +kernel⟩, by decide +kernel, by decide +kernel⟩
theorem im_X11_negated : Cond.instanceMethod yX11_negated ∈ lw_tbl := it5 (List.mem_of_getElem? (i := 200) rfl)
theorem se_X11_negated : Cond.selects RX11 yX11_negated yX11_negated ∈ lw_tbl := ip4 (q := (yX11_negated, 50)) (List.mem_of_getElem? (i := 6) rfl)
abbrev m_X11_part : MM := (yX11_part, cX11_part, 3, (Option.some Jvm.ClassFile.FieldType.boolean))
theorem mk_X11_part : MK m_X11_part 0 := ⟨by decide +kernel, it5 (List.mem_of_getElem? (i := 206) rfl), it1 (List.mem_of_getElem? (i := 11) rfl), ⟨by decide +kernel, by decide +kernel⟩, by decide +kernel, by decide +kernel⟩
theorem im_X11_part : Cond.instanceMethod yX11_part ∈ lw_tbl := it5 (List.mem_of_getElem? (i := 205) rfl)
theorem se_X11_part : Cond.selects RX11 yX11_part yX11_part ∈ lw_tbl := ip4 (q := (yX11_part, 50)) (List.mem_of_getElem? (i := 7) rfl)
abbrev m_X11_term : MM := (yX11_term, cX11_term, 2, (Option.some Jvm.ClassFile.FieldType.boolean))
theorem mk_X11_term : MK m_X11_term 0 := ⟨by decide +kernel, it5 (List.mem_of_getElem? (i := 214) rfl), it1 (List.mem_of_getElem? (i := 11) rfl), ⟨by decide +kernel, by decide +kernel⟩, by decide +kernel, by decide +kernel⟩
theorem im_X11_term : Cond.instanceMethod yX11_term ∈ lw_tbl := it5 (List.mem_of_getElem? (i := 213) rfl)
theorem se_X11_term : Cond.selects RX11 yX11_term yX11_term ∈ lw_tbl := ip4 (q := (yX11_term, 50)) (List.mem_of_getElem? (i := 9) rfl)
abbrev m_X11_rules : MM := (yX11_rules, cX11_rules, 4, (Option.some Jvm.ClassFile.FieldType.int))
theorem mk_X11_rules : MK m_X11_rules 1 := ⟨by decide +kernel, it5 (List.mem_of_getElem? (i := 114) rfl), it1 (List.mem_of_getElem? (i := 11) rfl), ⟨by decide +kernel, by decide +kernel⟩, by decide +kernel, by decide +kernel⟩
theorem im_X11_rules : Cond.instanceMethod yX11_rules ∈ lw_tbl := it5 (List.mem_of_getElem? (i := 112) rfl)
theorem se_X11_rules : Cond.selects RX11 yX11_rules yX11_rules ∈ lw_tbl := it5 (List.mem_of_getElem? (i := 113) rfl)
abbrev m_X11_fault : MM := (yX11_fault, cX11_fault, 2, (Option.some Jvm.ClassFile.FieldType.int))
theorem mk_X11_fault : MK m_X11_fault 1 := ⟨by decide +kernel, it5 (List.mem_of_getElem? (i := 222) rfl), it1 (List.mem_of_getElem? (i := 11) rfl), ⟨by decide +kernel, by decide +kernel⟩, by decide +kernel, by decide +kernel⟩
theorem im_X11_fault : Cond.instanceMethod yX11_fault ∈ lw_tbl := it5 (List.mem_of_getElem? (i := 220) rfl)
theorem se_X11_fault : Cond.selects RX11 yX11_fault yX11_fault ∈ lw_tbl := it5 (List.mem_of_getElem? (i := 221) rfl)
abbrev m_X11_isSlot : MM := (yX11_isSlot, cX11_isSlot, 2, (Option.some Jvm.ClassFile.FieldType.boolean))
theorem mk_X11_isSlot : MK m_X11_isSlot 1 := ⟨by decide +kernel, it5 (List.mem_of_getElem? (i := 118) rfl), it1 (List.mem_of_getElem? (i := 11) rfl), ⟨by decide +kernel, by decide +kernel⟩, by decide +kernel, by decide +kernel⟩
theorem im_X11_isSlot : Cond.instanceMethod yX11_isSlot ∈ lw_tbl := it5 (List.mem_of_getElem? (i := 117) rfl)
theorem se_X11_isSlot : Cond.selects RX11 yX11_isSlot yX11_isSlot ∈ lw_tbl := ip3 (q := (yX11_isSlot, 50)) (List.mem_of_getElem? (i := 6) rfl)
abbrev m_X11_isPerson : MM := (yX11_isPerson, cX11_isPerson, 2, (Option.some Jvm.ClassFile.FieldType.boolean))
theorem mk_X11_isPerson : MK m_X11_isPerson 1 := ⟨by decide +kernel, it5 (List.mem_of_getElem? (i := 234) rfl), it1 (List.mem_of_getElem? (i := 11) rfl), ⟨by decide +kernel, by decide +kernel⟩, by decide +kernel, by decide +kernel⟩
theorem im_X11_isPerson : Cond.instanceMethod yX11_isPerson ∈ lw_tbl := it5 (List.mem_of_getElem? (i := 233) rfl)
theorem se_X11_isPerson : Cond.selects RX11 yX11_isPerson yX11_isPerson ∈ lw_tbl := ip4 (q := (yX11_isPerson, 50)) (List.mem_of_getElem? (i := 10) rfl)
abbrev m_X11_isThing : MM := (yX11_isThing, cX11_isThing, 2, (Option.some Jvm.ClassFile.FieldType.boolean))
theorem mk_X11_isThing : MK m_X11_isThing 1 := ⟨by decide +kernel, it6 (List.mem_of_getElem? (i := 6) rfl), it1 (List.mem_of_getElem? (i := 11) rfl), ⟨by decide +kernel, by decide +kernel⟩, by decide +kernel, by decide +kernel⟩
theorem im_X11_isThing : Cond.instanceMethod yX11_isThing ∈ lw_tbl := it6 (List.mem_of_getElem? (i := 5) rfl)
theorem se_X11_isThing : Cond.selects RX11 yX11_isThing yX11_isThing ∈ lw_tbl := ip4 (q := (yX11_isThing, 50)) (List.mem_of_getElem? (i := 11) rfl)
abbrev m_X11_isLine : MM := (yX11_isLine, cX11_isLine, 3, (Option.some Jvm.ClassFile.FieldType.boolean))
theorem mk_X11_isLine : MK m_X11_isLine 2 := ⟨by decide +kernel, it6 (List.mem_of_getElem? (i := 69) rfl), it1 (List.mem_of_getElem? (i := 11) rfl), ⟨by decide +kernel, by decide +kernel⟩, by decide +kernel, by decide +kernel⟩
theorem im_X11_isLine : Cond.instanceMethod yX11_isLine ∈ lw_tbl := it6 (List.mem_of_getElem? (i := 68) rfl)
theorem se_X11_isLine : Cond.selects RX11 yX11_isLine yX11_isLine ∈ lw_tbl := ip5 (q := (yX11_isLine, 50)) (List.mem_of_getElem? (i := 3) rfl)
abbrev m_X11_person : MM := (yX11_person, cX11_person, 3, (Option.some Jvm.ClassFile.FieldType.int))
theorem mk_X11_person : MK m_X11_person 2 := ⟨by decide +kernel, it5 (List.mem_of_getElem? (i := 226) rfl), it1 (List.mem_of_getElem? (i := 11) rfl), ⟨by decide +kernel, by decide +kernel⟩, by decide +kernel, by decide +kernel⟩
theorem im_X11_person : Cond.instanceMethod yX11_person ∈ lw_tbl := it5 (List.mem_of_getElem? (i := 224) rfl)
theorem se_X11_person : Cond.selects RX11 yX11_person yX11_person ∈ lw_tbl := it5 (List.mem_of_getElem? (i := 225) rfl)
abbrev m_X11_thing : MM := (yX11_thing, cX11_thing, 4, (Option.some Jvm.ClassFile.FieldType.int))
theorem mk_X11_thing : MK m_X11_thing 3 := ⟨by decide +kernel, it5 (List.mem_of_getElem? (i := 230) rfl), it1 (List.mem_of_getElem? (i := 11) rfl), ⟨by decide +kernel, by decide +kernel⟩, by decide +kernel, by decide +kernel⟩
theorem im_X11_thing : Cond.instanceMethod yX11_thing ∈ lw_tbl := it5 (List.mem_of_getElem? (i := 228) rfl)
theorem se_X11_thing : Cond.selects RX11 yX11_thing yX11_thing ∈ lw_tbl := it5 (List.mem_of_getElem? (i := 229) rfl)
abbrev m_X11_moves : MM := (yX11_moves, cX11_moves, 4, (Option.some Jvm.ClassFile.FieldType.boolean))
theorem mk_X11_moves : MK m_X11_moves 3 := ⟨by decide +kernel, it5 (List.mem_of_getElem? (i := 238) rfl), it1 (List.mem_of_getElem? (i := 11) rfl), ⟨by decide +kernel, by decide +kernel⟩, by decide +kernel, by decide +kernel⟩
theorem im_X11_moves : Cond.instanceMethod yX11_moves ∈ lw_tbl := it5 (List.mem_of_getElem? (i := 236) rfl)
theorem se_X11_moves : Cond.selects RX11 yX11_moves yX11_moves ∈ lw_tbl := it5 (List.mem_of_getElem? (i := 237) rfl)
abbrev m_X11_gives : MM := (yX11_gives, cX11_gives, 4, (Option.some Jvm.ClassFile.FieldType.boolean))
theorem mk_X11_gives : MK m_X11_gives 3 := ⟨by decide +kernel, it6 (List.mem_of_getElem? (i := 2) rfl), it1 (List.mem_of_getElem? (i := 11) rfl), ⟨by decide +kernel, by decide +kernel⟩, by decide +kernel, by decide +kernel⟩
theorem im_X11_gives : Cond.instanceMethod yX11_gives ∈ lw_tbl := it6 (List.mem_of_getElem? (i := 0) rfl)
theorem se_X11_gives : Cond.selects RX11 yX11_gives yX11_gives ∈ lw_tbl := it6 (List.mem_of_getElem? (i := 1) rfl)
abbrev m_X11_tell : MM := (yX11_tell, cX11_tell, 3, (Option.some Jvm.ClassFile.FieldType.int))
theorem mk_X11_tell : MK m_X11_tell 2 := ⟨by decide +kernel, it6 (List.mem_of_getElem? (i := 10) rfl), it1 (List.mem_of_getElem? (i := 11) rfl), ⟨by decide +kernel, by decide +kernel⟩, by decide +kernel, by decide +kernel⟩
theorem im_X11_tell : Cond.instanceMethod yX11_tell ∈ lw_tbl := it6 (List.mem_of_getElem? (i := 8) rfl)
theorem se_X11_tell : Cond.selects RX11 yX11_tell yX11_tell ∈ lw_tbl := it6 (List.mem_of_getElem? (i := 9) rfl)
abbrev m_X11_ones : MM := (yX11_ones, cX11_ones, 3, (Option.some Jvm.ClassFile.FieldType.int))
theorem mk_X11_ones : MK m_X11_ones 1 := ⟨by decide +kernel, it6 (List.mem_of_getElem? (i := 33) rfl), it1 (List.mem_of_getElem? (i := 11) rfl), ⟨by decide +kernel, by decide +kernel⟩, by decide +kernel, by decide +kernel⟩
theorem sm_X11_ones : Cond.static yX11_ones ∈ lw_tbl := it6 (List.mem_of_getElem? (i := 32) rfl)
abbrev m_X11_tested : MM := (yX11_tested, cX11_tested, 12, (Option.some Jvm.ClassFile.FieldType.boolean))
theorem mk_X11_tested : MK m_X11_tested 5 := ⟨by decide +kernel, it6 (List.mem_of_getElem? (i := 30) rfl), it1 (List.mem_of_getElem? (i := 11) rfl), ⟨by decide +kernel, by decide +kernel⟩, by decide +kernel, by decide +kernel⟩
theorem im_X11_tested : Cond.instanceMethod yX11_tested ∈ lw_tbl := it6 (List.mem_of_getElem? (i := 29) rfl)
theorem se_X11_tested : Cond.selects RX11 yX11_tested yX11_tested ∈ lw_tbl := ip4 (q := (yX11_tested, 50)) (List.mem_of_getElem? (i := 15) rfl)
abbrev m_X11_holds : MM := (yX11_holds, cX11_holds, 11, (Option.some Jvm.ClassFile.FieldType.boolean))
theorem mk_X11_holds : MK m_X11_holds 6 := ⟨by decide +kernel, it6 (List.mem_of_getElem? (i := 26) rfl), it1 (List.mem_of_getElem? (i := 11) rfl), ⟨by decide +kernel, by decide +kernel⟩, by decide +kernel, by decide +kernel⟩
theorem im_X11_holds : Cond.instanceMethod yX11_holds ∈ lw_tbl := it6 (List.mem_of_getElem? (i := 25) rfl)
theorem se_X11_holds : Cond.selects RX11 yX11_holds yX11_holds ∈ lw_tbl := ip4 (q := (yX11_holds, 50)) (List.mem_of_getElem? (i := 14) rfl)
abbrev m_X11_lets : MM := (yX11_lets, cX11_lets, 3, (Option.some Jvm.ClassFile.FieldType.boolean))
theorem mk_X11_lets : MK m_X11_lets 2 := ⟨by decide +kernel, it6 (List.mem_of_getElem? (i := 37) rfl), it1 (List.mem_of_getElem? (i := 11) rfl), ⟨by decide +kernel, by decide +kernel⟩, by decide +kernel, by decide +kernel⟩
theorem im_X11_lets : Cond.instanceMethod yX11_lets ∈ lw_tbl := it6 (List.mem_of_getElem? (i := 36) rfl)
theorem se_X11_lets : Cond.selects RX11 yX11_lets yX11_lets ∈ lw_tbl := ip5 (q := (yX11_lets, 50)) (List.mem_of_getElem? (i := 0) rfl)
abbrev m_X11_decider : MM := (yX11_decider, cX11_decider, 8, (Option.some Jvm.ClassFile.FieldType.int))
theorem mk_X11_decider : MK m_X11_decider 5 := ⟨by decide +kernel, it6 (List.mem_of_getElem? (i := 22) rfl), it1 (List.mem_of_getElem? (i := 11) rfl), ⟨by decide +kernel, by decide +kernel⟩, by decide +kernel, by decide +kernel⟩
theorem im_X11_decider : Cond.instanceMethod yX11_decider ∈ lw_tbl := it6 (List.mem_of_getElem? (i := 21) rfl)
theorem se_X11_decider : Cond.selects RX11 yX11_decider yX11_decider ∈ lw_tbl := ip4 (q := (yX11_decider, 50)) (List.mem_of_getElem? (i := 13) rfl)
abbrev m_X11_isLet : MM := (yX11_isLet, cX11_isLet, 7, (Option.some Jvm.ClassFile.FieldType.boolean))
theorem mk_X11_isLet : MK m_X11_isLet 5 := ⟨by decide +kernel, it6 (List.mem_of_getElem? (i := 41) rfl), it1 (List.mem_of_getElem? (i := 11) rfl), ⟨by decide +kernel, by decide +kernel⟩, by decide +kernel, by decide +kernel⟩
theorem im_X11_isLet : Cond.instanceMethod yX11_isLet ∈ lw_tbl := it6 (List.mem_of_getElem? (i := 40) rfl)
theorem se_X11_isLet : Cond.selects RX11 yX11_isLet yX11_isLet ∈ lw_tbl := ip5 (q := (yX11_isLet, 50)) (List.mem_of_getElem? (i := 1) rfl)
abbrev m_X11_canAsk : MM := (yX11_canAsk, cX11_canAsk, 5, (Option.some Jvm.ClassFile.FieldType.boolean))
theorem mk_X11_canAsk : MK m_X11_canAsk 4 := ⟨by decide +kernel, it6 (List.mem_of_getElem? (i := 18) rfl), it1 (List.mem_of_getElem? (i := 11) rfl), ⟨by decide +kernel, by decide +kernel⟩, by decide +kernel, by decide +kernel⟩
theorem im_X11_canAsk : Cond.instanceMethod yX11_canAsk ∈ lw_tbl := it6 (List.mem_of_getElem? (i := 17) rfl)
theorem se_X11_canAsk : Cond.selects RX11 yX11_canAsk yX11_canAsk ∈ lw_tbl := ip4 (q := (yX11_canAsk, 50)) (List.mem_of_getElem? (i := 12) rfl)
abbrev m_X11_decide : MM := (yX11_decide, cX11_decide, 7, (Option.some Jvm.ClassFile.FieldType.int))
theorem mk_X11_decide : MK m_X11_decide 6 := ⟨by decide +kernel, it6 (List.mem_of_getElem? (i := 14) rfl), it1 (List.mem_of_getElem? (i := 11) rfl), ⟨by decide +kernel, by decide +kernel⟩, by decide +kernel, by decide +kernel⟩
theorem im_X11_decide : Cond.instanceMethod yX11_decide ∈ lw_tbl := it6 (List.mem_of_getElem? (i := 12) rfl)
theorem se_X11_decide : Cond.selects RX11 yX11_decide yX11_decide ∈ lw_tbl := it6 (List.mem_of_getElem? (i := 13) rfl)
abbrev m_X11_ask : MM := (yX11_ask, cX11_ask, 6, (Option.some Jvm.ClassFile.FieldType.int))
theorem mk_X11_ask : MK m_X11_ask 4 := ⟨by decide +kernel, it6 (List.mem_of_getElem? (i := 45) rfl), it1 (List.mem_of_getElem? (i := 11) rfl), ⟨by decide +kernel, by decide +kernel⟩, by decide +kernel, by decide +kernel⟩
theorem im_X11_ask : Cond.instanceMethod yX11_ask ∈ lw_tbl := it6 (List.mem_of_getElem? (i := 43) rfl)
theorem se_X11_ask : Cond.selects RX11 yX11_ask yX11_ask ∈ lw_tbl := it6 (List.mem_of_getElem? (i := 44) rfl)
abbrev m_X11_mark : MM := (yX11_mark, cX11_mark, 3, (Option.some Jvm.ClassFile.FieldType.boolean))
theorem mk_X11_mark : MK m_X11_mark 2 := ⟨by decide +kernel, it6 (List.mem_of_getElem? (i := 49) rfl), it1 (List.mem_of_getElem? (i := 11) rfl), ⟨by decide +kernel, by decide +kernel⟩, by decide +kernel, by decide +kernel⟩
theorem im_X11_mark : Cond.instanceMethod yX11_mark ∈ lw_tbl := it6 (List.mem_of_getElem? (i := 47) rfl)
theorem se_X11_mark : Cond.selects RX11 yX11_mark yX11_mark ∈ lw_tbl := it6 (List.mem_of_getElem? (i := 48) rfl)
abbrev m_X11_book : MM := (yX11_book, cX11_book, 3, (Option.some Jvm.ClassFile.FieldType.int))
theorem mk_X11_book : MK m_X11_book 2 := ⟨by decide +kernel, it6 (List.mem_of_getElem? (i := 53) rfl), it1 (List.mem_of_getElem? (i := 11) rfl), ⟨by decide +kernel, by decide +kernel⟩, by decide +kernel, by decide +kernel⟩
theorem im_X11_book : Cond.instanceMethod yX11_book ∈ lw_tbl := it6 (List.mem_of_getElem? (i := 51) rfl)
theorem se_X11_book : Cond.selects RX11 yX11_book yX11_book ∈ lw_tbl := it6 (List.mem_of_getElem? (i := 52) rfl)
abbrev m_X11_isAskLet : MM := (yX11_isAskLet, cX11_isAskLet, 3, (Option.some Jvm.ClassFile.FieldType.boolean))
theorem mk_X11_isAskLet : MK m_X11_isAskLet 2 := ⟨by decide +kernel, it6 (List.mem_of_getElem? (i := 61) rfl), it1 (List.mem_of_getElem? (i := 11) rfl), ⟨by decide +kernel, by decide +kernel⟩, by decide +kernel, by decide +kernel⟩
theorem im_X11_isAskLet : Cond.instanceMethod yX11_isAskLet ∈ lw_tbl := it6 (List.mem_of_getElem? (i := 60) rfl)
theorem se_X11_isAskLet : Cond.selects RX11 yX11_isAskLet yX11_isAskLet ∈ lw_tbl := ip5 (q := (yX11_isAskLet, 50)) (List.mem_of_getElem? (i := 2) rfl)
abbrev m_X11_tried : MM := (yX11_tried, cX11_tried, 4, (Option.some Jvm.ClassFile.FieldType.int))
theorem mk_X11_tried : MK m_X11_tried 1 := ⟨by decide +kernel, it6 (List.mem_of_getElem? (i := 57) rfl), it1 (List.mem_of_getElem? (i := 11) rfl), ⟨by decide +kernel, by decide +kernel⟩, by decide +kernel, by decide +kernel⟩
theorem im_X11_tried : Cond.instanceMethod yX11_tried ∈ lw_tbl := it6 (List.mem_of_getElem? (i := 55) rfl)
theorem se_X11_tried : Cond.selects RX11 yX11_tried yX11_tried ∈ lw_tbl := it6 (List.mem_of_getElem? (i := 56) rfl)
abbrev m_X11_decides : MM := (yX11_decides, cX11_decides, 5, (Option.some Jvm.ClassFile.FieldType.int))
theorem mk_X11_decides : MK m_X11_decides 2 := ⟨by decide +kernel, it6 (List.mem_of_getElem? (i := 65) rfl), it1 (List.mem_of_getElem? (i := 11) rfl), ⟨by decide +kernel, by decide +kernel⟩, by decide +kernel, by decide +kernel⟩
theorem im_X11_decides : Cond.instanceMethod yX11_decides ∈ lw_tbl := it6 (List.mem_of_getElem? (i := 63) rfl)
theorem se_X11_decides : Cond.selects RX11 yX11_decides yX11_decides ∈ lw_tbl := it6 (List.mem_of_getElem? (i := 64) rfl)
abbrev m_X11_lost : MM := (yX11_lost, cX11_lost, 6, (Option.some Jvm.ClassFile.FieldType.int))
theorem mk_X11_lost : MK m_X11_lost 3 := ⟨by decide +kernel, it6 (List.mem_of_getElem? (i := 73) rfl), it1 (List.mem_of_getElem? (i := 11) rfl), ⟨by decide +kernel, by decide +kernel⟩, by decide +kernel, by decide +kernel⟩
theorem im_X11_lost : Cond.instanceMethod yX11_lost ∈ lw_tbl := it6 (List.mem_of_getElem? (i := 71) rfl)
theorem se_X11_lost : Cond.selects RX11 yX11_lost yX11_lost ∈ lw_tbl := it6 (List.mem_of_getElem? (i := 72) rfl)
abbrev m_X11_all : MM := (yX11_all, cX11_all, 1, (Option.some Jvm.ClassFile.FieldType.int))
theorem mk_X11_all : MK m_X11_all 0 := ⟨by decide +kernel, it6 (List.mem_of_getElem? (i := 81) rfl), it1 (List.mem_of_getElem? (i := 11) rfl), ⟨by decide +kernel, by decide +kernel⟩, by decide +kernel, by decide +kernel⟩
theorem im_X11_all : Cond.instanceMethod yX11_all ∈ lw_tbl := it6 (List.mem_of_getElem? (i := 80) rfl)
theorem se_X11_all : Cond.selects RX11 yX11_all yX11_all ∈ lw_tbl := ip5 (q := (yX11_all, 50)) (List.mem_of_getElem? (i := 4) rfl)
abbrev m_X11_partOf : MM := (yX11_partOf, cX11_partOf, 3, (Option.some Jvm.ClassFile.FieldType.int))
theorem mk_X11_partOf : MK m_X11_partOf 2 := ⟨by decide +kernel, it6 (List.mem_of_getElem? (i := 85) rfl), it1 (List.mem_of_getElem? (i := 11) rfl), ⟨by decide +kernel, by decide +kernel⟩, by decide +kernel, by decide +kernel⟩
theorem im_X11_partOf : Cond.instanceMethod yX11_partOf ∈ lw_tbl := it6 (List.mem_of_getElem? (i := 84) rfl)
theorem se_X11_partOf : Cond.selects RX11 yX11_partOf yX11_partOf ∈ lw_tbl := ip5 (q := (yX11_partOf, 50)) (List.mem_of_getElem? (i := 5) rfl)
abbrev m_X11_isAllLet : MM := (yX11_isAllLet, cX11_isAllLet, 3, (Option.some Jvm.ClassFile.FieldType.boolean))
theorem mk_X11_isAllLet : MK m_X11_isAllLet 2 := ⟨by decide +kernel, it6 (List.mem_of_getElem? (i := 93) rfl), it1 (List.mem_of_getElem? (i := 11) rfl), ⟨by decide +kernel, by decide +kernel⟩, by decide +kernel, by decide +kernel⟩
theorem im_X11_isAllLet : Cond.instanceMethod yX11_isAllLet ∈ lw_tbl := it6 (List.mem_of_getElem? (i := 92) rfl)
theorem se_X11_isAllLet : Cond.selects RX11 yX11_isAllLet yX11_isAllLet ∈ lw_tbl := ip5 (q := (yX11_isAllLet, 50)) (List.mem_of_getElem? (i := 6) rfl)
abbrev m_X11_idle : MM := (yX11_idle, cX11_idle, 4, (Option.some Jvm.ClassFile.FieldType.boolean))
theorem mk_X11_idle : MK m_X11_idle 2 := ⟨by decide +kernel, it6 (List.mem_of_getElem? (i := 77) rfl), it1 (List.mem_of_getElem? (i := 11) rfl), ⟨by decide +kernel, by decide +kernel⟩, by decide +kernel, by decide +kernel⟩
theorem im_X11_idle : Cond.instanceMethod yX11_idle ∈ lw_tbl := it6 (List.mem_of_getElem? (i := 75) rfl)
theorem se_X11_idle : Cond.selects RX11 yX11_idle yX11_idle ∈ lw_tbl := it6 (List.mem_of_getElem? (i := 76) rfl)
abbrev m_X11_more : MM := (yX11_more, cX11_more, 5, (Option.some Jvm.ClassFile.FieldType.int))
theorem mk_X11_more : MK m_X11_more 2 := ⟨by decide +kernel, it6 (List.mem_of_getElem? (i := 89) rfl), it1 (List.mem_of_getElem? (i := 11) rfl), ⟨by decide +kernel, by decide +kernel⟩, by decide +kernel, by decide +kernel⟩
theorem im_X11_more : Cond.instanceMethod yX11_more ∈ lw_tbl := it6 (List.mem_of_getElem? (i := 87) rfl)
theorem se_X11_more : Cond.selects RX11 yX11_more yX11_more ∈ lw_tbl := it6 (List.mem_of_getElem? (i := 88) rfl)
abbrev m_X11_unlike : MM := (yX11_unlike, cX11_unlike, 5, (Option.some Jvm.ClassFile.FieldType.int))
theorem mk_X11_unlike : MK m_X11_unlike 3 := ⟨by decide +kernel, it6 (List.mem_of_getElem? (i := 97) rfl), it1 (List.mem_of_getElem? (i := 11) rfl), ⟨by decide +kernel, by decide +kernel⟩, by decide +kernel, by decide +kernel⟩
theorem im_X11_unlike : Cond.instanceMethod yX11_unlike ∈ lw_tbl := it6 (List.mem_of_getElem? (i := 95) rfl)
theorem se_X11_unlike : Cond.selects RX11 yX11_unlike yX11_unlike ∈ lw_tbl := it6 (List.mem_of_getElem? (i := 96) rfl)
abbrev m_X11_isMended : MM := (yX11_isMended, cX11_isMended, 4, (Option.some Jvm.ClassFile.FieldType.boolean))
theorem mk_X11_isMended : MK m_X11_isMended 2 := ⟨by decide +kernel, it6 (List.mem_of_getElem? (i := 105) rfl), it1 (List.mem_of_getElem? (i := 11) rfl), ⟨by decide +kernel, by decide +kernel⟩, by decide +kernel, by decide +kernel⟩
theorem im_X11_isMended : Cond.instanceMethod yX11_isMended ∈ lw_tbl := it6 (List.mem_of_getElem? (i := 104) rfl)
theorem se_X11_isMended : Cond.selects RX11 yX11_isMended yX11_isMended ∈ lw_tbl := ip5 (q := (yX11_isMended, 50)) (List.mem_of_getElem? (i := 7) rfl)
abbrev m_X11_goesOn : MM := (yX11_goesOn, cX11_goesOn, 5, (Option.some Jvm.ClassFile.FieldType.boolean))
theorem mk_X11_goesOn : MK m_X11_goesOn 2 := ⟨by decide +kernel, it6 (List.mem_of_getElem? (i := 109) rfl), it1 (List.mem_of_getElem? (i := 11) rfl), ⟨by decide +kernel, by decide +kernel⟩, by decide +kernel, by decide +kernel⟩
theorem im_X11_goesOn : Cond.instanceMethod yX11_goesOn ∈ lw_tbl := it6 (List.mem_of_getElem? (i := 108) rfl)
theorem se_X11_goesOn : Cond.selects RX11 yX11_goesOn yX11_goesOn ∈ lw_tbl := ip5 (q := (yX11_goesOn, 50)) (List.mem_of_getElem? (i := 8) rfl)
abbrev m_X11_mend : MM := (yX11_mend, cX11_mend, 5, (Option.some Jvm.ClassFile.FieldType.int))
theorem mk_X11_mend : MK m_X11_mend 1 := ⟨by decide +kernel, it6 (List.mem_of_getElem? (i := 101) rfl), it1 (List.mem_of_getElem? (i := 11) rfl), ⟨by decide +kernel, by decide +kernel⟩, by decide +kernel, by decide +kernel⟩
theorem im_X11_mend : Cond.instanceMethod yX11_mend ∈ lw_tbl := it6 (List.mem_of_getElem? (i := 99) rfl)
theorem se_X11_mend : Cond.selects RX11 yX11_mend yX11_mend ∈ lw_tbl := it6 (List.mem_of_getElem? (i := 100) rfl)
abbrev m_X11_change : MM := (yX11_change, cX11_change, 3, (Option.some Jvm.ClassFile.FieldType.int))
theorem mk_X11_change : MK m_X11_change 2 := ⟨by decide +kernel, it6 (List.mem_of_getElem? (i := 113) rfl), it1 (List.mem_of_getElem? (i := 11) rfl), ⟨by decide +kernel, by decide +kernel⟩, by decide +kernel, by decide +kernel⟩
theorem im_X11_change : Cond.instanceMethod yX11_change ∈ lw_tbl := it6 (List.mem_of_getElem? (i := 111) rfl)
theorem se_X11_change : Cond.selects RX11 yX11_change yX11_change ∈ lw_tbl := it6 (List.mem_of_getElem? (i := 112) rfl)
abbrev m_X11_apply : MM := (yX11_apply, cX11_apply, 4, (Option.some Jvm.ClassFile.FieldType.int))
theorem mk_X11_apply : MK m_X11_apply 0 := ⟨by decide +kernel, it6 (List.mem_of_getElem? (i := 117) rfl), it1 (List.mem_of_getElem? (i := 11) rfl), ⟨by decide +kernel, by decide +kernel⟩, by decide +kernel, by decide +kernel⟩
theorem im_X11_apply : Cond.instanceMethod yX11_apply ∈ lw_tbl := it6 (List.mem_of_getElem? (i := 115) rfl)
theorem se_X11_apply : Cond.selects RX11 yX11_apply yX11_apply ∈ lw_tbl := it6 (List.mem_of_getElem? (i := 116) rfl)
abbrev m_X11_line : MM := (yX11_line, cX11_line, 5, (Option.some Jvm.ClassFile.FieldType.int))
theorem mk_X11_line : MK m_X11_line 3 := ⟨by decide +kernel, it6 (List.mem_of_getElem? (i := 121) rfl), it1 (List.mem_of_getElem? (i := 11) rfl), ⟨by decide +kernel, by decide +kernel⟩, by decide +kernel, by decide +kernel⟩
theorem im_X11_line : Cond.instanceMethod yX11_line ∈ lw_tbl := it6 (List.mem_of_getElem? (i := 119) rfl)
theorem se_X11_line : Cond.selects RX11 yX11_line yX11_line ∈ lw_tbl := it6 (List.mem_of_getElem? (i := 120) rfl)
abbrev m_X11_count : MM := (yX11_count, cX11_count, 4, (Option.some Jvm.ClassFile.FieldType.int))
theorem mk_X11_count : MK m_X11_count 1 := ⟨by decide +kernel, it6 (List.mem_of_getElem? (i := 125) rfl), it1 (List.mem_of_getElem? (i := 11) rfl), ⟨by decide +kernel, by decide +kernel⟩, by decide +kernel, by decide +kernel⟩
theorem im_X11_count : Cond.instanceMethod yX11_count ∈ lw_tbl := it6 (List.mem_of_getElem? (i := 123) rfl)
theorem se_X11_count : Cond.selects RX11 yX11_count yX11_count ∈ lw_tbl := it6 (List.mem_of_getElem? (i := 124) rfl)
abbrev m_X11_image : MM := (yX11_image, cX11_image, 2, (Option.some Jvm.ClassFile.FieldType.boolean))
theorem mk_X11_image : MK m_X11_image 1 := ⟨by decide +kernel, it6 (List.mem_of_getElem? (i := 129) rfl), it1 (List.mem_of_getElem? (i := 11) rfl), ⟨by decide +kernel, by decide +kernel⟩, by decide +kernel, by decide +kernel⟩
theorem im_X11_image : Cond.instanceMethod yX11_image ∈ lw_tbl := it6 (List.mem_of_getElem? (i := 127) rfl)
theorem se_X11_image : Cond.selects RX11 yX11_image yX11_image ∈ lw_tbl := it6 (List.mem_of_getElem? (i := 128) rfl)
abbrev m_X11_again : MM := (yX11_again, cX11_again, 2, (Option.some Jvm.ClassFile.FieldType.boolean))
theorem mk_X11_again : MK m_X11_again 1 := ⟨by decide +kernel, it6 (List.mem_of_getElem? (i := 140) rfl), it1 (List.mem_of_getElem? (i := 11) rfl), ⟨by decide +kernel, by decide +kernel⟩, by decide +kernel, by decide +kernel⟩
theorem im_X11_again : Cond.instanceMethod yX11_again ∈ lw_tbl := it6 (List.mem_of_getElem? (i := 138) rfl)
theorem se_X11_again : Cond.selects RX11 yX11_again yX11_again ∈ lw_tbl := it6 (List.mem_of_getElem? (i := 139) rfl)
abbrev m_J6_highestOneBit_0f7a4 : MM := (yJ6_highestOneBit_0f7a4, cJ6_highestOneBit_0f7a4, 1, (Option.some Jvm.ClassFile.FieldType.int))
theorem mk_J6_highestOneBit_0f7a4 : MK m_J6_highestOneBit_0f7a4 1 := ⟨by decide +kernel, it4 (List.mem_of_getElem? (i := 78) rfl), it1 (List.mem_of_getElem? (i := 19) rfl), ⟨by decide +kernel, by decide +kernel⟩, by decide +kernel, by decide +kernel⟩
theorem sm_J6_highestOneBit_0f7a4 : Cond.static yJ6_highestOneBit_0f7a4 ∈ lw_tbl := it4 (List.mem_of_getElem? (i := 77) rfl)
abbrev m_J6_lowestOneBit_0f7a4 : MM := (yJ6_lowestOneBit_0f7a4, cJ6_lowestOneBit_0f7a4, 1, (Option.some Jvm.ClassFile.FieldType.int))
theorem mk_J6_lowestOneBit_0f7a4 : MK m_J6_lowestOneBit_0f7a4 1 := ⟨by decide +kernel, it4 (List.mem_of_getElem? (i := 85) rfl), it1 (List.mem_of_getElem? (i := 19) rfl), ⟨by decide +kernel, by decide +kernel⟩, by decide +kernel, by decide +kernel⟩
theorem sm_J6_lowestOneBit_0f7a4 : Cond.static yJ6_lowestOneBit_0f7a4 ∈ lw_tbl := it4 (List.mem_of_getElem? (i := 84) rfl)
abbrev m_J6_numberOfLeadingZeros_0f7a4 : MM := (yJ6_numberOfLeadingZeros_0f7a4, cJ6_numberOfLeadingZeros_0f7a4, 2, (Option.some Jvm.ClassFile.FieldType.int))
theorem mk_J6_numberOfLeadingZeros_0f7a4 : MK m_J6_numberOfLeadingZeros_0f7a4 1 := ⟨by decide +kernel, it4 (List.mem_of_getElem? (i := 82) rfl), it1 (List.mem_of_getElem? (i := 19) rfl), ⟨by decide +kernel, by decide +kernel⟩, by decide +kernel, by decide +kernel⟩
theorem sm_J6_numberOfLeadingZeros_0f7a4 : Cond.static yJ6_numberOfLeadingZeros_0f7a4 ∈ lw_tbl := it4 (List.mem_of_getElem? (i := 81) rfl)
abbrev m_J6_numberOfTrailingZeros_0f7a4 : MM := (yJ6_numberOfTrailingZeros_0f7a4, cJ6_numberOfTrailingZeros_0f7a4, 2, (Option.some Jvm.ClassFile.FieldType.int))
theorem mk_J6_numberOfTrailingZeros_0f7a4 : MK m_J6_numberOfTrailingZeros_0f7a4 1 := ⟨by decide +kernel, it4 (List.mem_of_getElem? (i := 34) rfl), it1 (List.mem_of_getElem? (i := 19) rfl), ⟨by decide +kernel, by decide +kernel⟩, by decide +kernel, by decide +kernel⟩
theorem sm_J6_numberOfTrailingZeros_0f7a4 : Cond.static yJ6_numberOfTrailingZeros_0f7a4 ∈ lw_tbl := it4 (List.mem_of_getElem? (i := 33) rfl)
abbrev m_J6_bitCount_0f7a4 : MM := (yJ6_bitCount_0f7a4, cJ6_bitCount_0f7a4, 1, (Option.some Jvm.ClassFile.FieldType.int))
theorem mk_J6_bitCount_0f7a4 : MK m_J6_bitCount_0f7a4 1 := ⟨by decide +kernel, it3 (List.mem_of_getElem? (i := 142) rfl), it1 (List.mem_of_getElem? (i := 19) rfl), ⟨by decide +kernel, by decide +kernel⟩, by decide +kernel, by decide +kernel⟩
theorem sm_J6_bitCount_0f7a4 : Cond.static yJ6_bitCount_0f7a4 ∈ lw_tbl := it3 (List.mem_of_getElem? (i := 141) rfl)
abbrev m_J0_length_8abf5 : MM := (yJ0_length_8abf5, cJ0_length_8abf5, 1, (Option.some Jvm.ClassFile.FieldType.int))
theorem mk_J0_length_8abf5 : MK m_J0_length_8abf5 0 := ⟨by decide +kernel, it2 (List.mem_of_getElem? (i := 117) rfl), it1 (List.mem_of_getElem? (i := 12) rfl), ⟨by decide +kernel, by decide +kernel⟩, by decide +kernel, by decide +kernel⟩
theorem im_J0_length_8abf5 : Cond.instanceMethod yJ0_length_8abf5 ∈ lw_tbl := it2 (List.mem_of_getElem? (i := 115) rfl)
theorem se_J0_length_8abf5 : Cond.selects RJ0 yJ0_length_8abf5 yJ0_length_8abf5 ∈ lw_tbl := it2 (List.mem_of_getElem? (i := 116) rfl)
abbrev m_J0_charAt_5068e : MM := (yJ0_charAt_5068e, cJ0_charAt_5068e, 2, (Option.some Jvm.ClassFile.FieldType.char))
theorem mk_J0_charAt_5068e : MK m_J0_charAt_5068e 1 := ⟨by decide +kernel, it2 (List.mem_of_getElem? (i := 127) rfl), it1 (List.mem_of_getElem? (i := 12) rfl), ⟨by decide +kernel, by decide +kernel⟩, by decide +kernel, by decide +kernel⟩
theorem im_J0_charAt_5068e : Cond.instanceMethod yJ0_charAt_5068e ∈ lw_tbl := it2 (List.mem_of_getElem? (i := 125) rfl)
theorem se_J0_charAt_5068e : Cond.selects RJ0 yJ0_charAt_5068e yJ0_charAt_5068e ∈ lw_tbl := it2 (List.mem_of_getElem? (i := 126) rfl)
abbrev m_J0_coder_7d493 : MM := (yJ0_coder_7d493, cJ0_coder_7d493, 1, (Option.some Jvm.ClassFile.FieldType.byte))
theorem mk_J0_coder_7d493 : MK m_J0_coder_7d493 0 := ⟨by decide +kernel, it2 (List.mem_of_getElem? (i := 121) rfl), it1 (List.mem_of_getElem? (i := 12) rfl), ⟨by decide +kernel, by decide +kernel⟩, by decide +kernel, by decide +kernel⟩
theorem im_J0_coder_7d493 : Cond.instanceMethod yJ0_coder_7d493 ∈ lw_tbl := it2 (List.mem_of_getElem? (i := 119) rfl)
theorem se_J0_coder_7d493 : Cond.selects RJ0 yJ0_coder_7d493 yJ0_coder_7d493 ∈ lw_tbl := it2 (List.mem_of_getElem? (i := 120) rfl)
abbrev m_J0_isLatin1_aae02 : MM := (yJ0_isLatin1_aae02, cJ0_isLatin1_aae02, 1, (Option.some Jvm.ClassFile.FieldType.boolean))
theorem mk_J0_isLatin1_aae02 : MK m_J0_isLatin1_aae02 0 := ⟨by decide +kernel, it2 (List.mem_of_getElem? (i := 131) rfl), it1 (List.mem_of_getElem? (i := 12) rfl), ⟨by decide +kernel, by decide +kernel⟩, by decide +kernel, by decide +kernel⟩
theorem im_J0_isLatin1_aae02 : Cond.instanceMethod yJ0_isLatin1_aae02 ∈ lw_tbl := it2 (List.mem_of_getElem? (i := 129) rfl)
theorem se_J0_isLatin1_aae02 : Cond.selects RJ0 yJ0_isLatin1_aae02 yJ0_isLatin1_aae02 ∈ lw_tbl := it2 (List.mem_of_getElem? (i := 130) rfl)
abbrev m_J0_checkIndex_df160 : MM := (yJ0_checkIndex_df160, cJ0_checkIndex_df160, 2, (Option.none : Option Jvm.ClassFile.FieldType))
theorem mk_J0_checkIndex_df160 : MK m_J0_checkIndex_df160 2 := ⟨by decide +kernel, it2 (List.mem_of_getElem? (i := 137) rfl), it1 (List.mem_of_getElem? (i := 12) rfl), ⟨by decide +kernel, by decide +kernel⟩, by decide +kernel, by decide +kernel⟩
theorem sm_J0_checkIndex_df160 : Cond.static yJ0_checkIndex_df160 ∈ lw_tbl := it2 (List.mem_of_getElem? (i := 136) rfl)
abbrev m_J1_charAt_3b067 : MM := (yJ1_charAt_3b067, cJ1_charAt_3b067, 2, (Option.some Jvm.ClassFile.FieldType.char))
theorem mk_J1_charAt_3b067 : MK m_J1_charAt_3b067 2 := ⟨by decide +kernel, it2 (List.mem_of_getElem? (i := 134) rfl), it1 (List.mem_of_getElem? (i := 13) rfl), ⟨by decide +kernel, by decide +kernel⟩, by decide +kernel, by decide +kernel⟩
theorem sm_J1_charAt_3b067 : Cond.static yJ1_charAt_3b067 ∈ lw_tbl := it2 (List.mem_of_getElem? (i := 133) rfl)
abbrev m_J7_copyOf_59c91 : MM := (yJ7_copyOf_59c91, cJ7_copyOf_59c91, 3, (Option.some (Jvm.ClassFile.FieldType.array Jvm.ClassFile.FieldType.int)))
theorem mk_J7_copyOf_59c91 : MK m_J7_copyOf_59c91 2 := ⟨by decide +kernel, it3 (List.mem_of_getElem? (i := 13) rfl), it1 (List.mem_of_getElem? (i := 17) rfl), ⟨by decide +kernel, by decide +kernel⟩, by decide +kernel, by decide +kernel⟩
theorem sm_J7_copyOf_59c91 : Cond.static yJ7_copyOf_59c91 ∈ lw_tbl := it3 (List.mem_of_getElem? (i := 12) rfl)
abbrev m_J3_checkIndex_8e157 : MM := (yJ3_checkIndex_8e157, cJ3_checkIndex_8e157, 3, (Option.some Jvm.ClassFile.FieldType.int))
theorem mk_J3_checkIndex_8e157 : MK m_J3_checkIndex_8e157 3 := ⟨by decide +kernel, it2 (List.mem_of_getElem? (i := 142) rfl), it1 (List.mem_of_getElem? (i := 14) rfl), ⟨by decide +kernel, by decide +kernel⟩, by decide +kernel, by decide +kernel⟩
theorem sm_J3_checkIndex_8e157 : Cond.static yJ3_checkIndex_8e157 ∈ lw_tbl := it2 (List.mem_of_getElem? (i := 141) rfl)
theorem ml_RX10_1 : Cond.methodLink RX10 1 objectInit ∈ lw_tbl := it1 (List.mem_of_getElem? (i := 26) rfl)
theorem ml_RX10_9 : Cond.methodLink RX10 9 yX6_init ∈ lw_tbl := it1 (List.mem_of_getElem? (i := 31) rfl)
theorem ml_RX10_18 : Cond.methodLink RX10 18 yX2_init ∈ lw_tbl := it1 (List.mem_of_getElem? (i := 47) rfl)
theorem ml_RX10_27 : Cond.methodLink RX10 27 yX8_init ∈ lw_tbl := it1 (List.mem_of_getElem? (i := 116) rfl)
theorem ml_RX10_38 : Cond.methodLink RX10 38 yX9_init ∈ lw_tbl := it1 (List.mem_of_getElem? (i := 208) rfl)
theorem ml_RX10_45 : Cond.methodLink RX10 45 yX4_init ∈ lw_tbl := it2 (List.mem_of_getElem? (i := 11) rfl)
theorem ml_RX10_64 : Cond.methodLink RX10 64 yX6_put ∈ lw_tbl := it2 (List.mem_of_getElem? (i := 74) rfl)
theorem ml_RX10_68 : Cond.methodLink RX10 68 yX10_isIn ∈ lw_tbl := it2 (List.mem_of_getElem? (i := 86) rfl)
theorem ml_RX10_72 : Cond.methodLink RX10 72 yX2_read ∈ lw_tbl := it2 (List.mem_of_getElem? (i := 87) rfl)
theorem ml_RX10_80 : Cond.methodLink RX10 80 yX10_putRules ∈ lw_tbl := it3 (List.mem_of_getElem? (i := 69) rfl)
theorem ml_RX10_90 : Cond.methodLink RX10 90 yX10_canBePerson ∈ lw_tbl := it3 (List.mem_of_getElem? (i := 81) rfl)
theorem ml_RX10_97 : Cond.methodLink RX10 97 yX5_addRow ∈ lw_tbl := it3 (List.mem_of_getElem? (i := 87) rfl)
theorem ml_RX10_103 : Cond.methodLink RX10 103 yX5_set ∈ lw_tbl := it3 (List.mem_of_getElem? (i := 91) rfl)
theorem ml_RX10_107 : Cond.methodLink RX10 107 yX10_isUpTo ∈ lw_tbl := it3 (List.mem_of_getElem? (i := 84) rfl)
theorem ml_RX10_110 : Cond.methodLink RX10 110 yX5_has ∈ lw_tbl := it3 (List.mem_of_getElem? (i := 104) rfl)
theorem ml_RX10_117 : Cond.methodLink RX10 117 yX5_get ∈ lw_tbl := it3 (List.mem_of_getElem? (i := 117) rfl)
theorem ml_RX10_121 : Cond.methodLink RX10 121 yX10_rulesIn ∈ lw_tbl := it3 (List.mem_of_getElem? (i := 125) rfl)
theorem ml_RX10_125 : Cond.methodLink RX10 125 yX8_canBeAsked ∈ lw_tbl := it3 (List.mem_of_getElem? (i := 129) rfl)
theorem ml_RX10_129 : Cond.methodLink RX10 129 yX9_stand ∈ lw_tbl := it3 (List.mem_of_getElem? (i := 135) rfl)
theorem ml_RX10_133 : Cond.methodLink RX10 133 yX9_decider ∈ lw_tbl := it3 (List.mem_of_getElem? (i := 146) rfl)
theorem ml_RX10_137 : Cond.methodLink RX10 137 yX9_lets ∈ lw_tbl := it3 (List.mem_of_getElem? (i := 208) rfl)
theorem ml_RX10_147 : Cond.methodLink RX10 147 yX9_standAtAsk ∈ lw_tbl := it3 (List.mem_of_getElem? (i := 229) rfl)
theorem ml_RX10_151 : Cond.methodLink RX10 151 yX3_lineAt ∈ lw_tbl := it3 (List.mem_of_getElem? (i := 238) rfl)
theorem ml_RX10_155 : Cond.methodLink RX10 155 yX8_cases ∈ lw_tbl := it4 (List.mem_of_getElem? (i := 7) rfl)
theorem ml_RX10_158 : Cond.methodLink RX10 158 yX9_standAtCase ∈ lw_tbl := it4 (List.mem_of_getElem? (i := 11) rfl)
theorem ml_RX10_161 : Cond.methodLink RX10 161 yX9_hoursDecided ∈ lw_tbl := it4 (List.mem_of_getElem? (i := 15) rfl)
theorem ml_RX10_165 : Cond.methodLink RX10 165 yX9_hoursLet ∈ lw_tbl := it4 (List.mem_of_getElem? (i := 23) rfl)
theorem ml_RX10_168 : Cond.methodLink RX10 168 yJ6_bitCount_0f7a4 ∈ lw_tbl := it4 (List.mem_of_getElem? (i := 27) rfl)
theorem ml_RX10_174 : Cond.methodLink RX10 174 yJ6_numberOfTrailingZeros_0f7a4 ∈ lw_tbl := it4 (List.mem_of_getElem? (i := 32) rfl)
theorem ml_RX10_177 : Cond.methodLink RX10 177 yX9_toldAt ∈ lw_tbl := it4 (List.mem_of_getElem? (i := 36) rfl)
theorem ml_RX10_180 : Cond.methodLink RX10 180 yX4_start ∈ lw_tbl := it4 (List.mem_of_getElem? (i := 44) rfl)
theorem ml_RX10_184 : Cond.methodLink RX10 184 yX9_linesHeld ∈ lw_tbl := it4 (List.mem_of_getElem? (i := 52) rfl)
theorem ml_RX10_187 : Cond.methodLink RX10 187 yX4_want ∈ lw_tbl := it4 (List.mem_of_getElem? (i := 56) rfl)
theorem ml_RX10_191 : Cond.methodLink RX10 191 yX4_fewest ∈ lw_tbl := it4 (List.mem_of_getElem? (i := 60) rfl)
theorem ml_RX10_202 : Cond.methodLink RX10 202 yX1_init ∈ lw_tbl := it4 (List.mem_of_getElem? (i := 88) rfl)
theorem ml_RX10_204 : Cond.methodLink RX10 204 yX1_changeAt ∈ lw_tbl := it4 (List.mem_of_getElem? (i := 113) rfl)
theorem ml_RX10_216 : Cond.methodLink RX10 216 yX3_changed ∈ lw_tbl := it4 (List.mem_of_getElem? (i := 126) rfl)
theorem ml_RX10_220 : Cond.methodLink RX10 220 yX0_part ∈ lw_tbl := it4 (List.mem_of_getElem? (i := 144) rfl)
theorem ml_RX10_225 : Cond.methodLink RX10 225 yX8_marked ∈ lw_tbl := it4 (List.mem_of_getElem? (i := 152) rfl)
theorem ml_RX10_228 : Cond.methodLink RX10 228 yX10_countOfSlot ∈ lw_tbl := it4 (List.mem_of_getElem? (i := 157) rfl)
theorem ml_RX10_231 : Cond.methodLink RX10 231 yX8_copyFrom ∈ lw_tbl := it4 (List.mem_of_getElem? (i := 165) rfl)
theorem ml_RX0_3 : Cond.methodLink RX0 3 objectInit ∈ lw_tbl := it3 (List.mem_of_getElem? (i := 31) rfl)
theorem ml_RX0_35 : Cond.methodLink RX0 35 yX0_init ∈ lw_tbl := it4 (List.mem_of_getElem? (i := 137) rfl)
theorem ml_RX1_3 : Cond.methodLink RX1 3 objectInit ∈ lw_tbl := it4 (List.mem_of_getElem? (i := 91) rfl)
theorem ml_RX1_25 : Cond.methodLink RX1 25 yX1_lineOf ∈ lw_tbl := it4 (List.mem_of_getElem? (i := 117) rfl)
theorem ml_RX1_29 : Cond.methodLinkNest RX1 29 yX10_hasBit "RulesTried" ∈ tables_1 := iu4 (List.mem_of_getElem? (i := 121) rfl)
theorem ml_RX2_3 : Cond.methodLink RX2 3 objectInit ∈ lw_tbl := it1 (List.mem_of_getElem? (i := 50) rfl)
theorem ml_RX2_11 : Cond.methodLink RX2 11 yX7_init ∈ lw_tbl := it1 (List.mem_of_getElem? (i := 53) rfl)
theorem ml_RX2_43 : Cond.methodLink RX2 43 yX7_takeApart ∈ lw_tbl := it2 (List.mem_of_getElem? (i := 91) rfl)
theorem ml_RX2_46 : Cond.methodLink RX2 46 yX2_readHow ∈ lw_tbl := it2 (List.mem_of_getElem? (i := 181) rfl)
theorem ml_RX2_50 : Cond.methodLink RX2 50 yX2_startsLine ∈ lw_tbl := it2 (List.mem_of_getElem? (i := 202) rfl)
theorem ml_RX2_54 : Cond.methodLink RX2 54 yX2_readLine ∈ lw_tbl := it2 (List.mem_of_getElem? (i := 206) rfl)
theorem ml_RX2_60 : Cond.methodLink RX2 60 yX2_refuse ∈ lw_tbl := it2 (List.mem_of_getElem? (i := 194) rfl)
theorem ml_RX2_65 : Cond.methodLink RX2 65 yX2_linesRead ∈ lw_tbl := it3 (List.mem_of_getElem? (i := 64) rfl)
theorem ml_RX2_69 : Cond.methodLink RX2 69 yX3_init ∈ lw_tbl := it3 (List.mem_of_getElem? (i := 68) rfl)
theorem ml_RX2_72 : Cond.methodLink RX2 72 yJ9_max_7cf53 ∈ lw_tbl := it3 (List.mem_of_getElem? (i := 10) rfl)
theorem ml_RX2_78 : Cond.methodLink RX2 78 yX2_takes ∈ lw_tbl := it2 (List.mem_of_getElem? (i := 185) rfl)
theorem ml_RX2_82 : Cond.methodLink RX2 82 yX2_choice ∈ lw_tbl := it2 (List.mem_of_getElem? (i := 190) rfl)
theorem ml_RX2_85 : Cond.methodLink RX2 85 yX2_needs ∈ lw_tbl := it2 (List.mem_of_getElem? (i := 198) rfl)
theorem ml_RX2_89 : Cond.methodLink RX2 89 yX2_note ∈ lw_tbl := it2 (List.mem_of_getElem? (i := 210) rfl)
theorem ml_RX2_95 : Cond.methodLink RX2 95 yX2_numberBehind ∈ lw_tbl := it2 (List.mem_of_getElem? (i := 216) rfl)
theorem ml_RX2_102 : Cond.methodLink RX2 102 yX2_readEither ∈ lw_tbl := it2 (List.mem_of_getElem? (i := 223) rfl)
theorem ml_RX2_105 : Cond.methodLink RX2 105 yJ7_copyOf_59c91 ∈ lw_tbl := it3 (List.mem_of_getElem? (i := 11) rfl)
theorem ml_RX2_111 : Cond.methodLink RX2 111 yX0_init ∈ lw_tbl := it3 (List.mem_of_getElem? (i := 28) rfl)
theorem ml_RX2_114 : Cond.methodLinkNest RX2 114 yX10_isIn "RulesTried" ∈ tables_1 := iu2 (List.mem_of_getElem? (i := 220) rfl)
theorem ml_RX2_121 : Cond.methodLink RX2 121 yX7_step ∈ lw_tbl := it2 (List.mem_of_getElem? (i := 189) rfl)
theorem ml_RX2_124 : Cond.methodLink RX2 124 yX2_readBoth ∈ lw_tbl := it2 (List.mem_of_getElem? (i := 227) rfl)
theorem ml_RX2_127 : Cond.methodLink RX2 127 yX2_addStep ∈ lw_tbl := it2 (List.mem_of_getElem? (i := 235) rfl)
theorem ml_RX2_131 : Cond.methodLink RX2 131 yX2_readOne ∈ lw_tbl := it2 (List.mem_of_getElem? (i := 231) rfl)
theorem ml_RX2_134 : Cond.methodLink RX2 134 yX2_readTerm ∈ lw_tbl := it3 (List.mem_of_getElem? (i := 2) rfl)
theorem ml_RX2_137 : Cond.methodLink RX2 137 yX2_termAtHand ∈ lw_tbl := it3 (List.mem_of_getElem? (i := 6) rfl)
theorem ml_RX2_140 : Cond.methodLink RX2 140 yX0_step ∈ lw_tbl := it2 (List.mem_of_getElem? (i := 239) rfl)
theorem ml_RX3_3 : Cond.methodLink RX3 3 objectInit ∈ lw_tbl := it1 (List.mem_of_getElem? (i := 152) rfl)
theorem ml_RX3_19 : Cond.methodLink RX3 19 yX3_letsOf ∈ lw_tbl := it1 (List.mem_of_getElem? (i := 153) rfl)
theorem ml_RX3_23 : Cond.methodLink RX3 23 yX3_orderOf ∈ lw_tbl := it1 (List.mem_of_getElem? (i := 156) rfl)
theorem ml_RX3_31 : Cond.methodLinkNest RX3 31 yX10_isIn "RulesTried" ∈ tables_1 := iu1 (List.mem_of_getElem? (i := 166) rfl)
theorem ml_RX3_35 : Cond.methodLink RX3 35 yJ6_bitCount_0f7a4 ∈ lw_tbl := it4 (List.mem_of_getElem? (i := 130) rfl)
theorem ml_RX3_41 : Cond.methodLink RX3 41 yJ9_max_7cf53 ∈ lw_tbl := it1 (List.mem_of_getElem? (i := 159) rfl)
theorem ml_RX3_49 : Cond.methodLinkNest RX3 49 yX10_hasBit "RulesTried" ∈ tables_1 := iu1 (List.mem_of_getElem? (i := 163) rfl)
theorem ml_RX3_52 : Cond.methodLink RX3 52 yX0_turned ∈ lw_tbl := it4 (List.mem_of_getElem? (i := 132) rfl)
theorem ml_RX3_56 : Cond.methodLink RX3 56 yX3_init ∈ lw_tbl := it4 (List.mem_of_getElem? (i := 139) rfl)
theorem ml_RX3_59 : Cond.methodLink RX3 59 yX3_addLines ∈ lw_tbl := it1 (List.mem_of_getElem? (i := 160) rfl)
theorem ml_RX4_3 : Cond.methodLink RX4 3 objectInit ∈ lw_tbl := it2 (List.mem_of_getElem? (i := 14) rfl)
theorem ml_RX4_32 : Cond.methodLink RX4 32 yX3_letSet ∈ lw_tbl := it4 (List.mem_of_getElem? (i := 48) rfl)
theorem ml_RX4_48 : Cond.methodLink RX4 48 yX4_finds ∈ lw_tbl := it4 (List.mem_of_getElem? (i := 64) rfl)
theorem ml_RX4_52 : Cond.methodLink RX4 52 yX4_allAsMarked ∈ lw_tbl := it4 (List.mem_of_getElem? (i := 68) rfl)
theorem ml_RX4_56 : Cond.methodLink RX4 56 yX4_isLet ∈ lw_tbl := it4 (List.mem_of_getElem? (i := 72) rfl)
theorem ml_RX4_59 : Cond.methodLink RX4 59 yJ6_highestOneBit_0f7a4 ∈ lw_tbl := it4 (List.mem_of_getElem? (i := 76) rfl)
theorem ml_RX4_65 : Cond.methodLink RX4 65 yJ6_lowestOneBit_0f7a4 ∈ lw_tbl := it4 (List.mem_of_getElem? (i := 83) rfl)
theorem ml_RX5_3 : Cond.methodLink RX5 3 objectInit ∈ lw_tbl := it1 (List.mem_of_getElem? (i := 125) rfl)
theorem ml_RX5_18 : Cond.methodLink RX5 18 yJ9_max_7cf53 ∈ lw_tbl := it1 (List.mem_of_getElem? (i := 126) rfl)
theorem ml_RX5_31 : Cond.methodLinkNest RX5 31 yX10_isIn "RulesTried" ∈ tables_1 := iu3 (List.mem_of_getElem? (i := 99) rfl)
theorem ml_RX5_35 : Cond.methodLink RX5 35 yX5_has ∈ lw_tbl := it3 (List.mem_of_getElem? (i := 95) rfl)
theorem ml_RX5_39 : Cond.methodLink RX5 39 arraycopyName ∈ lw_tbl := it4 (List.mem_of_getElem? (i := 173) rfl)
theorem ml_RX6_3 : Cond.methodLink RX6 3 objectInit ∈ lw_tbl := it1 (List.mem_of_getElem? (i := 34) rfl)
theorem ml_RX7_3 : Cond.methodLink RX7 3 objectInit ∈ lw_tbl := it1 (List.mem_of_getElem? (i := 56) rfl)
theorem ml_RX7_46 : Cond.methodLink RX7 46 yX6_at ∈ lw_tbl := it2 (List.mem_of_getElem? (i := 95) rfl)
theorem ml_RX7_50 : Cond.methodLink RX7 50 yX7_isBlank ∈ lw_tbl := it2 (List.mem_of_getElem? (i := 99) rfl)
theorem ml_RX7_54 : Cond.methodLink RX7 54 yX7_addToken ∈ lw_tbl := it2 (List.mem_of_getElem? (i := 102) rfl)
theorem ml_RX7_57 : Cond.methodLink RX7 57 yX7_add ∈ lw_tbl := it2 (List.mem_of_getElem? (i := 162) rfl)
theorem ml_RX7_61 : Cond.methodLink RX7 61 yX7_step ∈ lw_tbl := it2 (List.mem_of_getElem? (i := 177) rfl)
theorem ml_RX7_64 : Cond.methodLinkNest RX7 64 yX10_isIn "RulesTried" ∈ tables_1 := iu2 (List.mem_of_getElem? (i := 166) rfl)
theorem ml_RX7_68 : Cond.methodLink RX7 68 yX7_isLetter ∈ lw_tbl := it2 (List.mem_of_getElem? (i := 106) rfl)
theorem ml_RX7_71 : Cond.methodLink RX7 71 yX7_kindOfWord ∈ lw_tbl := it2 (List.mem_of_getElem? (i := 109) rfl)
theorem ml_RX7_75 : Cond.methodLink RX7 75 yX7_isDigit ∈ lw_tbl := it2 (List.mem_of_getElem? (i := 167) rfl)
theorem ml_RX7_78 : Cond.methodLink RX7 78 yX7_addNumber ∈ lw_tbl := it2 (List.mem_of_getElem? (i := 170) rfl)
theorem ml_RX7_82 : Cond.methodLink RX7 82 yX7_isSign ∈ lw_tbl := it2 (List.mem_of_getElem? (i := 174) rfl)
theorem ml_RX7_87 : Cond.methodLink RX7 87 yJ0_length_8abf5 ∈ lw_tbl := it2 (List.mem_of_getElem? (i := 114) rfl)
theorem ml_RX7_92 : Cond.methodLink RX7 92 yJ0_charAt_5068e ∈ lw_tbl := it2 (List.mem_of_getElem? (i := 124) rfl)
theorem ml_RX8_3 : Cond.methodLink RX8 3 objectInit ∈ lw_tbl := it1 (List.mem_of_getElem? (i := 119) rfl)
theorem ml_RX8_11 : Cond.methodLink RX8 11 yX5_init ∈ lw_tbl := it1 (List.mem_of_getElem? (i := 122) rfl)
theorem ml_RX8_34 : Cond.methodLink RX8 34 yX3_init ∈ lw_tbl := it1 (List.mem_of_getElem? (i := 149) rfl)
theorem ml_RX8_37 : Cond.methodLink RX8 37 yX5_copyFrom ∈ lw_tbl := it4 (List.mem_of_getElem? (i := 169) rfl)
theorem ml_RX8_41 : Cond.methodLink RX8 41 yX5_has ∈ lw_tbl := it3 (List.mem_of_getElem? (i := 133) rfl)
theorem ml_RX8_45 : Cond.methodLinkNest RX8 45 yX10_isIn "RulesTried" ∈ tables_1 := iu3 (List.mem_of_getElem? (i := 134) rfl)
theorem ml_RX8_53 : Cond.methodLink RX8 53 yX5_get ∈ lw_tbl := it4 (List.mem_of_getElem? (i := 156) rfl)
theorem ml_RX9_3 : Cond.methodLink RX9 3 objectInit ∈ lw_tbl := it1 (List.mem_of_getElem? (i := 211) rfl)
theorem ml_RX9_34 : Cond.methodLink RX9 34 yX5_get ∈ lw_tbl := it3 (List.mem_of_getElem? (i := 139) rfl)
theorem ml_RX9_43 : Cond.methodLink RX9 43 yJ6_bitCount_0f7a4 ∈ lw_tbl := it3 (List.mem_of_getElem? (i := 140) rfl)
theorem ml_RX9_71 : Cond.methodLink RX9 71 yX9_stand ∈ lw_tbl := it3 (List.mem_of_getElem? (i := 233) rfl)
theorem ml_RX9_83 : Cond.methodLink RX9 83 yX3_lineAt ∈ lw_tbl := it3 (List.mem_of_getElem? (i := 150) rfl)
theorem ml_RX9_87 : Cond.methodLink RX9 87 yX9_hoursHeld ∈ lw_tbl := it3 (List.mem_of_getElem? (i := 154) rfl)
theorem ml_RX9_91 : Cond.methodLinkNest RX9 91 yX10_hasBit "RulesTried" ∈ tables_1 := iu3 (List.mem_of_getElem? (i := 162) rfl)
theorem ml_RX9_95 : Cond.methodLink RX9 95 yX9_decider ∈ lw_tbl := it3 (List.mem_of_getElem? (i := 212) rfl)
theorem ml_RX9_109 : Cond.methodLink RX9 109 yX9_holdsWho ∈ lw_tbl := it3 (List.mem_of_getElem? (i := 158) rfl)
theorem ml_RX9_113 : Cond.methodLink RX9 113 yX9_holdsAct ∈ lw_tbl := it3 (List.mem_of_getElem? (i := 163) rfl)
theorem ml_RX9_116 : Cond.methodLink RX9 116 yX9_holdsWhat ∈ lw_tbl := it3 (List.mem_of_getElem? (i := 167) rfl)
theorem ml_RX9_122 : Cond.methodLink RX9 122 yX9_hoursOf ∈ lw_tbl := it3 (List.mem_of_getElem? (i := 172) rfl)
theorem ml_RX9_142 : Cond.methodLink RX9 142 yX9_hoursAfter ∈ lw_tbl := it3 (List.mem_of_getElem? (i := 176) rfl)
theorem ml_RX9_145 : Cond.methodLink RX9 145 yX9_push ∈ lw_tbl := it3 (List.mem_of_getElem? (i := 204) rfl)
theorem ml_RX9_149 : Cond.methodLink RX9 149 yX9_pop ∈ lw_tbl := it3 (List.mem_of_getElem? (i := 200) rfl)
theorem ml_RX9_153 : Cond.methodLink RX9 153 yX0_leftOf ∈ lw_tbl := it3 (List.mem_of_getElem? (i := 180) rfl)
theorem ml_RX9_156 : Cond.methodLink RX9 156 yX0_rightOf ∈ lw_tbl := it3 (List.mem_of_getElem? (i := 183) rfl)
theorem ml_RX9_159 : Cond.methodLink RX9 159 yX0_deedOf ∈ lw_tbl := it3 (List.mem_of_getElem? (i := 186) rfl)
theorem ml_RX9_162 : Cond.methodLink RX9 162 yX9_hoursLess ∈ lw_tbl := it3 (List.mem_of_getElem? (i := 189) rfl)
theorem ml_RX9_165 : Cond.methodLink RX9 165 yX9_value ∈ lw_tbl := it3 (List.mem_of_getElem? (i := 193) rfl)
theorem ml_RX9_168 : Cond.methodLink RX9 168 yX9_hoursBelow ∈ lw_tbl := it3 (List.mem_of_getElem? (i := 197) rfl)
theorem ml_RL_9 : Cond.methodLink RL 9 yX10_init ∈ lw_tbl := it1 (List.mem_of_getElem? (i := 23) rfl)
theorem ml_RL_12 : Cond.methodLink RL 12 yX11_init ∈ lw_tbl := it4 (List.mem_of_getElem? (i := 180) rfl)
theorem ml_RL_13 : Cond.methodLink RL 13 yX10_feed ∈ lw_tbl := it2 (List.mem_of_getElem? (i := 70) rfl)
theorem ml_RL_17 : Cond.methodLink RL 17 yX11_feed ∈ lw_tbl := it5 (List.mem_of_getElem? (i := 96) rfl)
theorem ml_RL_18 : Cond.methodLink RL 18 yX10_end ∈ lw_tbl := it2 (List.mem_of_getElem? (i := 78) rfl)
theorem ml_RL_22 : Cond.methodLink RL 22 yX11_end ∈ lw_tbl := it5 (List.mem_of_getElem? (i := 104) rfl)
theorem ml_RL_23 : Cond.methodLink RL 23 yX10_rules ∈ lw_tbl := it2 (List.mem_of_getElem? (i := 82) rfl)
theorem ml_RL_26 : Cond.methodLink RL 26 yX11_rules ∈ lw_tbl := it5 (List.mem_of_getElem? (i := 111) rfl)
theorem ml_RL_27 : Cond.methodLink RL 27 yX10_fault ∈ lw_tbl := it3 (List.mem_of_getElem? (i := 73) rfl)
theorem ml_RL_30 : Cond.methodLink RL 30 yX11_fault ∈ lw_tbl := it5 (List.mem_of_getElem? (i := 219) rfl)
theorem ml_RL_31 : Cond.methodLink RL 31 yX10_person ∈ lw_tbl := it3 (List.mem_of_getElem? (i := 77) rfl)
theorem ml_RL_35 : Cond.methodLink RL 35 yX11_person ∈ lw_tbl := it5 (List.mem_of_getElem? (i := 223) rfl)
theorem ml_RL_36 : Cond.methodLink RL 36 yX10_thing ∈ lw_tbl := it3 (List.mem_of_getElem? (i := 100) rfl)
theorem ml_RL_40 : Cond.methodLink RL 40 yX11_thing ∈ lw_tbl := it5 (List.mem_of_getElem? (i := 227) rfl)
theorem ml_RL_41 : Cond.methodLink RL 41 yX10_moves ∈ lw_tbl := it3 (List.mem_of_getElem? (i := 105) rfl)
theorem ml_RL_45 : Cond.methodLink RL 45 yX11_moves ∈ lw_tbl := it5 (List.mem_of_getElem? (i := 235) rfl)
theorem ml_RL_46 : Cond.methodLink RL 46 yX10_gives ∈ lw_tbl := it3 (List.mem_of_getElem? (i := 109) rfl)
theorem ml_RL_49 : Cond.methodLink RL 49 yX11_gives ∈ lw_tbl := it5 (List.mem_of_getElem? (i := 239) rfl)
theorem ml_RL_50 : Cond.methodLink RL 50 yX10_tell ∈ lw_tbl := it3 (List.mem_of_getElem? (i := 113) rfl)
theorem ml_RL_53 : Cond.methodLink RL 53 yX11_tell ∈ lw_tbl := it6 (List.mem_of_getElem? (i := 7) rfl)
theorem ml_RL_54 : Cond.methodLink RL 54 yX10_decide ∈ lw_tbl := it3 (List.mem_of_getElem? (i := 121) rfl)
theorem ml_RL_58 : Cond.methodLink RL 58 yX11_decide ∈ lw_tbl := it6 (List.mem_of_getElem? (i := 11) rfl)
theorem ml_RL_59 : Cond.methodLink RL 59 yX10_ask ∈ lw_tbl := it3 (List.mem_of_getElem? (i := 213) rfl)
theorem ml_RL_63 : Cond.methodLink RL 63 yX11_ask ∈ lw_tbl := it6 (List.mem_of_getElem? (i := 42) rfl)
theorem ml_RL_64 : Cond.methodLink RL 64 yX10_mark ∈ lw_tbl := it3 (List.mem_of_getElem? (i := 217) rfl)
theorem ml_RL_68 : Cond.methodLink RL 68 yX11_mark ∈ lw_tbl := it6 (List.mem_of_getElem? (i := 46) rfl)
theorem ml_RL_69 : Cond.methodLink RL 69 yX10_book ∈ lw_tbl := it3 (List.mem_of_getElem? (i := 221) rfl)
theorem ml_RL_72 : Cond.methodLink RL 72 yX11_book ∈ lw_tbl := it6 (List.mem_of_getElem? (i := 50) rfl)
theorem ml_RL_73 : Cond.methodLink RL 73 yX10_tried ∈ lw_tbl := it3 (List.mem_of_getElem? (i := 225) rfl)
theorem ml_RL_76 : Cond.methodLink RL 76 yX11_tried ∈ lw_tbl := it6 (List.mem_of_getElem? (i := 54) rfl)
theorem ml_RL_77 : Cond.methodLink RL 77 yX10_decides ∈ lw_tbl := it3 (List.mem_of_getElem? (i := 234) rfl)
theorem ml_RL_80 : Cond.methodLink RL 80 yX11_decides ∈ lw_tbl := it6 (List.mem_of_getElem? (i := 62) rfl)
theorem ml_RL_81 : Cond.methodLink RL 81 yX10_lost ∈ lw_tbl := it3 (List.mem_of_getElem? (i := 239) rfl)
theorem ml_RL_84 : Cond.methodLink RL 84 yX11_lost ∈ lw_tbl := it6 (List.mem_of_getElem? (i := 70) rfl)
theorem ml_RL_85 : Cond.methodLink RL 85 yX10_idle ∈ lw_tbl := it4 (List.mem_of_getElem? (i := 3) rfl)
theorem ml_RL_88 : Cond.methodLink RL 88 yX11_idle ∈ lw_tbl := it6 (List.mem_of_getElem? (i := 74) rfl)
theorem ml_RL_89 : Cond.methodLink RL 89 yX10_more ∈ lw_tbl := it4 (List.mem_of_getElem? (i := 19) rfl)
theorem ml_RL_92 : Cond.methodLink RL 92 yX11_more ∈ lw_tbl := it6 (List.mem_of_getElem? (i := 86) rfl)
theorem ml_RL_93 : Cond.methodLink RL 93 yX10_unlike ∈ lw_tbl := it4 (List.mem_of_getElem? (i := 28) rfl)
theorem ml_RL_96 : Cond.methodLink RL 96 yX11_unlike ∈ lw_tbl := it6 (List.mem_of_getElem? (i := 94) rfl)
theorem ml_RL_97 : Cond.methodLink RL 97 yX10_mend ∈ lw_tbl := it4 (List.mem_of_getElem? (i := 40) rfl)
theorem ml_RL_100 : Cond.methodLink RL 100 yX11_mend ∈ lw_tbl := it6 (List.mem_of_getElem? (i := 98) rfl)
theorem ml_RL_101 : Cond.methodLink RL 101 yX10_change ∈ lw_tbl := it4 (List.mem_of_getElem? (i := 109) rfl)
theorem ml_RL_104 : Cond.methodLink RL 104 yX11_change ∈ lw_tbl := it6 (List.mem_of_getElem? (i := 110) rfl)
theorem ml_RL_105 : Cond.methodLink RL 105 yX10_apply ∈ lw_tbl := it4 (List.mem_of_getElem? (i := 122) rfl)
theorem ml_RL_109 : Cond.methodLink RL 109 yX11_apply ∈ lw_tbl := it6 (List.mem_of_getElem? (i := 114) rfl)
theorem ml_RL_110 : Cond.methodLink RL 110 yX10_line ∈ lw_tbl := it4 (List.mem_of_getElem? (i := 140) rfl)
theorem ml_RL_113 : Cond.methodLink RL 113 yX11_line ∈ lw_tbl := it6 (List.mem_of_getElem? (i := 118) rfl)
theorem ml_RL_114 : Cond.methodLink RL 114 yX10_count ∈ lw_tbl := it4 (List.mem_of_getElem? (i := 148) rfl)
theorem ml_RL_117 : Cond.methodLink RL 117 yX11_count ∈ lw_tbl := it6 (List.mem_of_getElem? (i := 122) rfl)
theorem ml_RL_118 : Cond.methodLink RL 118 yX10_image ∈ lw_tbl := it4 (List.mem_of_getElem? (i := 161) rfl)
theorem ml_RL_122 : Cond.methodLink RL 122 yX11_image ∈ lw_tbl := it6 (List.mem_of_getElem? (i := 126) rfl)
theorem ml_RL_123 : Cond.methodLink RL 123 yX10_again ∈ lw_tbl := it4 (List.mem_of_getElem? (i := 174) rfl)
theorem ml_RL_126 : Cond.methodLink RL 126 yX11_again ∈ lw_tbl := it6 (List.mem_of_getElem? (i := 137) rfl)
theorem ml_RX11_1 : Cond.methodLink RX11 1 objectInit ∈ lw_tbl := it4 (List.mem_of_getElem? (i := 183) rfl)
theorem ml_RX11_97 : Cond.methodLink RX11 97 yX11_move ∈ lw_tbl := it6 (List.mem_of_getElem? (i := 134) rfl)
theorem ml_RX11_104 : Cond.methodLink RX11 104 yX11_four ∈ lw_tbl := it5 (List.mem_of_getElem? (i := 100) rfl)
theorem ml_RX11_108 : Cond.methodLink RX11 108 yX11_in ∈ lw_tbl := it5 (List.mem_of_getElem? (i := 108) rfl)
theorem ml_RX11_118 : Cond.methodLink RX11 118 yX11_see ∈ lw_tbl := it5 (List.mem_of_getElem? (i := 123) rfl)
theorem ml_RX11_144 : Cond.methodLink RX11 144 yX11_isSign ∈ lw_tbl := it5 (List.mem_of_getElem? (i := 148) rfl)
theorem ml_RX11_148 : Cond.methodLink RX11 148 yX11_wrong ∈ lw_tbl := it5 (List.mem_of_getElem? (i := 140) rfl)
theorem ml_RX11_152 : Cond.methodLink RX11 152 yX11_next ∈ lw_tbl := it5 (List.mem_of_getElem? (i := 119) rfl)
theorem ml_RX11_158 : Cond.methodLink RX11 158 yX11_note ∈ lw_tbl := it5 (List.mem_of_getElem? (i := 156) rfl)
theorem ml_RX11_170 : Cond.methodLink RX11 170 yX11_isWord ∈ lw_tbl := it5 (List.mem_of_getElem? (i := 132) rfl)
theorem ml_RX11_182 : Cond.methodLink RX11 182 yX11_need ∈ lw_tbl := it5 (List.mem_of_getElem? (i := 144) rfl)
theorem ml_RX11_188 : Cond.methodLink RX11 188 yX11_who ∈ lw_tbl := it5 (List.mem_of_getElem? (i := 160) rfl)
theorem ml_RX11_191 : Cond.methodLink RX11 191 yX11_act ∈ lw_tbl := it5 (List.mem_of_getElem? (i := 173) rfl)
theorem ml_RX11_194 : Cond.methodLink RX11 194 yX11_what ∈ lw_tbl := it5 (List.mem_of_getElem? (i := 182) rfl)
theorem ml_RX11_199 : Cond.methodLink RX11 199 yX11_any ∈ lw_tbl := it5 (List.mem_of_getElem? (i := 190) rfl)
theorem ml_RX11_202 : Cond.methodLink RX11 202 yX11_put ∈ lw_tbl := it5 (List.mem_of_getElem? (i := 207) rfl)
theorem ml_RX11_215 : Cond.methodLink RX11 215 yX11_number ∈ lw_tbl := it5 (List.mem_of_getElem? (i := 169) rfl)
theorem ml_RX11_237 : Cond.methodLink RX11 237 yX11_both ∈ lw_tbl := it5 (List.mem_of_getElem? (i := 194) rfl)
theorem ml_RX11_242 : Cond.methodLink RX11 242 yX11_negated ∈ lw_tbl := it5 (List.mem_of_getElem? (i := 198) rfl)
theorem ml_RX11_249 : Cond.methodLink RX11 249 yX11_part ∈ lw_tbl := it5 (List.mem_of_getElem? (i := 203) rfl)
theorem ml_RX11_252 : Cond.methodLink RX11 252 yX11_term ∈ lw_tbl := it5 (List.mem_of_getElem? (i := 211) rfl)
theorem ml_RX11_259 : Cond.methodLink RX11 259 yX11_isSlot ∈ lw_tbl := it5 (List.mem_of_getElem? (i := 115) rfl)
theorem ml_RX11_262 : Cond.methodLink RX11 262 yX11_beginning ∈ lw_tbl := it5 (List.mem_of_getElem? (i := 127) rfl)
theorem ml_RX11_265 : Cond.methodLink RX11 265 yX11_oneLine ∈ lw_tbl := it5 (List.mem_of_getElem? (i := 152) rfl)
theorem ml_RX11_271 : Cond.methodLink RX11 271 yX11_isPerson ∈ lw_tbl := it5 (List.mem_of_getElem? (i := 231) rfl)
theorem ml_RX11_274 : Cond.methodLink RX11 274 yX11_isThing ∈ lw_tbl := it6 (List.mem_of_getElem? (i := 3) rfl)
theorem ml_RX11_277 : Cond.methodLink RX11 277 yX11_ones ∈ lw_tbl := it6 (List.mem_of_getElem? (i := 31) rfl)
theorem ml_RX11_281 : Cond.methodLink RX11 281 yX11_tested ∈ lw_tbl := it6 (List.mem_of_getElem? (i := 27) rfl)
theorem ml_RX11_291 : Cond.methodLink RX11 291 yX11_holds ∈ lw_tbl := it6 (List.mem_of_getElem? (i := 23) rfl)
theorem ml_RX11_295 : Cond.methodLink RX11 295 yX11_lets ∈ lw_tbl := it6 (List.mem_of_getElem? (i := 34) rfl)
theorem ml_RX11_299 : Cond.methodLink RX11 299 yX11_decider ∈ lw_tbl := it6 (List.mem_of_getElem? (i := 19) rfl)
theorem ml_RX11_303 : Cond.methodLink RX11 303 yX11_canAsk ∈ lw_tbl := it6 (List.mem_of_getElem? (i := 15) rfl)
theorem ml_RX11_307 : Cond.methodLink RX11 307 yX11_isLet ∈ lw_tbl := it6 (List.mem_of_getElem? (i := 38) rfl)
theorem ml_RX11_310 : Cond.methodLink RX11 310 yX11_isAskLet ∈ lw_tbl := it6 (List.mem_of_getElem? (i := 58) rfl)
theorem ml_RX11_313 : Cond.methodLink RX11 313 yX11_isLine ∈ lw_tbl := it6 (List.mem_of_getElem? (i := 66) rfl)
theorem ml_RX11_316 : Cond.methodLink RX11 316 yX11_partOf ∈ lw_tbl := it6 (List.mem_of_getElem? (i := 82) rfl)
theorem ml_RX11_320 : Cond.methodLink RX11 320 yX11_all ∈ lw_tbl := it6 (List.mem_of_getElem? (i := 78) rfl)
theorem ml_RX11_323 : Cond.methodLink RX11 323 yX11_isAllLet ∈ lw_tbl := it6 (List.mem_of_getElem? (i := 90) rfl)
theorem ml_RX11_326 : Cond.methodLink RX11 326 yX11_isMended ∈ lw_tbl := it6 (List.mem_of_getElem? (i := 102) rfl)
theorem ml_RX11_329 : Cond.methodLink RX11 329 yX11_goesOn ∈ lw_tbl := it6 (List.mem_of_getElem? (i := 106) rfl)
theorem ml_RX11_345 : Cond.methodLink RX11 345 yX11_copy ∈ lw_tbl := it6 (List.mem_of_getElem? (i := 130) rfl)
theorem ml_RJ6_51 : Cond.methodLink RJ6 51 yJ6_numberOfLeadingZeros_0f7a4 ∈ lw_tbl := it4 (List.mem_of_getElem? (i := 80) rfl)
theorem ml_RJ0_335 : Cond.methodLink RJ0 335 yJ0_coder_7d493 ∈ lw_tbl := it2 (List.mem_of_getElem? (i := 118) rfl)
theorem ml_RJ0_492 : Cond.methodLink RJ0 492 yJ0_isLatin1_aae02 ∈ lw_tbl := it2 (List.mem_of_getElem? (i := 128) rfl)
theorem ml_RJ0_495 : Cond.methodLink RJ0 495 yJ1_charAt_3b067 ∈ lw_tbl := it2 (List.mem_of_getElem? (i := 132) rfl)
theorem ml_RJ0_498 : Cond.methodLink RJ0 498 yJ2_charAt_3b067 ∈ lw_tbl := it2 (List.mem_of_getElem? (i := 143) rfl)
theorem ml_RJ0_1059 : Cond.methodLink RJ0 1059 yJ3_checkIndex_8e157 ∈ lw_tbl := it2 (List.mem_of_getElem? (i := 140) rfl)
theorem ml_RJ1_9 : Cond.methodLink RJ1 9 yJ0_checkIndex_df160 ∈ lw_tbl := it2 (List.mem_of_getElem? (i := 135) rfl)
theorem ml_RJ2_48 : Cond.methodLink RJ2 48 yJ2_length_9d52b ∈ lw_tbl := it2 (List.mem_of_getElem? (i := 149) rfl)
theorem ml_RJ2_67 : Cond.methodLink RJ2 67 yJ2_checkIndex_2214a ∈ lw_tbl := it2 (List.mem_of_getElem? (i := 146) rfl)
theorem ml_RJ2_71 : Cond.methodLink RJ2 71 yJ2_getChar_3b067 ∈ lw_tbl := it2 (List.mem_of_getElem? (i := 153) rfl)
theorem ml_RJ2_414 : Cond.methodLink RJ2 414 yJ0_checkIndex_df160 ∈ lw_tbl := it2 (List.mem_of_getElem? (i := 152) rfl)
theorem ml_RJ7_150 : Cond.methodLink RJ7 150 arraycopyName ∈ lw_tbl := it3 (List.mem_of_getElem? (i := 24) rfl)
theorem ml_RJ7_304 : Cond.methodLink RJ7 304 yJ9_min_7cf53 ∈ lw_tbl := it3 (List.mem_of_getElem? (i := 21) rfl)
theorem im_obj : Cond.instanceMethod objectInit ∈ lw_tbl := it1 (List.mem_of_getElem? (i := 27) rfl)
theorem co_obj : Cond.code objectInit ⟨#[0xb1]⟩ 1 none ∈ lw_tbl := it1 (List.mem_of_getElem? (i := 28) rfl)
theorem ac_0 : Cond.arrayClass .int ∈ lw_tbl := it1 (List.mem_of_getElem? (i := 44) rfl)
theorem ac_1 : Cond.arrayClass .byte ∈ lw_tbl := it3 (List.mem_of_getElem? (i := 62) rfl)
theorem ac_2 : Cond.arrayClass .boolean ∈ lw_tbl := it5 (List.mem_of_getElem? (i := 95) rfl)
theorem ao_3 : Cond.arrayOver (.object RX0) ∈ lw_tbl := it1 (List.mem_of_getElem? (i := 89) rfl)
theorem ao_4 : Cond.arrayOver (.object RX3) ∈ lw_tbl := it1 (List.mem_of_getElem? (i := 146) rfl)
theorem ao_5 : Cond.arrayOver (.object RX8) ∈ lw_tbl := it1 (List.mem_of_getElem? (i := 205) rfl)
theorem ls_who : Cond.laysStatic "RulesTried$Reader" "TOP_OF_WHO" "[I" ∈ lw_tbl := it2 (List.mem_of_getElem? (i := 215) rfl)
theorem ls_what : Cond.laysStatic "RulesTried$Reader" "TOP_OF_WHAT" "[I" ∈ lw_tbl := it2 (List.mem_of_getElem? (i := 222) rfl)
theorem ls_comp : Cond.laysStatic "java/lang/String" "COMPACT_STRINGS" "Z" ∈ lw_tbl := it2 (List.mem_of_getElem? (i := 123) rfl)
theorem ls_si : Cond.laysStatic "jdk/internal/util/Preconditions" "SIOOBE_FORMATTER" "Ljava/util/function/BiFunction;" ∈ lw_tbl := it2 (List.mem_of_getElem? (i := 139) rfl)
theorem ii_str : Cond.initialized "java/lang/String" ∈ lw_tbl := it1 (List.mem_of_getElem? (i := 12) rfl)
theorem ii_pre : Cond.initialized "jdk/internal/util/Preconditions" ∈ lw_tbl := it1 (List.mem_of_getElem? (i := 14) rfl)
theorem sr_w : Cond.stringRef RX7 85 w_txt ∈ lw_tbl := it2 (List.mem_of_getElem? (i := 113) rfl)
theorem sm_max : Cond.static Lib.Math.max.name ∈ lw_tbl := it1 (List.mem_of_getElem? (i := 127) rfl)
theorem sm_min : Cond.static Lib.Math.min.name ∈ lw_tbl := it3 (List.mem_of_getElem? (i := 22) rfl)
theorem sm_cp : Cond.static arraycopyName ∈ lw_tbl := it3 (List.mem_of_getElem? (i := 25) rfl)
theorem na_cp : Cond.native arraycopyName ∈ lw_tbl := it3 (List.mem_of_getElem? (i := 26) rfl)
theorem ii_math : Cond.initialized "java/lang/Math" ∈ lw_tbl := it1 (List.mem_of_getElem? (i := 7) rfl)
theorem ii_sys : Cond.initialized "java/lang/System" ∈ lw_tbl := it1 (List.mem_of_getElem? (i := 18) rfl)
theorem co_max : Cond.code Lib.Math.max.name Lib.Math.max.code 2 (some .int) ∈ lw_tbl := it1 (List.mem_of_getElem? (i := 128) rfl)
theorem co_min : Cond.code Lib.Math.min.name Lib.Math.min.code 2 (some .int) ∈ lw_tbl := it3 (List.mem_of_getElem? (i := 23) rfl)
theorem ov_3 {g : GG} : ∀ U H, RepS g U H → va_AO RX0 U := fun _ _ h => h.2.2.2.2.2.2.2.2.2.2.1
theorem ov_4 {g : GG} : ∀ U H, RepS g U H → va_AO RX3 U := fun _ _ h => h.2.2.2.2.2.2.2.2.2.2.2.1
theorem ov_5 {g : GG} : ∀ U H, RepS g U H → va_AO RX8 U := fun _ _ h => h.2.2.2.2.2.2.2.2.2.2.2.2.1
theorem kb_m2 : (Int8.ofInt (-2)).toInt32 = (-2 : Int32) := by decide
theorem kb_6 : (Int8.ofInt (6)).toInt32 = (6 : Int32) := by decide
theorem kb_7 : (Int8.ofInt (7)).toInt32 = (7 : Int32) := by decide
theorem kb_8 : (Int8.ofInt (8)).toInt32 = (8 : Int32) := by decide
theorem kb_9 : (Int8.ofInt (9)).toInt32 = (9 : Int32) := by decide
theorem kb_10 : (Int8.ofInt (10)).toInt32 = (10 : Int32) := by decide
theorem kb_11 : (Int8.ofInt (11)).toInt32 = (11 : Int32) := by decide
theorem kb_12 : (Int8.ofInt (12)).toInt32 = (12 : Int32) := by decide
theorem kb_13 : (Int8.ofInt (13)).toInt32 = (13 : Int32) := by decide
theorem kb_15 : (Int8.ofInt (15)).toInt32 = (15 : Int32) := by decide
theorem kb_16 : (Int8.ofInt (16)).toInt32 = (16 : Int32) := by decide
theorem kb_20 : (Int8.ofInt (20)).toInt32 = (20 : Int32) := by decide
theorem kb_22 : (Int8.ofInt (22)).toInt32 = (22 : Int32) := by decide
theorem kb_23 : (Int8.ofInt (23)).toInt32 = (23 : Int32) := by decide
theorem kb_24 : (Int8.ofInt (24)).toInt32 = (24 : Int32) := by decide
theorem kb_31 : (Int8.ofInt (31)).toInt32 = (31 : Int32) := by decide
theorem kb_32 : (Int8.ofInt (32)).toInt32 = (32 : Int32) := by decide
theorem kb_40 : (Int8.ofInt (40)).toInt32 = (40 : Int32) := by decide
theorem kb_41 : (Int8.ofInt (41)).toInt32 = (41 : Int32) := by decide
theorem kb_48 : (Int8.ofInt (48)).toInt32 = (48 : Int32) := by decide
theorem kb_57 : (Int8.ofInt (57)).toInt32 = (57 : Int32) := by decide
theorem kb_59 : (Int8.ofInt (59)).toInt32 = (59 : Int32) := by decide
theorem kb_60 : (Int8.ofInt (60)).toInt32 = (60 : Int32) := by decide
theorem kb_61 : (Int8.ofInt (61)).toInt32 = (61 : Int32) := by decide
theorem kb_62 : (Int8.ofInt (62)).toInt32 = (62 : Int32) := by decide
theorem kb_63 : (Int8.ofInt (63)).toInt32 = (63 : Int32) := by decide
theorem kb_64 : (Int8.ofInt (64)).toInt32 = (64 : Int32) := by decide
theorem kb_96 : (Int8.ofInt (96)).toInt32 = (96 : Int32) := by decide
theorem kb_97 : (Int8.ofInt (97)).toInt32 = (97 : Int32) := by decide
theorem kb_104 : (Int8.ofInt (104)).toInt32 = (104 : Int32) := by decide
theorem kb_122 : (Int8.ofInt (122)).toInt32 = (122 : Int32) := by decide
theorem ki_m16 : Int32.ofInt (-16) = (-16 : Int32) := by decide
theorem ki_m8 : Int32.ofInt (-8) = (-8 : Int32) := by decide
theorem ki_m4 : Int32.ofInt (-4) = (-4 : Int32) := by decide
theorem ki_m2 : Int32.ofInt (-2) = (-2 : Int32) := by decide
theorem ki_m1 : Int32.ofInt (-1) = (-1 : Int32) := by decide
theorem ki_0 : Int32.ofInt (0) = (0 : Int32) := by decide
theorem ki_1 : Int32.ofInt (1) = (1 : Int32) := by decide
theorem ki_2 : Int32.ofInt (2) = (2 : Int32) := by decide
theorem ki_3 : Int32.ofInt (3) = (3 : Int32) := by decide
theorem ki_4 : Int32.ofInt (4) = (4 : Int32) := by decide
theorem ki_5 : Int32.ofInt (5) = (5 : Int32) := by decide
theorem ki_7 : Int32.ofInt (7) = (7 : Int32) := by decide
theorem ki_8 : Int32.ofInt (8) = (8 : Int32) := by decide
theorem ki_16 : Int32.ofInt (16) = (16 : Int32) := by decide
theorem ks_200 : (Int16.ofInt (200)).toInt32 = (200 : Int32) := by decide
theorem ks_255 : (Int16.ofInt (255)).toInt32 = (255 : Int32) := by decide
theorem ks_256 : (Int16.ofInt (256)).toInt32 = (256 : Int32) := by decide
theorem ks_300 : (Int16.ofInt (300)).toInt32 = (300 : Int32) := by decide
theorem ks_301 : (Int16.ofInt (301)).toInt32 = (301 : Int32) := by decide
theorem ks_303 : (Int16.ofInt (303)).toInt32 = (303 : Int32) := by decide
theorem ks_304 : (Int16.ofInt (304)).toInt32 = (304 : Int32) := by decide
theorem ks_305 : (Int16.ofInt (305)).toInt32 = (305 : Int32) := by decide
theorem ks_308 : (Int16.ofInt (308)).toInt32 = (308 : Int32) := by decide
theorem ks_309 : (Int16.ofInt (309)).toInt32 = (309 : Int32) := by decide
theorem ks_310 : (Int16.ofInt (310)).toInt32 = (310 : Int32) := by decide
theorem ks_314 : (Int16.ofInt (314)).toInt32 = (314 : Int32) := by decide
theorem ks_315 : (Int16.ofInt (315)).toInt32 = (315 : Int32) := by decide
theorem ks_317 : (Int16.ofInt (317)).toInt32 = (317 : Int32) := by decide
theorem ks_318 : (Int16.ofInt (318)).toInt32 = (318 : Int32) := by decide
theorem ks_319 : (Int16.ofInt (319)).toInt32 = (319 : Int32) := by decide
theorem ks_320 : (Int16.ofInt (320)).toInt32 = (320 : Int32) := by decide
theorem ks_321 : (Int16.ofInt (321)).toInt32 = (321 : Int32) := by decide
theorem ks_384 : (Int16.ofInt (384)).toInt32 = (384 : Int32) := by decide
theorem ks_580 : (Int16.ofInt (580)).toInt32 = (580 : Int32) := by decide
theorem ks_600 : (Int16.ofInt (600)).toInt32 = (600 : Int32) := by decide
theorem ks_601 : (Int16.ofInt (601)).toInt32 = (601 : Int32) := by decide
theorem ks_800 : (Int16.ofInt (800)).toInt32 = (800 : Int32) := by decide
theorem ks_900 : (Int16.ofInt (900)).toInt32 = (900 : Int32) := by decide
theorem ks_1000 : (Int16.ofInt (1000)).toInt32 = (1000 : Int32) := by decide
theorem ks_1001 : (Int16.ofInt (1001)).toInt32 = (1001 : Int32) := by decide
theorem ks_1002 : (Int16.ofInt (1002)).toInt32 = (1002 : Int32) := by decide
theorem ks_1003 : (Int16.ofInt (1003)).toInt32 = (1003 : Int32) := by decide
theorem ks_1004 : (Int16.ofInt (1004)).toInt32 = (1004 : Int32) := by decide
theorem ks_1536 : (Int16.ofInt (1536)).toInt32 = (1536 : Int32) := by decide
theorem ks_2047 : (Int16.ofInt (2047)).toInt32 = (2047 : Int32) := by decide
theorem ks_3200 : (Int16.ofInt (3200)).toInt32 = (3200 : Int32) := by decide
theorem ks_3600 : (Int16.ofInt (3600)).toInt32 = (3600 : Int32) := by decide
theorem ks_14400 : (Int16.ofInt (14400)).toInt32 = (14400 : Int32) := by decide
