/-! METHODS (printed by gen/build.py): NC_count NC_status Mo_init Mo_putBack Mo_tell Mo_undo Mo_in Mo_image Mo_lasting Mo_back -/
theorem d_NC_count_0 : decode (yB Y_NC_count) 0 = .ok (.iload_n 1, 1) := by decide +kernel
theorem d_NC_count_1 : decode (yB Y_NC_count) 1 = .ok (.bipush 7, 2) := by decide +kernel
theorem d_NC_count_3 : decode (yB Y_NC_count) 3 = .ok (.bipush 11, 2) := by decide +kernel
theorem d_NC_count_5 : decode (yB Y_NC_count) 5 = .ok (.invokestatic 132, 3) := by decide +kernel
theorem d_NC_count_8 : decode (yB Y_NC_count) 8 = .ok (.ifCond .eq 13, 3) := by decide +kernel
theorem d_NC_count_11 : decode (yB Y_NC_count) 11 = .ok (.aload_n 0, 1) := by decide +kernel
theorem d_NC_count_12 : decode (yB Y_NC_count) 12 = .ok (.getfield 90, 3) := by decide +kernel
theorem d_NC_count_15 : decode (yB Y_NC_count) 15 = .ok (.iload_n 1, 1) := by decide +kernel
theorem d_NC_count_16 : decode (yB Y_NC_count) 16 = .ok (.bipush 7, 2) := by decide +kernel
theorem d_NC_count_18 : decode (yB Y_NC_count) 18 = .ok (.isub, 1) := by decide +kernel
theorem d_NC_count_19 : decode (yB Y_NC_count) 19 = .ok (.iaload, 1) := by decide +kernel
theorem d_NC_count_20 : decode (yB Y_NC_count) 20 = .ok (.ireturn, 1) := by decide +kernel
theorem d_NC_count_21 : decode (yB Y_NC_count) 21 = .ok (.iload_n 1, 1) := by decide +kernel
theorem d_NC_count_22 : decode (yB Y_NC_count) 22 = .ok (.bipush 13, 2) := by decide +kernel
theorem d_NC_count_24 : decode (yB Y_NC_count) 24 = .ok (.bipush 16, 2) := by decide +kernel
theorem d_NC_count_26 : decode (yB Y_NC_count) 26 = .ok (.invokestatic 132, 3) := by decide +kernel
theorem d_NC_count_29 : decode (yB Y_NC_count) 29 = .ok (.ifCond .eq 16, 3) := by decide +kernel
theorem d_NC_count_32 : decode (yB Y_NC_count) 32 = .ok (.aload_n 0, 1) := by decide +kernel
theorem d_NC_count_33 : decode (yB Y_NC_count) 33 = .ok (.getfield 12, 3) := by decide +kernel
theorem d_NC_count_36 : decode (yB Y_NC_count) 36 = .ok (.getfield 192, 3) := by decide +kernel
theorem d_NC_count_39 : decode (yB Y_NC_count) 39 = .ok (.iload_n 1, 1) := by decide +kernel
theorem d_NC_count_40 : decode (yB Y_NC_count) 40 = .ok (.bipush 13, 2) := by decide +kernel
theorem d_NC_count_42 : decode (yB Y_NC_count) 42 = .ok (.isub, 1) := by decide +kernel
theorem d_NC_count_43 : decode (yB Y_NC_count) 43 = .ok (.iaload, 1) := by decide +kernel
theorem d_NC_count_44 : decode (yB Y_NC_count) 44 = .ok (.ireturn, 1) := by decide +kernel
theorem d_NC_count_45 : decode (yB Y_NC_count) 45 = .ok (.iload_n 1, 1) := by decide +kernel
theorem d_NC_count_46 : decode (yB Y_NC_count) 46 = .ok (.tableswitch 130 0 12 #[66, 74, 82, 90, 98, 106, 114, 130, 130, 130, 130, 130, 122], 66) := by decide +kernel
theorem d_NC_count_112 : decode (yB Y_NC_count) 112 = .ok (.aload_n 0, 1) := by decide +kernel
theorem d_NC_count_113 : decode (yB Y_NC_count) 113 = .ok (.getfield 12, 3) := by decide +kernel
theorem d_NC_count_116 : decode (yB Y_NC_count) 116 = .ok (.getfield 155, 3) := by decide +kernel
theorem d_NC_count_119 : decode (yB Y_NC_count) 119 = .ok (.ireturn, 1) := by decide +kernel
theorem d_NC_count_120 : decode (yB Y_NC_count) 120 = .ok (.aload_n 0, 1) := by decide +kernel
theorem d_NC_count_121 : decode (yB Y_NC_count) 121 = .ok (.getfield 12, 3) := by decide +kernel
theorem d_NC_count_124 : decode (yB Y_NC_count) 124 = .ok (.invokevirtual 320, 3) := by decide +kernel
theorem d_NC_count_127 : decode (yB Y_NC_count) 127 = .ok (.ireturn, 1) := by decide +kernel
theorem d_NC_count_128 : decode (yB Y_NC_count) 128 = .ok (.aload_n 0, 1) := by decide +kernel
theorem d_NC_count_129 : decode (yB Y_NC_count) 129 = .ok (.getfield 12, 3) := by decide +kernel
theorem d_NC_count_132 : decode (yB Y_NC_count) 132 = .ok (.invokevirtual 324, 3) := by decide +kernel
theorem d_NC_count_135 : decode (yB Y_NC_count) 135 = .ok (.ireturn, 1) := by decide +kernel
theorem d_NC_count_136 : decode (yB Y_NC_count) 136 = .ok (.aload_n 0, 1) := by decide +kernel
theorem d_NC_count_137 : decode (yB Y_NC_count) 137 = .ok (.getfield 12, 3) := by decide +kernel
theorem d_NC_count_140 : decode (yB Y_NC_count) 140 = .ok (.getfield 273, 3) := by decide +kernel
theorem d_NC_count_143 : decode (yB Y_NC_count) 143 = .ok (.ireturn, 1) := by decide +kernel
theorem d_NC_count_144 : decode (yB Y_NC_count) 144 = .ok (.aload_n 0, 1) := by decide +kernel
theorem d_NC_count_145 : decode (yB Y_NC_count) 145 = .ok (.getfield 12, 3) := by decide +kernel
theorem d_NC_count_148 : decode (yB Y_NC_count) 148 = .ok (.getfield 208, 3) := by decide +kernel
theorem d_NC_count_151 : decode (yB Y_NC_count) 151 = .ok (.ireturn, 1) := by decide +kernel
theorem d_NC_count_152 : decode (yB Y_NC_count) 152 = .ok (.aload_n 0, 1) := by decide +kernel
theorem d_NC_count_153 : decode (yB Y_NC_count) 153 = .ok (.getfield 35, 3) := by decide +kernel
theorem d_NC_count_156 : decode (yB Y_NC_count) 156 = .ok (.getfield 327, 3) := by decide +kernel
theorem d_NC_count_159 : decode (yB Y_NC_count) 159 = .ok (.ireturn, 1) := by decide +kernel
theorem d_NC_count_160 : decode (yB Y_NC_count) 160 = .ok (.aload_n 0, 1) := by decide +kernel
theorem d_NC_count_161 : decode (yB Y_NC_count) 161 = .ok (.getfield 45, 3) := by decide +kernel
theorem d_NC_count_164 : decode (yB Y_NC_count) 164 = .ok (.getfield 202, 3) := by decide +kernel
theorem d_NC_count_167 : decode (yB Y_NC_count) 167 = .ok (.ireturn, 1) := by decide +kernel
theorem d_NC_count_168 : decode (yB Y_NC_count) 168 = .ok (.aload_n 0, 1) := by decide +kernel
theorem d_NC_count_169 : decode (yB Y_NC_count) 169 = .ok (.getfield 12, 3) := by decide +kernel
theorem d_NC_count_172 : decode (yB Y_NC_count) 172 = .ok (.getfield 246, 3) := by decide +kernel
theorem d_NC_count_175 : decode (yB Y_NC_count) 175 = .ok (.ireturn, 1) := by decide +kernel
theorem d_NC_count_176 : decode (yB Y_NC_count) 176 = .ok (.iconst (-1), 1) := by decide +kernel
theorem d_NC_count_177 : decode (yB Y_NC_count) 177 = .ok (.ireturn, 1) := by decide +kernel
def F_NC_count (n : Nat) (E : zE) (S : zS) (a0 : Nat) (x1 : Int32) (M : zH) : Option (Int32 × zH) :=
  (F_NC_within n E S x1 7 11 M).bind fun q1 =>
  if q1.1 = true then
    (zgR S a0 10 13).bind fun b3 =>
    (zldI S q1.2 b3 (x1 - 7)).bind fun v4 =>
    some (v4, q1.2)
  else
    (F_NC_within n E S x1 13 16 q1.2).bind fun q5 =>
    if q5.1 = true then
      (zgR S a0 10 0).bind fun b7 =>
      (zgR S b7 3 9).bind fun b8 =>
      (zldI S q5.2 b8 (x1 - 13)).bind fun v9 =>
      some (v9, q5.2)
    else
      if x1 = 0 then
        (zgR S a0 10 0).bind fun b11 =>
        (zgI S q5.2 b11 3 11).bind fun v12 =>
        some (v12, q5.2)
      else
      if x1 = 1 then
        (zgR S a0 10 0).bind fun b14 =>
        (zck S b14 3).bind fun u15 =>
        (F_Ni_allLevels n E S b14 q5.2).bind fun q16 =>
        some (q16.1, q16.2)
      else
      if x1 = 2 then
        (zgR S a0 10 0).bind fun b18 =>
        (zck S b18 3).bind fun u19 =>
        (F_Ni_blockedHoles n E S b18 q5.2).bind fun q20 =>
        some (q20.1, q20.2)
      else
      if x1 = 3 then
        (zgR S a0 10 0).bind fun b22 =>
        (zgI S q5.2 b22 3 12).bind fun v23 =>
        some (v23, q5.2)
      else
      if x1 = 4 then
        (zgR S a0 10 0).bind fun b25 =>
        (zgI S q5.2 b25 3 13).bind fun v26 =>
        some (v26, q5.2)
      else
      if x1 = 5 then
        (zgR S a0 10 5).bind fun b28 =>
        (zgI S q5.2 b28 6 1).bind fun v29 =>
        some (v29, q5.2)
      else
      if x1 = 6 then
        (zgR S a0 10 7).bind fun b31 =>
        (zgI S q5.2 b31 8 1).bind fun v32 =>
        some (v32, q5.2)
      else
      if x1 = 7 then
        some ((-1), q5.2)
      else
      if x1 = 8 then
        some ((-1), q5.2)
      else
      if x1 = 9 then
        some ((-1), q5.2)
      else
      if x1 = 10 then
        some ((-1), q5.2)
      else
      if x1 = 11 then
        some ((-1), q5.2)
      else
      if x1 = 12 then
        (zgR S a0 10 0).bind fun b39 =>
        (zgI S q5.2 b39 3 14).bind fun v40 =>
        some (v40, q5.2)
      else
        some ((-1), q5.2)
theorem K_NC_count (n : Nat) (E : zE) (S : zS) (a0 : Nat) (x1 : Int32) (M : zH) (r : Int32) (M' : zH)  (h : F_NC_count n E S a0 x1 M = some (r, M')) : zG E Y_NC_count (some (.int r), S, M') 0 [(0, .ref a0), (1, .int x1)] [] S M 0 0 := by
  unfold F_NC_count at h
  refine zi_iload_n 1 d_NC_count_0 rfl ?_
  refine zi_bipush 7 d_NC_count_1 rfl ?_
  refine zi_bipush 11 d_NC_count_3 rfl ?_
  obtain ⟨q1, eq1, h⟩ := zbind h
  refine zo_stat (k' := 0) (n' := 0) 8 [.int x1, .int 7, .int 11] [] [.int (bI q1.1)] (C_NC_within n E S x1 7 11 M q1.1 q1.2 eq1) d_NC_count_5 tw_399 tw_397 tw_398 tw_1 dd_NC_within ⟨Nat.le_of_ble_eq_true rfl, Nat.le_of_ble_eq_true rfl, Nat.le_of_ble_eq_true rfl, Nat.le_of_ble_eq_true rfl⟩ (Nat.le_of_ble_eq_true rfl) rfl rfl rfl rfl ?_
  refine zo_ifeqB d_NC_count_8 rfl 11 rfl (fun c2 => ?_) (fun c2 => ?_)
  · rw [if_neg c2] at h
    refine zi_iload_n 1 d_NC_count_21 rfl ?_
    refine zi_bipush 13 d_NC_count_22 rfl ?_
    refine zi_bipush 16 d_NC_count_24 rfl ?_
    obtain ⟨q5, eq5, h⟩ := zbind h
    refine zo_stat (k' := 0) (n' := 0) 29 [.int x1, .int 13, .int 16] [] [.int (bI q5.1)] (C_NC_within n E S x1 13 16 q1.2 q5.1 q5.2 eq5) d_NC_count_26 tw_399 tw_397 tw_398 tw_1 dd_NC_within ⟨Nat.le_of_ble_eq_true rfl, Nat.le_of_ble_eq_true rfl, Nat.le_of_ble_eq_true rfl, Nat.le_of_ble_eq_true rfl⟩ (Nat.le_of_ble_eq_true rfl) rfl rfl rfl rfl ?_
    refine zo_ifeqB d_NC_count_29 rfl 32 rfl (fun c6 => ?_) (fun c6 => ?_)
    · rw [if_neg c6] at h
      refine zi_iload_n 1 d_NC_count_45 rfl ?_
      by_cases c10 : x1 = 0
      · rw [if_pos c10] at h
        refine zo_tab (tgt := 112) 0 d_NC_count_46 c10 (by decide) (by decide) rfl rfl ?_
        refine zi_aload_n 0 d_NC_count_112 rfl ?_
        obtain ⟨b11, eb11, h⟩ := zbind h
        refine zo_getR 116 zkd_10 0 d_NC_count_113 eb11 rfl tw_332 rfl ?_
        obtain ⟨v12, ev12, h⟩ := zbind h
        refine zo_getI 119 zkd_3 11 d_NC_count_116 ev12 rfl tw_87 rfl ?_
        cases h
        exact zo_ret d_NC_count_119 (Nat.le_of_ble_eq_true rfl) (Nat.le_of_ble_eq_true rfl) rfl
      rw [if_neg c10] at h
      by_cases c13 : x1 = 1
      · rw [if_pos c13] at h
        refine zo_tab (tgt := 120) 1 d_NC_count_46 c13 (by decide) (by decide) rfl rfl ?_
        refine zi_aload_n 0 d_NC_count_120 rfl ?_
        obtain ⟨b14, eb14, h⟩ := zbind h
        refine zo_getR 124 zkd_10 0 d_NC_count_121 eb14 rfl tw_332 rfl ?_
        obtain ⟨u15, eu15, h⟩ := zbind h
        obtain ⟨q16, eq16, h⟩ := zbind h
        refine zo_virt (k' := 0) (n' := 0) 127 [] [] [.int q16.1] zkd_3 (zck_s eu15) (C_Ni_allLevels n E S b14 q5.2 q16.1 q16.2 eq16) d_NC_count_124 tw_886 tw_1194 tw_884 tw_885 tw_2 dd_Ni_allLevels ⟨Nat.le_of_ble_eq_true rfl, Nat.le_of_ble_eq_true rfl, Nat.le_of_ble_eq_true rfl, Nat.le_of_ble_eq_true rfl⟩ (Nat.le_of_ble_eq_true rfl) rfl rfl rfl rfl ?_
        cases h
        exact zo_ret d_NC_count_127 (Nat.le_of_ble_eq_true rfl) (Nat.le_of_ble_eq_true rfl) rfl
      rw [if_neg c13] at h
      by_cases c17 : x1 = 2
      · rw [if_pos c17] at h
        refine zo_tab (tgt := 128) 2 d_NC_count_46 c17 (by decide) (by decide) rfl rfl ?_
        refine zi_aload_n 0 d_NC_count_128 rfl ?_
        obtain ⟨b18, eb18, h⟩ := zbind h
        refine zo_getR 132 zkd_10 0 d_NC_count_129 eb18 rfl tw_332 rfl ?_
        obtain ⟨u19, eu19, h⟩ := zbind h
        obtain ⟨q20, eq20, h⟩ := zbind h
        refine zo_virt (k' := 0) (n' := 0) 135 [] [] [.int q20.1] zkd_3 (zck_s eu19) (C_Ni_blockedHoles n E S b18 q5.2 q20.1 q20.2 eq20) d_NC_count_132 tw_1198 tw_1195 tw_1196 tw_1197 tw_2 dd_Ni_blockedHoles ⟨Nat.le_of_ble_eq_true rfl, Nat.le_of_ble_eq_true rfl, Nat.le_of_ble_eq_true rfl, Nat.le_of_ble_eq_true rfl⟩ (Nat.le_of_ble_eq_true rfl) rfl rfl rfl rfl ?_
        cases h
        exact zo_ret d_NC_count_135 (Nat.le_of_ble_eq_true rfl) (Nat.le_of_ble_eq_true rfl) rfl
      rw [if_neg c17] at h
      by_cases c21 : x1 = 3
      · rw [if_pos c21] at h
        refine zo_tab (tgt := 136) 3 d_NC_count_46 c21 (by decide) (by decide) rfl rfl ?_
        refine zi_aload_n 0 d_NC_count_136 rfl ?_
        obtain ⟨b22, eb22, h⟩ := zbind h
        refine zo_getR 140 zkd_10 0 d_NC_count_137 eb22 rfl tw_332 rfl ?_
        obtain ⟨v23, ev23, h⟩ := zbind h
        refine zo_getI 143 zkd_3 12 d_NC_count_140 ev23 rfl tw_92 rfl ?_
        cases h
        exact zo_ret d_NC_count_143 (Nat.le_of_ble_eq_true rfl) (Nat.le_of_ble_eq_true rfl) rfl
      rw [if_neg c21] at h
      by_cases c24 : x1 = 4
      · rw [if_pos c24] at h
        refine zo_tab (tgt := 144) 4 d_NC_count_46 c24 (by decide) (by decide) rfl rfl ?_
        refine zi_aload_n 0 d_NC_count_144 rfl ?_
        obtain ⟨b25, eb25, h⟩ := zbind h
        refine zo_getR 148 zkd_10 0 d_NC_count_145 eb25 rfl tw_332 rfl ?_
        obtain ⟨v26, ev26, h⟩ := zbind h
        refine zo_getI 151 zkd_3 13 d_NC_count_148 ev26 rfl tw_94 rfl ?_
        cases h
        exact zo_ret d_NC_count_151 (Nat.le_of_ble_eq_true rfl) (Nat.le_of_ble_eq_true rfl) rfl
      rw [if_neg c24] at h
      by_cases c27 : x1 = 5
      · rw [if_pos c27] at h
        refine zo_tab (tgt := 152) 5 d_NC_count_46 c27 (by decide) (by decide) rfl rfl ?_
        refine zi_aload_n 0 d_NC_count_152 rfl ?_
        obtain ⟨b28, eb28, h⟩ := zbind h
        refine zo_getR 156 zkd_10 5 d_NC_count_153 eb28 rfl tw_337 rfl ?_
        obtain ⟨v29, ev29, h⟩ := zbind h
        refine zo_getI 159 zkd_6 1 d_NC_count_156 ev29 rfl tw_140 rfl ?_
        cases h
        exact zo_ret d_NC_count_159 (Nat.le_of_ble_eq_true rfl) (Nat.le_of_ble_eq_true rfl) rfl
      rw [if_neg c27] at h
      by_cases c30 : x1 = 6
      · rw [if_pos c30] at h
        refine zo_tab (tgt := 160) 6 d_NC_count_46 c30 (by decide) (by decide) rfl rfl ?_
        refine zi_aload_n 0 d_NC_count_160 rfl ?_
        obtain ⟨b31, eb31, h⟩ := zbind h
        refine zo_getR 164 zkd_10 7 d_NC_count_161 eb31 rfl tw_339 rfl ?_
        obtain ⟨v32, ev32, h⟩ := zbind h
        refine zo_getI 167 zkd_8 1 d_NC_count_164 ev32 rfl tw_154 rfl ?_
        cases h
        exact zo_ret d_NC_count_167 (Nat.le_of_ble_eq_true rfl) (Nat.le_of_ble_eq_true rfl) rfl
      rw [if_neg c30] at h
      by_cases c33 : x1 = 7
      · rw [if_pos c33] at h
        refine zo_tab (tgt := 176) 7 d_NC_count_46 c33 (by decide) (by decide) rfl rfl ?_
        refine zi_iconst (-1) d_NC_count_176 rfl ?_
        cases h
        exact zo_ret d_NC_count_177 (Nat.le_of_ble_eq_true rfl) (Nat.le_of_ble_eq_true rfl) rfl
      rw [if_neg c33] at h
      by_cases c34 : x1 = 8
      · rw [if_pos c34] at h
        refine zo_tab (tgt := 176) 8 d_NC_count_46 c34 (by decide) (by decide) rfl rfl ?_
        refine zi_iconst (-1) d_NC_count_176 rfl ?_
        cases h
        exact zo_ret d_NC_count_177 (Nat.le_of_ble_eq_true rfl) (Nat.le_of_ble_eq_true rfl) rfl
      rw [if_neg c34] at h
      by_cases c35 : x1 = 9
      · rw [if_pos c35] at h
        refine zo_tab (tgt := 176) 9 d_NC_count_46 c35 (by decide) (by decide) rfl rfl ?_
        refine zi_iconst (-1) d_NC_count_176 rfl ?_
        cases h
        exact zo_ret d_NC_count_177 (Nat.le_of_ble_eq_true rfl) (Nat.le_of_ble_eq_true rfl) rfl
      rw [if_neg c35] at h
      by_cases c36 : x1 = 10
      · rw [if_pos c36] at h
        refine zo_tab (tgt := 176) 10 d_NC_count_46 c36 (by decide) (by decide) rfl rfl ?_
        refine zi_iconst (-1) d_NC_count_176 rfl ?_
        cases h
        exact zo_ret d_NC_count_177 (Nat.le_of_ble_eq_true rfl) (Nat.le_of_ble_eq_true rfl) rfl
      rw [if_neg c36] at h
      by_cases c37 : x1 = 11
      · rw [if_pos c37] at h
        refine zo_tab (tgt := 176) 11 d_NC_count_46 c37 (by decide) (by decide) rfl rfl ?_
        refine zi_iconst (-1) d_NC_count_176 rfl ?_
        cases h
        exact zo_ret d_NC_count_177 (Nat.le_of_ble_eq_true rfl) (Nat.le_of_ble_eq_true rfl) rfl
      rw [if_neg c37] at h
      by_cases c38 : x1 = 12
      · rw [if_pos c38] at h
        refine zo_tab (tgt := 168) 12 d_NC_count_46 c38 (by decide) (by decide) rfl rfl ?_
        refine zi_aload_n 0 d_NC_count_168 rfl ?_
        obtain ⟨b39, eb39, h⟩ := zbind h
        refine zo_getR 172 zkd_10 0 d_NC_count_169 eb39 rfl tw_332 rfl ?_
        obtain ⟨v40, ev40, h⟩ := zbind h
        refine zo_getI 175 zkd_3 14 d_NC_count_172 ev40 rfl tw_96 rfl ?_
        cases h
        exact zo_ret d_NC_count_175 (Nat.le_of_ble_eq_true rfl) (Nat.le_of_ble_eq_true rfl) rfl
      rw [if_neg c38] at h
      refine zo_tabP (tgt := 176) 0 13 d_NC_count_46 rfl rfl (fun j hj => by match j, hj with | 0, _ => exact c10  | 1, _ => exact c13  | 2, _ => exact c17  | 3, _ => exact c21  | 4, _ => exact c24  | 5, _ => exact c27  | 6, _ => exact c30  | 7, _ => exact c33  | 8, _ => exact c34  | 9, _ => exact c35  | 10, _ => exact c36  | 11, _ => exact c37  | 12, _ => exact c38 | j + 13, hj => exact absurd hj (by omega)) rfl ?_
      refine zi_iconst (-1) d_NC_count_176 rfl ?_
      cases h
      exact zo_ret d_NC_count_177 (Nat.le_of_ble_eq_true rfl) (Nat.le_of_ble_eq_true rfl) rfl
    · rw [if_pos c6] at h
      refine zi_aload_n 0 d_NC_count_32 rfl ?_
      obtain ⟨b7, eb7, h⟩ := zbind h
      refine zo_getR 36 zkd_10 0 d_NC_count_33 eb7 rfl tw_332 rfl ?_
      obtain ⟨b8, eb8, h⟩ := zbind h
      refine zo_getR 39 zkd_3 9 d_NC_count_36 eb8 rfl tw_84 rfl ?_
      refine zi_iload_n 1 d_NC_count_39 rfl ?_
      refine zi_bipush 13 d_NC_count_40 rfl ?_
      refine zi_isub d_NC_count_42 ?_
      obtain ⟨v9, ev9, h⟩ := zbind h
      refine zo_iald 44 d_NC_count_43 ev9 rfl ?_
      cases h
      exact zo_ret d_NC_count_44 (Nat.le_of_ble_eq_true rfl) (Nat.le_of_ble_eq_true rfl) rfl
  · rw [if_pos c2] at h
    refine zi_aload_n 0 d_NC_count_11 rfl ?_
    obtain ⟨b3, eb3, h⟩ := zbind h
    refine zo_getR 15 zkd_10 13 d_NC_count_12 eb3 rfl tw_345 rfl ?_
    refine zi_iload_n 1 d_NC_count_15 rfl ?_
    refine zi_bipush 7 d_NC_count_16 rfl ?_
    refine zi_isub d_NC_count_18 ?_
    obtain ⟨v4, ev4, h⟩ := zbind h
    refine zo_iald 20 d_NC_count_19 ev4 rfl ?_
    cases h
    exact zo_ret d_NC_count_20 (Nat.le_of_ble_eq_true rfl) (Nat.le_of_ble_eq_true rfl) rfl
theorem C_NC_count (n : Nat) (E : zE) (S : zS) (a0 : Nat) (x1 : Int32) (M : zH) (r : Int32) (M' : zH) (h : F_NC_count n E S a0 x1 M = some (r, M')) : zC E Y_NC_count [.ref a0, .int x1] S M (some (.int r), S, M') :=
  zC.of (Or.inl (show plainName "NightColander" = true by decide)) (Nat.le_of_ble_eq_true rfl) (trivial) (K_NC_count n E S a0 x1 M r M' h)
theorem d_NC_status_0 : decode (yB Y_NC_status) 0 = .ok (.aload_n 0, 1) := by decide +kernel
theorem d_NC_status_1 : decode (yB Y_NC_status) 1 = .ok (.getfield 98, 3) := by decide +kernel
theorem d_NC_status_4 : decode (yB Y_NC_status) 4 = .ok (.ireturn, 1) := by decide +kernel
def F_NC_status (n : Nat) (E : zE) (S : zS) (a0 : Nat) (M : zH) : Option (Int32 × zH) :=
  (zgI S M a0 10 15).bind fun v1 =>
  some (v1, M)
theorem K_NC_status (n : Nat) (E : zE) (S : zS) (a0 : Nat) (M : zH) (r : Int32) (M' : zH)  (h : F_NC_status n E S a0 M = some (r, M')) : zG E Y_NC_status (some (.int r), S, M') 0 [(0, .ref a0)] [] S M 0 0 := by
  unfold F_NC_status at h
  refine zi_aload_n 0 d_NC_status_0 rfl ?_
  obtain ⟨v1, ev1, h⟩ := zbind h
  refine zo_getI 4 zkd_10 15 d_NC_status_1 ev1 rfl tw_347 rfl ?_
  cases h
  exact zo_ret d_NC_status_4 (Nat.le_of_ble_eq_true rfl) (Nat.le_of_ble_eq_true rfl) rfl
theorem C_NC_status (n : Nat) (E : zE) (S : zS) (a0 : Nat) (M : zH) (r : Int32) (M' : zH) (h : F_NC_status n E S a0 M = some (r, M')) : zC E Y_NC_status [.ref a0] S M (some (.int r), S, M') :=
  zC.of (Or.inl (show plainName "NightColander" = true by decide)) (Nat.le_of_ble_eq_true rfl) (trivial) (K_NC_status n E S a0 M r M' h)
theorem d_Mo_init_0 : decode (yB Y_Mo_init) 0 = .ok (.aload_n 0, 1) := by decide +kernel
theorem d_Mo_init_1 : decode (yB Y_Mo_init) 1 = .ok (.invokespecial 1, 3) := by decide +kernel
theorem d_Mo_init_4 : decode (yB Y_Mo_init) 4 = .ok (.aload_n 0, 1) := by decide +kernel
theorem d_Mo_init_5 : decode (yB Y_Mo_init) 5 = .ok (.bipush 7, 2) := by decide +kernel
theorem d_Mo_init_7 : decode (yB Y_Mo_init) 7 = .ok (.newarray .int, 2) := by decide +kernel
theorem d_Mo_init_9 : decode (yB Y_Mo_init) 9 = .ok (.putfield 7, 3) := by decide +kernel
theorem d_Mo_init_12 : decode (yB Y_Mo_init) 12 = .ok (.aload_n 0, 1) := by decide +kernel
theorem d_Mo_init_13 : decode (yB Y_Mo_init) 13 = .ok (.sipush 5480, 3) := by decide +kernel
theorem d_Mo_init_16 : decode (yB Y_Mo_init) 16 = .ok (.newarray .int, 2) := by decide +kernel
theorem d_Mo_init_18 : decode (yB Y_Mo_init) 18 = .ok (.putfield 13, 3) := by decide +kernel
theorem d_Mo_init_21 : decode (yB Y_Mo_init) 21 = .ok (.aload_n 0, 1) := by decide +kernel
theorem d_Mo_init_22 : decode (yB Y_Mo_init) 22 = .ok (.sipush 10960, 3) := by decide +kernel
theorem d_Mo_init_25 : decode (yB Y_Mo_init) 25 = .ok (.newarray .int, 2) := by decide +kernel
theorem d_Mo_init_27 : decode (yB Y_Mo_init) 27 = .ok (.putfield 16, 3) := by decide +kernel
theorem d_Mo_init_30 : decode (yB Y_Mo_init) 30 = .ok (.aload_n 0, 1) := by decide +kernel
theorem d_Mo_init_31 : decode (yB Y_Mo_init) 31 = .ok (.iconst 2, 1) := by decide +kernel
theorem d_Mo_init_32 : decode (yB Y_Mo_init) 32 = .ok (.newarray .boolean, 2) := by decide +kernel
theorem d_Mo_init_34 : decode (yB Y_Mo_init) 34 = .ok (.putfield 19, 3) := by decide +kernel
theorem d_Mo_init_37 : decode (yB Y_Mo_init) 37 = .ok (.aload_n 0, 1) := by decide +kernel
theorem d_Mo_init_38 : decode (yB Y_Mo_init) 38 = .ok (.sipush 900, 3) := by decide +kernel
theorem d_Mo_init_41 : decode (yB Y_Mo_init) 41 = .ok (.newarray .int, 2) := by decide +kernel
theorem d_Mo_init_43 : decode (yB Y_Mo_init) 43 = .ok (.putfield 23, 3) := by decide +kernel
theorem d_Mo_init_46 : decode (yB Y_Mo_init) 46 = .ok (.aload_n 0, 1) := by decide +kernel
theorem d_Mo_init_47 : decode (yB Y_Mo_init) 47 = .ok (.bipush 16, 2) := by decide +kernel
theorem d_Mo_init_49 : decode (yB Y_Mo_init) 49 = .ok (.newarray .int, 2) := by decide +kernel
theorem d_Mo_init_51 : decode (yB Y_Mo_init) 51 = .ok (.putfield 26, 3) := by decide +kernel
theorem d_Mo_init_54 : decode (yB Y_Mo_init) 54 = .ok (.aload_n 0, 1) := by decide +kernel
theorem d_Mo_init_55 : decode (yB Y_Mo_init) 55 = .ok (.sipush 800, 3) := by decide +kernel
theorem d_Mo_init_58 : decode (yB Y_Mo_init) 58 = .ok (.newarray .int, 2) := by decide +kernel
theorem d_Mo_init_60 : decode (yB Y_Mo_init) 60 = .ok (.putfield 29, 3) := by decide +kernel
theorem d_Mo_init_63 : decode (yB Y_Mo_init) 63 = .ok (.aload_n 0, 1) := by decide +kernel
theorem d_Mo_init_64 : decode (yB Y_Mo_init) 64 = .ok (.bipush 16, 2) := by decide +kernel
theorem d_Mo_init_66 : decode (yB Y_Mo_init) 66 = .ok (.newarray .int, 2) := by decide +kernel
theorem d_Mo_init_68 : decode (yB Y_Mo_init) 68 = .ok (.putfield 32, 3) := by decide +kernel
theorem d_Mo_init_71 : decode (yB Y_Mo_init) 71 = .ok (.aload_n 0, 1) := by decide +kernel
theorem d_Mo_init_72 : decode (yB Y_Mo_init) 72 = .ok (.sipush 400, 3) := by decide +kernel
theorem d_Mo_init_75 : decode (yB Y_Mo_init) 75 = .ok (.newarray .int, 2) := by decide +kernel
theorem d_Mo_init_77 : decode (yB Y_Mo_init) 77 = .ok (.putfield 35, 3) := by decide +kernel
theorem d_Mo_init_80 : decode (yB Y_Mo_init) 80 = .ok (.aload_n 0, 1) := by decide +kernel
theorem d_Mo_init_81 : decode (yB Y_Mo_init) 81 = .ok (.iconst (-1), 1) := by decide +kernel
theorem d_Mo_init_82 : decode (yB Y_Mo_init) 82 = .ok (.putfield 38, 3) := by decide +kernel
theorem d_Mo_init_85 : decode (yB Y_Mo_init) 85 = .ok (.aload_n 0, 1) := by decide +kernel
theorem d_Mo_init_86 : decode (yB Y_Mo_init) 86 = .ok (.bipush 96, 2) := by decide +kernel
theorem d_Mo_init_88 : decode (yB Y_Mo_init) 88 = .ok (.newarray .int, 2) := by decide +kernel
theorem d_Mo_init_90 : decode (yB Y_Mo_init) 90 = .ok (.putfield 42, 3) := by decide +kernel
theorem d_Mo_init_93 : decode (yB Y_Mo_init) 93 = .ok (.aload_n 0, 1) := by decide +kernel
theorem d_Mo_init_94 : decode (yB Y_Mo_init) 94 = .ok (.sipush 400, 3) := by decide +kernel
theorem d_Mo_init_97 : decode (yB Y_Mo_init) 97 = .ok (.newarray .int, 2) := by decide +kernel
theorem d_Mo_init_99 : decode (yB Y_Mo_init) 99 = .ok (.putfield 45, 3) := by decide +kernel
theorem d_Mo_init_102 : decode (yB Y_Mo_init) 102 = .ok (.aload_n 0, 1) := by decide +kernel
theorem d_Mo_init_103 : decode (yB Y_Mo_init) 103 = .ok (.sipush 400, 3) := by decide +kernel
theorem d_Mo_init_106 : decode (yB Y_Mo_init) 106 = .ok (.newarray .int, 2) := by decide +kernel
theorem d_Mo_init_108 : decode (yB Y_Mo_init) 108 = .ok (.putfield 48, 3) := by decide +kernel
theorem d_Mo_init_111 : decode (yB Y_Mo_init) 111 = .ok (.aload_n 0, 1) := by decide +kernel
theorem d_Mo_init_112 : decode (yB Y_Mo_init) 112 = .ok (.sipush 400, 3) := by decide +kernel
theorem d_Mo_init_115 : decode (yB Y_Mo_init) 115 = .ok (.newarray .int, 2) := by decide +kernel
theorem d_Mo_init_117 : decode (yB Y_Mo_init) 117 = .ok (.putfield 51, 3) := by decide +kernel
theorem d_Mo_init_120 : decode (yB Y_Mo_init) 120 = .ok (.aload_n 0, 1) := by decide +kernel
theorem d_Mo_init_121 : decode (yB Y_Mo_init) 121 = .ok (.sipush 400, 3) := by decide +kernel
theorem d_Mo_init_124 : decode (yB Y_Mo_init) 124 = .ok (.newarray .int, 2) := by decide +kernel
theorem d_Mo_init_126 : decode (yB Y_Mo_init) 126 = .ok (.putfield 54, 3) := by decide +kernel
theorem d_Mo_init_129 : decode (yB Y_Mo_init) 129 = .ok (.aload_n 0, 1) := by decide +kernel
theorem d_Mo_init_130 : decode (yB Y_Mo_init) 130 = .ok (.bipush 9, 2) := by decide +kernel
theorem d_Mo_init_132 : decode (yB Y_Mo_init) 132 = .ok (.newarray .long, 2) := by decide +kernel
theorem d_Mo_init_134 : decode (yB Y_Mo_init) 134 = .ok (.dup, 1) := by decide +kernel
theorem d_Mo_init_135 : decode (yB Y_Mo_init) 135 = .ok (.iconst 0, 1) := by decide +kernel
theorem d_Mo_init_136 : decode (yB Y_Mo_init) 136 = .ok (.ldc2_w 57, 3) := by decide +kernel
theorem d_Mo_init_139 : decode (yB Y_Mo_init) 139 = .ok (.lastore, 1) := by decide +kernel
theorem d_Mo_init_140 : decode (yB Y_Mo_init) 140 = .ok (.dup, 1) := by decide +kernel
theorem d_Mo_init_141 : decode (yB Y_Mo_init) 141 = .ok (.iconst 1, 1) := by decide +kernel
theorem d_Mo_init_142 : decode (yB Y_Mo_init) 142 = .ok (.ldc2_w 59, 3) := by decide +kernel
theorem d_Mo_init_145 : decode (yB Y_Mo_init) 145 = .ok (.lastore, 1) := by decide +kernel
theorem d_Mo_init_146 : decode (yB Y_Mo_init) 146 = .ok (.dup, 1) := by decide +kernel
theorem d_Mo_init_147 : decode (yB Y_Mo_init) 147 = .ok (.iconst 2, 1) := by decide +kernel
theorem d_Mo_init_148 : decode (yB Y_Mo_init) 148 = .ok (.ldc2_w 61, 3) := by decide +kernel
theorem d_Mo_init_151 : decode (yB Y_Mo_init) 151 = .ok (.lastore, 1) := by decide +kernel
theorem d_Mo_init_152 : decode (yB Y_Mo_init) 152 = .ok (.dup, 1) := by decide +kernel
theorem d_Mo_init_153 : decode (yB Y_Mo_init) 153 = .ok (.iconst 3, 1) := by decide +kernel
theorem d_Mo_init_154 : decode (yB Y_Mo_init) 154 = .ok (.ldc2_w 63, 3) := by decide +kernel
theorem d_Mo_init_157 : decode (yB Y_Mo_init) 157 = .ok (.lastore, 1) := by decide +kernel
theorem d_Mo_init_158 : decode (yB Y_Mo_init) 158 = .ok (.dup, 1) := by decide +kernel
theorem d_Mo_init_159 : decode (yB Y_Mo_init) 159 = .ok (.iconst 4, 1) := by decide +kernel
theorem d_Mo_init_160 : decode (yB Y_Mo_init) 160 = .ok (.ldc2_w 65, 3) := by decide +kernel
theorem d_Mo_init_163 : decode (yB Y_Mo_init) 163 = .ok (.lastore, 1) := by decide +kernel
theorem d_Mo_init_164 : decode (yB Y_Mo_init) 164 = .ok (.dup, 1) := by decide +kernel
theorem d_Mo_init_165 : decode (yB Y_Mo_init) 165 = .ok (.iconst 5, 1) := by decide +kernel
theorem d_Mo_init_166 : decode (yB Y_Mo_init) 166 = .ok (.ldc2_w 67, 3) := by decide +kernel
theorem d_Mo_init_169 : decode (yB Y_Mo_init) 169 = .ok (.lastore, 1) := by decide +kernel
theorem d_Mo_init_170 : decode (yB Y_Mo_init) 170 = .ok (.dup, 1) := by decide +kernel
theorem d_Mo_init_171 : decode (yB Y_Mo_init) 171 = .ok (.bipush 6, 2) := by decide +kernel
theorem d_Mo_init_173 : decode (yB Y_Mo_init) 173 = .ok (.ldc2_w 69, 3) := by decide +kernel
theorem d_Mo_init_176 : decode (yB Y_Mo_init) 176 = .ok (.lastore, 1) := by decide +kernel
theorem d_Mo_init_177 : decode (yB Y_Mo_init) 177 = .ok (.dup, 1) := by decide +kernel
theorem d_Mo_init_178 : decode (yB Y_Mo_init) 178 = .ok (.bipush 7, 2) := by decide +kernel
theorem d_Mo_init_180 : decode (yB Y_Mo_init) 180 = .ok (.ldc2_w 71, 3) := by decide +kernel
theorem d_Mo_init_183 : decode (yB Y_Mo_init) 183 = .ok (.lastore, 1) := by decide +kernel
theorem d_Mo_init_184 : decode (yB Y_Mo_init) 184 = .ok (.dup, 1) := by decide +kernel
theorem d_Mo_init_185 : decode (yB Y_Mo_init) 185 = .ok (.bipush 8, 2) := by decide +kernel
theorem d_Mo_init_187 : decode (yB Y_Mo_init) 187 = .ok (.ldc2_w 73, 3) := by decide +kernel
theorem d_Mo_init_190 : decode (yB Y_Mo_init) 190 = .ok (.lastore, 1) := by decide +kernel
theorem d_Mo_init_191 : decode (yB Y_Mo_init) 191 = .ok (.putfield 75, 3) := by decide +kernel
theorem d_Mo_init_194 : decode (yB Y_Mo_init) 194 = .ok (.aload_n 0, 1) := by decide +kernel
theorem d_Mo_init_195 : decode (yB Y_Mo_init) 195 = .ok (.bipush 7, 2) := by decide +kernel
theorem d_Mo_init_197 : decode (yB Y_Mo_init) 197 = .ok (.newarray .long, 2) := by decide +kernel
theorem d_Mo_init_199 : decode (yB Y_Mo_init) 199 = .ok (.dup, 1) := by decide +kernel
theorem d_Mo_init_200 : decode (yB Y_Mo_init) 200 = .ok (.iconst 0, 1) := by decide +kernel
theorem d_Mo_init_201 : decode (yB Y_Mo_init) 201 = .ok (.ldc2_w 69, 3) := by decide +kernel
theorem d_Mo_init_204 : decode (yB Y_Mo_init) 204 = .ok (.lastore, 1) := by decide +kernel
theorem d_Mo_init_205 : decode (yB Y_Mo_init) 205 = .ok (.dup, 1) := by decide +kernel
theorem d_Mo_init_206 : decode (yB Y_Mo_init) 206 = .ok (.iconst 1, 1) := by decide +kernel
theorem d_Mo_init_207 : decode (yB Y_Mo_init) 207 = .ok (.ldc2_w 79, 3) := by decide +kernel
theorem d_Mo_init_210 : decode (yB Y_Mo_init) 210 = .ok (.lastore, 1) := by decide +kernel
theorem d_Mo_init_211 : decode (yB Y_Mo_init) 211 = .ok (.dup, 1) := by decide +kernel
theorem d_Mo_init_212 : decode (yB Y_Mo_init) 212 = .ok (.iconst 2, 1) := by decide +kernel
theorem d_Mo_init_213 : decode (yB Y_Mo_init) 213 = .ok (.ldc2_w 81, 3) := by decide +kernel
theorem d_Mo_init_216 : decode (yB Y_Mo_init) 216 = .ok (.lastore, 1) := by decide +kernel
theorem d_Mo_init_217 : decode (yB Y_Mo_init) 217 = .ok (.dup, 1) := by decide +kernel
theorem d_Mo_init_218 : decode (yB Y_Mo_init) 218 = .ok (.iconst 3, 1) := by decide +kernel
theorem d_Mo_init_219 : decode (yB Y_Mo_init) 219 = .ok (.ldc2_w 83, 3) := by decide +kernel
theorem d_Mo_init_222 : decode (yB Y_Mo_init) 222 = .ok (.lastore, 1) := by decide +kernel
theorem d_Mo_init_223 : decode (yB Y_Mo_init) 223 = .ok (.dup, 1) := by decide +kernel
theorem d_Mo_init_224 : decode (yB Y_Mo_init) 224 = .ok (.iconst 4, 1) := by decide +kernel
theorem d_Mo_init_225 : decode (yB Y_Mo_init) 225 = .ok (.ldc2_w 85, 3) := by decide +kernel
theorem d_Mo_init_228 : decode (yB Y_Mo_init) 228 = .ok (.lastore, 1) := by decide +kernel
theorem d_Mo_init_229 : decode (yB Y_Mo_init) 229 = .ok (.dup, 1) := by decide +kernel
theorem d_Mo_init_230 : decode (yB Y_Mo_init) 230 = .ok (.iconst 5, 1) := by decide +kernel
theorem d_Mo_init_231 : decode (yB Y_Mo_init) 231 = .ok (.ldc2_w 67, 3) := by decide +kernel
theorem d_Mo_init_234 : decode (yB Y_Mo_init) 234 = .ok (.lastore, 1) := by decide +kernel
theorem d_Mo_init_235 : decode (yB Y_Mo_init) 235 = .ok (.dup, 1) := by decide +kernel
theorem d_Mo_init_236 : decode (yB Y_Mo_init) 236 = .ok (.bipush 6, 2) := by decide +kernel
theorem d_Mo_init_238 : decode (yB Y_Mo_init) 238 = .ok (.ldc2_w 87, 3) := by decide +kernel
theorem d_Mo_init_241 : decode (yB Y_Mo_init) 241 = .ok (.lastore, 1) := by decide +kernel
theorem d_Mo_init_242 : decode (yB Y_Mo_init) 242 = .ok (.putfield 89, 3) := by decide +kernel
theorem d_Mo_init_245 : decode (yB Y_Mo_init) 245 = .ok (.aload_n 0, 1) := by decide +kernel
theorem d_Mo_init_246 : decode (yB Y_Mo_init) 246 = .ok (.iconst 4, 1) := by decide +kernel
theorem d_Mo_init_247 : decode (yB Y_Mo_init) 247 = .ok (.newarray .long, 2) := by decide +kernel
theorem d_Mo_init_249 : decode (yB Y_Mo_init) 249 = .ok (.dup, 1) := by decide +kernel
theorem d_Mo_init_250 : decode (yB Y_Mo_init) 250 = .ok (.iconst 0, 1) := by decide +kernel
theorem d_Mo_init_251 : decode (yB Y_Mo_init) 251 = .ok (.ldc2_w 92, 3) := by decide +kernel
theorem d_Mo_init_254 : decode (yB Y_Mo_init) 254 = .ok (.lastore, 1) := by decide +kernel
theorem d_Mo_init_255 : decode (yB Y_Mo_init) 255 = .ok (.dup, 1) := by decide +kernel
theorem d_Mo_init_256 : decode (yB Y_Mo_init) 256 = .ok (.iconst 1, 1) := by decide +kernel
theorem d_Mo_init_257 : decode (yB Y_Mo_init) 257 = .ok (.ldc2_w 94, 3) := by decide +kernel
theorem d_Mo_init_260 : decode (yB Y_Mo_init) 260 = .ok (.lastore, 1) := by decide +kernel
theorem d_Mo_init_261 : decode (yB Y_Mo_init) 261 = .ok (.dup, 1) := by decide +kernel
theorem d_Mo_init_262 : decode (yB Y_Mo_init) 262 = .ok (.iconst 2, 1) := by decide +kernel
theorem d_Mo_init_263 : decode (yB Y_Mo_init) 263 = .ok (.ldc2_w 96, 3) := by decide +kernel
theorem d_Mo_init_266 : decode (yB Y_Mo_init) 266 = .ok (.lastore, 1) := by decide +kernel
theorem d_Mo_init_267 : decode (yB Y_Mo_init) 267 = .ok (.dup, 1) := by decide +kernel
theorem d_Mo_init_268 : decode (yB Y_Mo_init) 268 = .ok (.iconst 3, 1) := by decide +kernel
theorem d_Mo_init_269 : decode (yB Y_Mo_init) 269 = .ok (.ldc2_w 98, 3) := by decide +kernel
theorem d_Mo_init_272 : decode (yB Y_Mo_init) 272 = .ok (.lastore, 1) := by decide +kernel
theorem d_Mo_init_273 : decode (yB Y_Mo_init) 273 = .ok (.putfield 100, 3) := by decide +kernel
theorem d_Mo_init_276 : decode (yB Y_Mo_init) 276 = .ok (.aload_n 0, 1) := by decide +kernel
theorem d_Mo_init_277 : decode (yB Y_Mo_init) 277 = .ok (.bipush 13, 2) := by decide +kernel
theorem d_Mo_init_279 : decode (yB Y_Mo_init) 279 = .ok (.newarray .long, 2) := by decide +kernel
theorem d_Mo_init_281 : decode (yB Y_Mo_init) 281 = .ok (.putfield 103, 3) := by decide +kernel
theorem d_Mo_init_284 : decode (yB Y_Mo_init) 284 = .ok (.aload_n 0, 1) := by decide +kernel
theorem d_Mo_init_285 : decode (yB Y_Mo_init) 285 = .ok (.bipush 13, 2) := by decide +kernel
theorem d_Mo_init_287 : decode (yB Y_Mo_init) 287 = .ok (.newarray .long, 2) := by decide +kernel
theorem d_Mo_init_289 : decode (yB Y_Mo_init) 289 = .ok (.putfield 106, 3) := by decide +kernel
theorem d_Mo_init_292 : decode (yB Y_Mo_init) 292 = .ok (.aload_n 0, 1) := by decide +kernel
theorem d_Mo_init_293 : decode (yB Y_Mo_init) 293 = .ok (.sipush 400, 3) := by decide +kernel
theorem d_Mo_init_296 : decode (yB Y_Mo_init) 296 = .ok (.newarray .long, 2) := by decide +kernel
theorem d_Mo_init_298 : decode (yB Y_Mo_init) 298 = .ok (.putfield 109, 3) := by decide +kernel
theorem d_Mo_init_301 : decode (yB Y_Mo_init) 301 = .ok (.aload_n 0, 1) := by decide +kernel
theorem d_Mo_init_302 : decode (yB Y_Mo_init) 302 = .ok (.bipush 8, 2) := by decide +kernel
theorem d_Mo_init_304 : decode (yB Y_Mo_init) 304 = .ok (.newarray .int, 2) := by decide +kernel
theorem d_Mo_init_306 : decode (yB Y_Mo_init) 306 = .ok (.putfield 112, 3) := by decide +kernel
theorem d_Mo_init_309 : decode (yB Y_Mo_init) 309 = .ok (.aload_n 0, 1) := by decide +kernel
theorem d_Mo_init_310 : decode (yB Y_Mo_init) 310 = .ok (.bipush 24, 2) := by decide +kernel
theorem d_Mo_init_312 : decode (yB Y_Mo_init) 312 = .ok (.newarray .int, 2) := by decide +kernel
theorem d_Mo_init_314 : decode (yB Y_Mo_init) 314 = .ok (.putfield 115, 3) := by decide +kernel
theorem d_Mo_init_317 : decode (yB Y_Mo_init) 317 = .ok (.aload_n 0, 1) := by decide +kernel
theorem d_Mo_init_318 : decode (yB Y_Mo_init) 318 = .ok (.iconst 4, 1) := by decide +kernel
theorem d_Mo_init_319 : decode (yB Y_Mo_init) 319 = .ok (.newarray .int, 2) := by decide +kernel
theorem d_Mo_init_321 : decode (yB Y_Mo_init) 321 = .ok (.putfield 118, 3) := by decide +kernel
theorem d_Mo_init_324 : decode (yB Y_Mo_init) 324 = .ok (.aload_n 0, 1) := by decide +kernel
theorem d_Mo_init_325 : decode (yB Y_Mo_init) 325 = .ok (.iconst 3, 1) := by decide +kernel
theorem d_Mo_init_326 : decode (yB Y_Mo_init) 326 = .ok (.newarray .int, 2) := by decide +kernel
theorem d_Mo_init_328 : decode (yB Y_Mo_init) 328 = .ok (.putfield 121, 3) := by decide +kernel
theorem d_Mo_init_331 : decode (yB Y_Mo_init) 331 = .ok (.aload_n 0, 1) := by decide +kernel
theorem d_Mo_init_332 : decode (yB Y_Mo_init) 332 = .ok (.sipush 256, 3) := by decide +kernel
theorem d_Mo_init_335 : decode (yB Y_Mo_init) 335 = .ok (.newarray .int, 2) := by decide +kernel
theorem d_Mo_init_337 : decode (yB Y_Mo_init) 337 = .ok (.putfield 124, 3) := by decide +kernel
theorem d_Mo_init_340 : decode (yB Y_Mo_init) 340 = .ok (.aload_n 0, 1) := by decide +kernel
theorem d_Mo_init_341 : decode (yB Y_Mo_init) 341 = .ok (.sipush 401, 3) := by decide +kernel
theorem d_Mo_init_344 : decode (yB Y_Mo_init) 344 = .ok (.newarray .int, 2) := by decide +kernel
theorem d_Mo_init_346 : decode (yB Y_Mo_init) 346 = .ok (.putfield 127, 3) := by decide +kernel
theorem d_Mo_init_349 : decode (yB Y_Mo_init) 349 = .ok (.aload_n 0, 1) := by decide +kernel
theorem d_Mo_init_350 : decode (yB Y_Mo_init) 350 = .ok (.bipush 21, 2) := by decide +kernel
theorem d_Mo_init_352 : decode (yB Y_Mo_init) 352 = .ok (.newarray .long, 2) := by decide +kernel
theorem d_Mo_init_354 : decode (yB Y_Mo_init) 354 = .ok (.putfield 130, 3) := by decide +kernel
theorem d_Mo_init_357 : decode (yB Y_Mo_init) 357 = .ok (.aload_n 0, 1) := by decide +kernel
theorem d_Mo_init_358 : decode (yB Y_Mo_init) 358 = .ok (.iconst 4, 1) := by decide +kernel
theorem d_Mo_init_359 : decode (yB Y_Mo_init) 359 = .ok (.newarray .long, 2) := by decide +kernel
theorem d_Mo_init_361 : decode (yB Y_Mo_init) 361 = .ok (.dup, 1) := by decide +kernel
theorem d_Mo_init_362 : decode (yB Y_Mo_init) 362 = .ok (.iconst 0, 1) := by decide +kernel
theorem d_Mo_init_363 : decode (yB Y_Mo_init) 363 = .ok (.ldc2_w 133, 3) := by decide +kernel
theorem d_Mo_init_366 : decode (yB Y_Mo_init) 366 = .ok (.lastore, 1) := by decide +kernel
theorem d_Mo_init_367 : decode (yB Y_Mo_init) 367 = .ok (.dup, 1) := by decide +kernel
theorem d_Mo_init_368 : decode (yB Y_Mo_init) 368 = .ok (.iconst 1, 1) := by decide +kernel
theorem d_Mo_init_369 : decode (yB Y_Mo_init) 369 = .ok (.ldc2_w 135, 3) := by decide +kernel
theorem d_Mo_init_372 : decode (yB Y_Mo_init) 372 = .ok (.lastore, 1) := by decide +kernel
theorem d_Mo_init_373 : decode (yB Y_Mo_init) 373 = .ok (.dup, 1) := by decide +kernel
theorem d_Mo_init_374 : decode (yB Y_Mo_init) 374 = .ok (.iconst 2, 1) := by decide +kernel
theorem d_Mo_init_375 : decode (yB Y_Mo_init) 375 = .ok (.ldc2_w 137, 3) := by decide +kernel
theorem d_Mo_init_378 : decode (yB Y_Mo_init) 378 = .ok (.lastore, 1) := by decide +kernel
theorem d_Mo_init_379 : decode (yB Y_Mo_init) 379 = .ok (.dup, 1) := by decide +kernel
theorem d_Mo_init_380 : decode (yB Y_Mo_init) 380 = .ok (.iconst 3, 1) := by decide +kernel
theorem d_Mo_init_381 : decode (yB Y_Mo_init) 381 = .ok (.ldc2_w 139, 3) := by decide +kernel
theorem d_Mo_init_384 : decode (yB Y_Mo_init) 384 = .ok (.lastore, 1) := by decide +kernel
theorem d_Mo_init_385 : decode (yB Y_Mo_init) 385 = .ok (.putfield 141, 3) := by decide +kernel
theorem d_Mo_init_388 : decode (yB Y_Mo_init) 388 = .ok (.aload_n 0, 1) := by decide +kernel
theorem d_Mo_init_389 : decode (yB Y_Mo_init) 389 = .ok (.bipush 96, 2) := by decide +kernel
theorem d_Mo_init_391 : decode (yB Y_Mo_init) 391 = .ok (.newarray .int, 2) := by decide +kernel
theorem d_Mo_init_393 : decode (yB Y_Mo_init) 393 = .ok (.putfield 144, 3) := by decide +kernel
theorem d_Mo_init_396 : decode (yB Y_Mo_init) 396 = .ok (.aload_n 0, 1) := by decide +kernel
theorem d_Mo_init_397 : decode (yB Y_Mo_init) 397 = .ok (.iconst (-1), 1) := by decide +kernel
theorem d_Mo_init_398 : decode (yB Y_Mo_init) 398 = .ok (.putfield 147, 3) := by decide +kernel
theorem d_Mo_init_401 : decode (yB Y_Mo_init) 401 = .ok (.aload_n 0, 1) := by decide +kernel
theorem d_Mo_init_402 : decode (yB Y_Mo_init) 402 = .ok (.bipush 11, 2) := by decide +kernel
theorem d_Mo_init_404 : decode (yB Y_Mo_init) 404 = .ok (.newarray .int, 2) := by decide +kernel
theorem d_Mo_init_406 : decode (yB Y_Mo_init) 406 = .ok (.putfield 150, 3) := by decide +kernel
theorem d_Mo_init_409 : decode (yB Y_Mo_init) 409 = .ok (.aload_n 0, 1) := by decide +kernel
theorem d_Mo_init_410 : decode (yB Y_Mo_init) 410 = .ok (.iconst (-1), 1) := by decide +kernel
theorem d_Mo_init_411 : decode (yB Y_Mo_init) 411 = .ok (.putfield 153, 3) := by decide +kernel
theorem d_Mo_init_414 : decode (yB Y_Mo_init) 414 = .ok (.aload_n 0, 1) := by decide +kernel
theorem d_Mo_init_415 : decode (yB Y_Mo_init) 415 = .ok (.getfield 13, 3) := by decide +kernel
theorem d_Mo_init_418 : decode (yB Y_Mo_init) 418 = .ok (.iconst 3, 1) := by decide +kernel
theorem d_Mo_init_419 : decode (yB Y_Mo_init) 419 = .ok (.iconst (-1), 1) := by decide +kernel
theorem d_Mo_init_420 : decode (yB Y_Mo_init) 420 = .ok (.iastore, 1) := by decide +kernel
theorem d_Mo_init_421 : decode (yB Y_Mo_init) 421 = .ok (.aload_n 0, 1) := by decide +kernel
theorem d_Mo_init_422 : decode (yB Y_Mo_init) 422 = .ok (.getfield 13, 3) := by decide +kernel
theorem d_Mo_init_425 : decode (yB Y_Mo_init) 425 = .ok (.iconst 5, 1) := by decide +kernel
theorem d_Mo_init_426 : decode (yB Y_Mo_init) 426 = .ok (.iconst 3, 1) := by decide +kernel
theorem d_Mo_init_427 : decode (yB Y_Mo_init) 427 = .ok (.iastore, 1) := by decide +kernel
theorem d_Mo_init_428 : decode (yB Y_Mo_init) 428 = .ok (.aload_n 0, 1) := by decide +kernel
theorem d_Mo_init_429 : decode (yB Y_Mo_init) 429 = .ok (.getfield 13, 3) := by decide +kernel
theorem d_Mo_init_432 : decode (yB Y_Mo_init) 432 = .ok (.bipush 7, 2) := by decide +kernel
theorem d_Mo_init_434 : decode (yB Y_Mo_init) 434 = .ok (.iconst 1, 1) := by decide +kernel
theorem d_Mo_init_435 : decode (yB Y_Mo_init) 435 = .ok (.iastore, 1) := by decide +kernel
theorem d_Mo_init_436 : decode (yB Y_Mo_init) 436 = .ok (.iconst 0, 1) := by decide +kernel
theorem d_Mo_init_437 : decode (yB Y_Mo_init) 437 = .ok (.istore_n 1, 1) := by decide +kernel
theorem d_Mo_init_438 : decode (yB Y_Mo_init) 438 = .ok (.iload_n 1, 1) := by decide +kernel
theorem d_Mo_init_439 : decode (yB Y_Mo_init) 439 = .ok (.bipush 32, 2) := by decide +kernel
theorem d_Mo_init_441 : decode (yB Y_Mo_init) 441 = .ok (.if_icmp .ge 19, 3) := by decide +kernel
theorem d_Mo_init_444 : decode (yB Y_Mo_init) 444 = .ok (.aload_n 0, 1) := by decide +kernel
theorem d_Mo_init_445 : decode (yB Y_Mo_init) 445 = .ok (.getfield 13, 3) := by decide +kernel
theorem d_Mo_init_448 : decode (yB Y_Mo_init) 448 = .ok (.bipush 12, 2) := by decide +kernel
theorem d_Mo_init_450 : decode (yB Y_Mo_init) 450 = .ok (.iload_n 1, 1) := by decide +kernel
theorem d_Mo_init_451 : decode (yB Y_Mo_init) 451 = .ok (.iadd, 1) := by decide +kernel
theorem d_Mo_init_452 : decode (yB Y_Mo_init) 452 = .ok (.iconst 1, 1) := by decide +kernel
theorem d_Mo_init_453 : decode (yB Y_Mo_init) 453 = .ok (.iastore, 1) := by decide +kernel
theorem d_Mo_init_454 : decode (yB Y_Mo_init) 454 = .ok (.iinc 1 1, 3) := by decide +kernel
theorem d_Mo_init_457 : decode (yB Y_Mo_init) 457 = .ok (.goto (-19), 3) := by decide +kernel
theorem d_Mo_init_460 : decode (yB Y_Mo_init) 460 = .ok (.iconst 0, 1) := by decide +kernel
theorem d_Mo_init_461 : decode (yB Y_Mo_init) 461 = .ok (.istore_n 1, 1) := by decide +kernel
theorem d_Mo_init_462 : decode (yB Y_Mo_init) 462 = .ok (.iload_n 1, 1) := by decide +kernel
theorem d_Mo_init_463 : decode (yB Y_Mo_init) 463 = .ok (.bipush 8, 2) := by decide +kernel
theorem d_Mo_init_465 : decode (yB Y_Mo_init) 465 = .ok (.if_icmp .ge 19, 3) := by decide +kernel
theorem d_Mo_init_468 : decode (yB Y_Mo_init) 468 = .ok (.aload_n 0, 1) := by decide +kernel
theorem d_Mo_init_469 : decode (yB Y_Mo_init) 469 = .ok (.getfield 13, 3) := by decide +kernel
theorem d_Mo_init_472 : decode (yB Y_Mo_init) 472 = .ok (.bipush 57, 2) := by decide +kernel
theorem d_Mo_init_474 : decode (yB Y_Mo_init) 474 = .ok (.iload_n 1, 1) := by decide +kernel
theorem d_Mo_init_475 : decode (yB Y_Mo_init) 475 = .ok (.iadd, 1) := by decide +kernel
theorem d_Mo_init_476 : decode (yB Y_Mo_init) 476 = .ok (.iconst (-1), 1) := by decide +kernel
theorem d_Mo_init_477 : decode (yB Y_Mo_init) 477 = .ok (.iastore, 1) := by decide +kernel
theorem d_Mo_init_478 : decode (yB Y_Mo_init) 478 = .ok (.iinc 1 1, 3) := by decide +kernel
theorem d_Mo_init_481 : decode (yB Y_Mo_init) 481 = .ok (.goto (-19), 3) := by decide +kernel
theorem d_Mo_init_484 : decode (yB Y_Mo_init) 484 = .ok (.return_, 1) := by decide +kernel
def F_Mo_init_L462 (n : Nat) (E : zE) (r462 : Nat × Int32 × zS × zH → Option (zS × zH)) (a0 : Nat) (x1 : Int32) (S : zS) (M : zH) : Option (zS × zH) :=
  if 8 ≤ x1 then
    some (S, M)
  else
    (zgR S a0 11 3).bind fun b2 =>
    (zstI S M b2 (57 + x1) (-1)).bind fun m3 =>
    r462 (a0, x1 + 1, S, m3)
def F_Mo_init_b462 (n : Nat) (E : zE) : Nat × Int32 × zS × zH → Option (zS × zH) := zfix (fun r462 s => F_Mo_init_L462 n E r462 s.1 s.2.1 s.2.2.1 s.2.2.2) n
def F_Mo_init_L438 (n : Nat) (E : zE) (r438 : Nat × Int32 × zS × zH → Option (zS × zH)) (a0 : Nat) (x1 : Int32) (S : zS) (M : zH) : Option (zS × zH) :=
  if 32 ≤ x1 then
    F_Mo_init_b462 n E (a0, 0, S, M)
  else
    (zgR S a0 11 3).bind fun b5 =>
    (zstI S M b5 (12 + x1) 1).bind fun m6 =>
    r438 (a0, x1 + 1, S, m6)
def F_Mo_init_b438 (n : Nat) (E : zE) : Nat × Int32 × zS × zH → Option (zS × zH) := zfix (fun r438 s => F_Mo_init_L438 n E r438 s.1 s.2.1 s.2.2.1 s.2.2.2) n
def F_Mo_init (n : Nat) (E : zE) (a0 : Nat) (S : zS) (M : zH) : Option (zS × zH) :=
  (zmkA S M 12 7 7).bind fun q7 =>
  (zpR q7.2.1 a0 11 2 q7.1).bind fun S8 =>
  (zmkA S8 q7.2.2 12 5480 5480).bind fun q9 =>
  (zpR q9.2.1 a0 11 3 q9.1).bind fun S10 =>
  (zmkA S10 q9.2.2 12 10960 10960).bind fun q11 =>
  (zpR q11.2.1 a0 11 4 q11.1).bind fun S12 =>
  (zmkA S12 q11.2.2 13 2 2).bind fun q13 =>
  (zpR q13.2.1 a0 11 5 q13.1).bind fun S14 =>
  (zmkA S14 q13.2.2 12 900 900).bind fun q15 =>
  (zpR q15.2.1 a0 11 6 q15.1).bind fun S16 =>
  (zmkA S16 q15.2.2 12 16 16).bind fun q17 =>
  (zpR q17.2.1 a0 11 7 q17.1).bind fun S18 =>
  (zmkA S18 q17.2.2 12 800 800).bind fun q19 =>
  (zpR q19.2.1 a0 11 9 q19.1).bind fun S20 =>
  (zmkA S20 q19.2.2 12 16 16).bind fun q21 =>
  (zpR q21.2.1 a0 11 10 q21.1).bind fun S22 =>
  (zmkA S22 q21.2.2 12 400 400).bind fun q23 =>
  (zpR q23.2.1 a0 11 12 q23.1).bind fun S24 =>
  (zpI S24 q23.2.2 a0 11 18 (-1)).bind fun m25 =>
  (zmkA S24 m25 12 96 96).bind fun q26 =>
  (zpR q26.2.1 a0 11 22 q26.1).bind fun S27 =>
  (zmkA S27 q26.2.2 12 400 400).bind fun q28 =>
  (zpR q28.2.1 a0 11 24 q28.1).bind fun S29 =>
  (zmkA S29 q28.2.2 12 400 400).bind fun q30 =>
  (zpR q30.2.1 a0 11 25 q30.1).bind fun S31 =>
  (zmkA S31 q30.2.2 12 400 400).bind fun q32 =>
  (zpR q32.2.1 a0 11 27 q32.1).bind fun S33 =>
  (zmkA S33 q32.2.2 12 400 400).bind fun q34 =>
  (zpR q34.2.1 a0 11 28 q34.1).bind fun S35 =>
  (zmkA S35 q34.2.2 15 9 9).bind fun q36 =>
  (zstJ q36.2.1 q36.2.2 q36.1 0 599495).bind fun m37 =>
  (zstJ q36.2.1 m37 q36.1 1 277893).bind fun m38 =>
  (zstJ q36.2.1 m38 q36.1 2 81477).bind fun m39 =>
  (zstJ q36.2.1 m39 q36.1 3 6591876).bind fun m40 =>
  (zstJ q36.2.1 m40 q36.1 4 89238708).bind fun m41 =>
  (zstJ q36.2.1 m41 q36.1 5 12769452).bind fun m42 =>
  (zstJ q36.2.1 m42 q36.1 6 278194).bind fun m43 =>
  (zstJ q36.2.1 m43 q36.1 7 23732).bind fun m44 =>
  (zstJ q36.2.1 m44 q36.1 8 441828).bind fun m45 =>
  (zpR q36.2.1 a0 11 31 q36.1).bind fun S46 =>
  (zmkA S46 m45 15 7 7).bind fun q47 =>
  (zstJ q47.2.1 q47.2.2 q47.1 0 278194).bind fun m48 =>
  (zstJ q47.2.1 m48 q47.1 1 146885).bind fun m49 =>
  (zstJ q47.2.1 m49 q47.1 2 404362868).bind fun m50 =>
  (zstJ q47.2.1 m50 q47.1 3 102407444).bind fun m51 =>
  (zstJ q47.2.1 m51 q47.1 4 677454).bind fun m52 =>
  (zstJ q47.2.1 m52 q47.1 5 12769452).bind fun m53 =>
  (zstJ q47.2.1 m53 q47.1 6 209399).bind fun m54 =>
  (zpR q47.2.1 a0 11 32 q47.1).bind fun S55 =>
  (zmkA S55 m54 15 4 4).bind fun q56 =>
  (zstJ q56.2.1 q56.2.2 q56.1 0 611795).bind fun m57 =>
  (zstJ q56.2.1 m57 q56.1 1 12748147).bind fun m58 =>
  (zstJ q56.2.1 m58 q56.1 2 526131).bind fun m59 =>
  (zstJ q56.2.1 m59 q56.1 3 67155).bind fun m60 =>
  (zpR q56.2.1 a0 11 33 q56.1).bind fun S61 =>
  (zmkA S61 m60 15 13 13).bind fun q62 =>
  (zpR q62.2.1 a0 11 35 q62.1).bind fun S63 =>
  (zmkA S63 q62.2.2 15 13 13).bind fun q64 =>
  (zpR q64.2.1 a0 11 36 q64.1).bind fun S65 =>
  (zmkA S65 q64.2.2 15 400 400).bind fun q66 =>
  (zpR q66.2.1 a0 11 37 q66.1).bind fun S67 =>
  (zmkA S67 q66.2.2 12 8 8).bind fun q68 =>
  (zpR q68.2.1 a0 11 41 q68.1).bind fun S69 =>
  (zmkA S69 q68.2.2 12 24 24).bind fun q70 =>
  (zpR q70.2.1 a0 11 42 q70.1).bind fun S71 =>
  (zmkA S71 q70.2.2 12 4 4).bind fun q72 =>
  (zpR q72.2.1 a0 11 43 q72.1).bind fun S73 =>
  (zmkA S73 q72.2.2 12 3 3).bind fun q74 =>
  (zpR q74.2.1 a0 11 44 q74.1).bind fun S75 =>
  (zmkA S75 q74.2.2 12 256 256).bind fun q76 =>
  (zpR q76.2.1 a0 11 45 q76.1).bind fun S77 =>
  (zmkA S77 q76.2.2 12 401 401).bind fun q78 =>
  (zpR q78.2.1 a0 11 46 q78.1).bind fun S79 =>
  (zmkA S79 q78.2.2 15 21 21).bind fun q80 =>
  (zpR q80.2.1 a0 11 47 q80.1).bind fun S81 =>
  (zmkA S81 q80.2.2 15 4 4).bind fun q82 =>
  (zstJ q82.2.1 q82.2.2 q82.1 0 2505835).bind fun m83 =>
  (zstJ q82.2.1 m83 q82.1 1 594989).bind fun m84 =>
  (zstJ q82.2.1 m84 q82.1 2 19636).bind fun m85 =>
  (zstJ q82.2.1 m85 q82.1 3 525939).bind fun m86 =>
  (zpR q82.2.1 a0 11 48 q82.1).bind fun S87 =>
  (zmkA S87 m86 12 96 96).bind fun q88 =>
  (zpR q88.2.1 a0 11 49 q88.1).bind fun S89 =>
  (zpI S89 q88.2.2 a0 11 52 (-1)).bind fun m90 =>
  (zmkA S89 m90 12 11 11).bind fun q91 =>
  (zpR q91.2.1 a0 11 55 q91.1).bind fun S92 =>
  (zpI S92 q91.2.2 a0 11 56 (-1)).bind fun m93 =>
  (zgR S92 a0 11 3).bind fun b94 =>
  (zstI S92 m93 b94 3 (-1)).bind fun m95 =>
  (zstI S92 m95 b94 5 3).bind fun m96 =>
  (zstI S92 m96 b94 7 1).bind fun m97 =>
  F_Mo_init_b438 n E (a0, 0, S92, m97)
theorem K_Mo_init_L462 (n : Nat) (E : zE) (r462 : Nat × Int32 × zS × zH → Option (zS × zH)) (a0 : Nat) (x1 : Int32) (S : zS) (M : zH) (S' : zS) (M' : zH) (hr462 : ∀ (a0 : Nat) (x1 : Int32) (S : zS) (M : zH), r462 (a0, x1, S, M) = some (S', M') → zG E Y_Mo_init (none, S', M') 462 [(0, .ref a0), (1, .int x1)] [] S M 30 21551) (h : F_Mo_init_L462 n E r462 a0 x1 S M = some (S', M')) : zG E Y_Mo_init (none, S', M') 462 [(0, .ref a0), (1, .int x1)] [] S M 30 21551 := by
  unfold F_Mo_init_L462 at h
  refine zi_iload_n 1 d_Mo_init_462 rfl ?_
  refine zi_bipush 8 d_Mo_init_463 rfl ?_
  refine zi_icmp_ge (tgt := 484) d_Mo_init_465 rfl (fun c1 => ?_) (fun c1 => ?_)
  · rw [if_pos c1] at h
    cases h
    exact zo_ret d_Mo_init_484 (Nat.le_of_ble_eq_true rfl) (Nat.le_of_ble_eq_true rfl) rfl
  · rw [if_neg c1] at h
    refine zi_aload_n 0 d_Mo_init_468 rfl ?_
    obtain ⟨b2, eb2, h⟩ := zbind h
    refine zo_getR 472 zkd_11 3 d_Mo_init_469 eb2 rfl tw_1234 rfl ?_
    refine zi_bipush 57 d_Mo_init_472 rfl ?_
    refine zi_iload_n 1 d_Mo_init_474 rfl ?_
    refine zi_iadd d_Mo_init_475 ?_
    refine zi_iconst (-1) d_Mo_init_476 rfl ?_
    obtain ⟨m3, em3, h⟩ := zbind h
    refine zo_iast 478 d_Mo_init_477 em3 rfl ?_
    refine zi_iinc 1 (x1 + 1) [(1, .int (x1 + 1)), (0, .ref a0)] d_Mo_init_478 rfl rfl (by decide) rfl ?_
    refine zi_goto (tgt := 462) d_Mo_init_481 rfl ?_
    refine zi_lo [(0, .ref a0), (1, .int (x1 + 1))] [1, 0] rfl ?_
    exact hr462 a0 (x1 + 1) S m3 h
theorem K_Mo_init_b462 (n : Nat) (E : zE) (a0 : Nat) (x1 : Int32) (S : zS) (M : zH) (S' : zS) (M' : zH)  (h : F_Mo_init_b462 n E (a0, x1, S, M) = some (S', M')) : zG E Y_Mo_init (none, S', M') 462 [(0, .ref a0), (1, .int x1)] [] S M 30 21551 := by
  have key : ∀ (k : Nat) (a0 : Nat) (x1 : Int32) (S : zS) (M : zH), zfix (fun r462 s => F_Mo_init_L462 n E r462 s.1 s.2.1 s.2.2.1 s.2.2.2) k (a0, x1, S, M) = some (S', M') → zG E Y_Mo_init (none, S', M') 462 [(0, .ref a0), (1, .int x1)] [] S M 30 21551 := by
    intro k
    induction k with
    | zero => intro a0 x1 S M h; cases h
    | succ k ih => intro a0 x1 S M h; exact K_Mo_init_L462 n E _ a0 x1 S M S' M'  (fun a0 x1 S M h => ih a0 x1 S M h) h
  exact key n a0 x1 S M h
theorem K_Mo_init_L438 (n : Nat) (E : zE) (r438 : Nat × Int32 × zS × zH → Option (zS × zH)) (a0 : Nat) (x1 : Int32) (S : zS) (M : zH) (S' : zS) (M' : zH) (hr438 : ∀ (a0 : Nat) (x1 : Int32) (S : zS) (M : zH), r438 (a0, x1, S, M) = some (S', M') → zG E Y_Mo_init (none, S', M') 438 [(0, .ref a0), (1, .int x1)] [] S M 30 21551) (h : F_Mo_init_L438 n E r438 a0 x1 S M = some (S', M')) : zG E Y_Mo_init (none, S', M') 438 [(0, .ref a0), (1, .int x1)] [] S M 30 21551 := by
  unfold F_Mo_init_L438 at h
  refine zi_iload_n 1 d_Mo_init_438 rfl ?_
  refine zi_bipush 32 d_Mo_init_439 rfl ?_
  refine zi_icmp_ge (tgt := 460) d_Mo_init_441 rfl (fun c4 => ?_) (fun c4 => ?_)
  · rw [if_pos c4] at h
    refine zi_iconst 0 d_Mo_init_460 rfl ?_
    refine zi_istore_n [(1, .int 0), (0, .ref a0)] d_Mo_init_461 (by decide) rfl ?_
    refine zi_lo [(0, .ref a0), (1, .int 0)] [1, 0] rfl ?_
    exact K_Mo_init_b462 n E a0 0 S M S' M'  h
  · rw [if_neg c4] at h
    refine zi_aload_n 0 d_Mo_init_444 rfl ?_
    obtain ⟨b5, eb5, h⟩ := zbind h
    refine zo_getR 448 zkd_11 3 d_Mo_init_445 eb5 rfl tw_1234 rfl ?_
    refine zi_bipush 12 d_Mo_init_448 rfl ?_
    refine zi_iload_n 1 d_Mo_init_450 rfl ?_
    refine zi_iadd d_Mo_init_451 ?_
    refine zi_iconst 1 d_Mo_init_452 rfl ?_
    obtain ⟨m6, em6, h⟩ := zbind h
    refine zo_iast 454 d_Mo_init_453 em6 rfl ?_
    refine zi_iinc 1 (x1 + 1) [(1, .int (x1 + 1)), (0, .ref a0)] d_Mo_init_454 rfl rfl (by decide) rfl ?_
    refine zi_goto (tgt := 438) d_Mo_init_457 rfl ?_
    refine zi_lo [(0, .ref a0), (1, .int (x1 + 1))] [1, 0] rfl ?_
    exact hr438 a0 (x1 + 1) S m6 h
theorem K_Mo_init_b438 (n : Nat) (E : zE) (a0 : Nat) (x1 : Int32) (S : zS) (M : zH) (S' : zS) (M' : zH)  (h : F_Mo_init_b438 n E (a0, x1, S, M) = some (S', M')) : zG E Y_Mo_init (none, S', M') 438 [(0, .ref a0), (1, .int x1)] [] S M 30 21551 := by
  have key : ∀ (k : Nat) (a0 : Nat) (x1 : Int32) (S : zS) (M : zH), zfix (fun r438 s => F_Mo_init_L438 n E r438 s.1 s.2.1 s.2.2.1 s.2.2.2) k (a0, x1, S, M) = some (S', M') → zG E Y_Mo_init (none, S', M') 438 [(0, .ref a0), (1, .int x1)] [] S M 30 21551 := by
    intro k
    induction k with
    | zero => intro a0 x1 S M h; cases h
    | succ k ih => intro a0 x1 S M h; exact K_Mo_init_L438 n E _ a0 x1 S M S' M'  (fun a0 x1 S M h => ih a0 x1 S M h) h
  exact key n a0 x1 S M h
theorem K_Mo_init (n : Nat) (E : zE) (a0 : Nat) (S : zS) (M : zH) (S' : zS) (M' : zH)  (h : F_Mo_init n E a0 S M = some (S', M')) : zG E Y_Mo_init (none, S', M') 0 [(0, .ref a0)] [] S M 0 0 := by
  unfold F_Mo_init at h
  refine zi_aload_n 0 d_Mo_init_0 rfl ?_
  refine zi_objInit d_Mo_init_1 tw_1208 tw_28 zobj (by decide) (Nat.le_of_ble_eq_true rfl) ?_
  refine zi_aload_n 0 d_Mo_init_4 rfl ?_
  refine zi_bipush 7 d_Mo_init_5 rfl ?_
  obtain ⟨q7, eq7, h⟩ := zbind h
  refine zo_newarr (pos := 0) 9 d_Mo_init_7 eq7 (by decide) rfl rfl (by decide) tw_129 (Nat.le_of_ble_eq_true rfl) (Nat.le_of_ble_eq_true rfl) rfl rfl rfl ?_
  obtain ⟨S8, eS8, h⟩ := zbind h
  refine zo_putR 12 zkd_11 2 d_Mo_init_9 eS8 rfl rfl rfl rfl ⟨rfl, rfl⟩ tw_1233 rfl ?_
  refine zi_aload_n 0 d_Mo_init_12 rfl ?_
  refine zi_sipush 5480 d_Mo_init_13 rfl ?_
  obtain ⟨q9, eq9, h⟩ := zbind h
  refine zo_newarr (pos := 0) 18 d_Mo_init_16 eq9 (by decide) rfl rfl (by decide) tw_129 (Nat.le_of_ble_eq_true rfl) (Nat.le_of_ble_eq_true rfl) rfl rfl rfl ?_
  obtain ⟨S10, eS10, h⟩ := zbind h
  refine zo_putR 21 zkd_11 3 d_Mo_init_18 eS10 rfl rfl rfl rfl ⟨rfl, rfl⟩ tw_1234 rfl ?_
  refine zi_aload_n 0 d_Mo_init_21 rfl ?_
  refine zi_sipush 10960 d_Mo_init_22 rfl ?_
  obtain ⟨q11, eq11, h⟩ := zbind h
  refine zo_newarr (pos := 0) 27 d_Mo_init_25 eq11 (by decide) rfl rfl (by decide) tw_129 (Nat.le_of_ble_eq_true rfl) (Nat.le_of_ble_eq_true rfl) rfl rfl rfl ?_
  obtain ⟨S12, eS12, h⟩ := zbind h
  refine zo_putR 30 zkd_11 4 d_Mo_init_27 eS12 rfl rfl rfl rfl ⟨rfl, rfl⟩ tw_1235 rfl ?_
  refine zi_aload_n 0 d_Mo_init_30 rfl ?_
  refine zi_iconst 2 d_Mo_init_31 rfl ?_
  obtain ⟨q13, eq13, h⟩ := zbind h
  refine zo_newarr (pos := 1) 34 d_Mo_init_32 eq13 (by decide) rfl rfl (by decide) tw_130 (Nat.le_of_ble_eq_true rfl) (Nat.le_of_ble_eq_true rfl) rfl rfl rfl ?_
  obtain ⟨S14, eS14, h⟩ := zbind h
  refine zo_putR 37 zkd_11 5 d_Mo_init_34 eS14 rfl rfl rfl rfl ⟨rfl, rfl⟩ tw_1236 rfl ?_
  refine zi_aload_n 0 d_Mo_init_37 rfl ?_
  refine zi_sipush 900 d_Mo_init_38 rfl ?_
  obtain ⟨q15, eq15, h⟩ := zbind h
  refine zo_newarr (pos := 0) 43 d_Mo_init_41 eq15 (by decide) rfl rfl (by decide) tw_129 (Nat.le_of_ble_eq_true rfl) (Nat.le_of_ble_eq_true rfl) rfl rfl rfl ?_
  obtain ⟨S16, eS16, h⟩ := zbind h
  refine zo_putR 46 zkd_11 6 d_Mo_init_43 eS16 rfl rfl rfl rfl ⟨rfl, rfl⟩ tw_1237 rfl ?_
  refine zi_aload_n 0 d_Mo_init_46 rfl ?_
  refine zi_bipush 16 d_Mo_init_47 rfl ?_
  obtain ⟨q17, eq17, h⟩ := zbind h
  refine zo_newarr (pos := 0) 51 d_Mo_init_49 eq17 (by decide) rfl rfl (by decide) tw_129 (Nat.le_of_ble_eq_true rfl) (Nat.le_of_ble_eq_true rfl) rfl rfl rfl ?_
  obtain ⟨S18, eS18, h⟩ := zbind h
  refine zo_putR 54 zkd_11 7 d_Mo_init_51 eS18 rfl rfl rfl rfl ⟨rfl, rfl⟩ tw_1238 rfl ?_
  refine zi_aload_n 0 d_Mo_init_54 rfl ?_
  refine zi_sipush 800 d_Mo_init_55 rfl ?_
  obtain ⟨q19, eq19, h⟩ := zbind h
  refine zo_newarr (pos := 0) 60 d_Mo_init_58 eq19 (by decide) rfl rfl (by decide) tw_129 (Nat.le_of_ble_eq_true rfl) (Nat.le_of_ble_eq_true rfl) rfl rfl rfl ?_
  obtain ⟨S20, eS20, h⟩ := zbind h
  refine zo_putR 63 zkd_11 9 d_Mo_init_60 eS20 rfl rfl rfl rfl ⟨rfl, rfl⟩ tw_1240 rfl ?_
  refine zi_aload_n 0 d_Mo_init_63 rfl ?_
  refine zi_bipush 16 d_Mo_init_64 rfl ?_
  obtain ⟨q21, eq21, h⟩ := zbind h
  refine zo_newarr (pos := 0) 68 d_Mo_init_66 eq21 (by decide) rfl rfl (by decide) tw_129 (Nat.le_of_ble_eq_true rfl) (Nat.le_of_ble_eq_true rfl) rfl rfl rfl ?_
  obtain ⟨S22, eS22, h⟩ := zbind h
  refine zo_putR 71 zkd_11 10 d_Mo_init_68 eS22 rfl rfl rfl rfl ⟨rfl, rfl⟩ tw_1241 rfl ?_
  refine zi_aload_n 0 d_Mo_init_71 rfl ?_
  refine zi_sipush 400 d_Mo_init_72 rfl ?_
  obtain ⟨q23, eq23, h⟩ := zbind h
  refine zo_newarr (pos := 0) 77 d_Mo_init_75 eq23 (by decide) rfl rfl (by decide) tw_129 (Nat.le_of_ble_eq_true rfl) (Nat.le_of_ble_eq_true rfl) rfl rfl rfl ?_
  obtain ⟨S24, eS24, h⟩ := zbind h
  refine zo_putR 80 zkd_11 12 d_Mo_init_77 eS24 rfl rfl rfl rfl ⟨rfl, rfl⟩ tw_1243 rfl ?_
  refine zi_aload_n 0 d_Mo_init_80 rfl ?_
  refine zi_iconst (-1) d_Mo_init_81 rfl ?_
  obtain ⟨m25, em25, h⟩ := zbind h
  refine zo_putI 85 zkd_11 18 d_Mo_init_82 em25 rfl rfl rfl tw_1249 rfl ?_
  refine zi_aload_n 0 d_Mo_init_85 rfl ?_
  refine zi_bipush 96 d_Mo_init_86 rfl ?_
  obtain ⟨q26, eq26, h⟩ := zbind h
  refine zo_newarr (pos := 0) 90 d_Mo_init_88 eq26 (by decide) rfl rfl (by decide) tw_129 (Nat.le_of_ble_eq_true rfl) (Nat.le_of_ble_eq_true rfl) rfl rfl rfl ?_
  obtain ⟨S27, eS27, h⟩ := zbind h
  refine zo_putR 93 zkd_11 22 d_Mo_init_90 eS27 rfl rfl rfl rfl ⟨rfl, rfl⟩ tw_1253 rfl ?_
  refine zi_aload_n 0 d_Mo_init_93 rfl ?_
  refine zi_sipush 400 d_Mo_init_94 rfl ?_
  obtain ⟨q28, eq28, h⟩ := zbind h
  refine zo_newarr (pos := 0) 99 d_Mo_init_97 eq28 (by decide) rfl rfl (by decide) tw_129 (Nat.le_of_ble_eq_true rfl) (Nat.le_of_ble_eq_true rfl) rfl rfl rfl ?_
  obtain ⟨S29, eS29, h⟩ := zbind h
  refine zo_putR 102 zkd_11 24 d_Mo_init_99 eS29 rfl rfl rfl rfl ⟨rfl, rfl⟩ tw_1255 rfl ?_
  refine zi_aload_n 0 d_Mo_init_102 rfl ?_
  refine zi_sipush 400 d_Mo_init_103 rfl ?_
  obtain ⟨q30, eq30, h⟩ := zbind h
  refine zo_newarr (pos := 0) 108 d_Mo_init_106 eq30 (by decide) rfl rfl (by decide) tw_129 (Nat.le_of_ble_eq_true rfl) (Nat.le_of_ble_eq_true rfl) rfl rfl rfl ?_
  obtain ⟨S31, eS31, h⟩ := zbind h
  refine zo_putR 111 zkd_11 25 d_Mo_init_108 eS31 rfl rfl rfl rfl ⟨rfl, rfl⟩ tw_1256 rfl ?_
  refine zi_aload_n 0 d_Mo_init_111 rfl ?_
  refine zi_sipush 400 d_Mo_init_112 rfl ?_
  obtain ⟨q32, eq32, h⟩ := zbind h
  refine zo_newarr (pos := 0) 117 d_Mo_init_115 eq32 (by decide) rfl rfl (by decide) tw_129 (Nat.le_of_ble_eq_true rfl) (Nat.le_of_ble_eq_true rfl) rfl rfl rfl ?_
  obtain ⟨S33, eS33, h⟩ := zbind h
  refine zo_putR 120 zkd_11 27 d_Mo_init_117 eS33 rfl rfl rfl rfl ⟨rfl, rfl⟩ tw_1258 rfl ?_
  refine zi_aload_n 0 d_Mo_init_120 rfl ?_
  refine zi_sipush 400 d_Mo_init_121 rfl ?_
  obtain ⟨q34, eq34, h⟩ := zbind h
  refine zo_newarr (pos := 0) 126 d_Mo_init_124 eq34 (by decide) rfl rfl (by decide) tw_129 (Nat.le_of_ble_eq_true rfl) (Nat.le_of_ble_eq_true rfl) rfl rfl rfl ?_
  obtain ⟨S35, eS35, h⟩ := zbind h
  refine zo_putR 129 zkd_11 28 d_Mo_init_126 eS35 rfl rfl rfl rfl ⟨rfl, rfl⟩ tw_1259 rfl ?_
  refine zi_aload_n 0 d_Mo_init_129 rfl ?_
  refine zi_bipush 9 d_Mo_init_130 rfl ?_
  obtain ⟨q36, eq36, h⟩ := zbind h
  refine zo_newarr (pos := 3) 134 d_Mo_init_132 eq36 (by decide) rfl rfl (by decide) tw_331 (Nat.le_of_ble_eq_true rfl) (Nat.le_of_ble_eq_true rfl) rfl rfl rfl ?_
  refine zi_dup d_Mo_init_134 rfl ?_
  refine zi_iconst 0 d_Mo_init_135 rfl ?_
  refine zi_ldc2 d_Mo_init_136 tw_1209 ?_
  obtain ⟨m37, em37, h⟩ := zbind h
  refine zo_last 140 d_Mo_init_139 em37 rfl ?_
  refine zi_dup d_Mo_init_140 rfl ?_
  refine zi_iconst 1 d_Mo_init_141 rfl ?_
  refine zi_ldc2 d_Mo_init_142 tw_1210 ?_
  obtain ⟨m38, em38, h⟩ := zbind h
  refine zo_last 146 d_Mo_init_145 em38 rfl ?_
  refine zi_dup d_Mo_init_146 rfl ?_
  refine zi_iconst 2 d_Mo_init_147 rfl ?_
  refine zi_ldc2 d_Mo_init_148 tw_1211 ?_
  obtain ⟨m39, em39, h⟩ := zbind h
  refine zo_last 152 d_Mo_init_151 em39 rfl ?_
  refine zi_dup d_Mo_init_152 rfl ?_
  refine zi_iconst 3 d_Mo_init_153 rfl ?_
  refine zi_ldc2 d_Mo_init_154 tw_1212 ?_
  obtain ⟨m40, em40, h⟩ := zbind h
  refine zo_last 158 d_Mo_init_157 em40 rfl ?_
  refine zi_dup d_Mo_init_158 rfl ?_
  refine zi_iconst 4 d_Mo_init_159 rfl ?_
  refine zi_ldc2 d_Mo_init_160 tw_1213 ?_
  obtain ⟨m41, em41, h⟩ := zbind h
  refine zo_last 164 d_Mo_init_163 em41 rfl ?_
  refine zi_dup d_Mo_init_164 rfl ?_
  refine zi_iconst 5 d_Mo_init_165 rfl ?_
  refine zi_ldc2 d_Mo_init_166 tw_1214 ?_
  obtain ⟨m42, em42, h⟩ := zbind h
  refine zo_last 170 d_Mo_init_169 em42 rfl ?_
  refine zi_dup d_Mo_init_170 rfl ?_
  refine zi_bipush 6 d_Mo_init_171 rfl ?_
  refine zi_ldc2 d_Mo_init_173 tw_1215 ?_
  obtain ⟨m43, em43, h⟩ := zbind h
  refine zo_last 177 d_Mo_init_176 em43 rfl ?_
  refine zi_dup d_Mo_init_177 rfl ?_
  refine zi_bipush 7 d_Mo_init_178 rfl ?_
  refine zi_ldc2 d_Mo_init_180 tw_1216 ?_
  obtain ⟨m44, em44, h⟩ := zbind h
  refine zo_last 184 d_Mo_init_183 em44 rfl ?_
  refine zi_dup d_Mo_init_184 rfl ?_
  refine zi_bipush 8 d_Mo_init_185 rfl ?_
  refine zi_ldc2 d_Mo_init_187 tw_1217 ?_
  obtain ⟨m45, em45, h⟩ := zbind h
  refine zo_last 191 d_Mo_init_190 em45 rfl ?_
  obtain ⟨S46, eS46, h⟩ := zbind h
  refine zo_putR 194 zkd_11 31 d_Mo_init_191 eS46 rfl rfl rfl rfl ⟨rfl, rfl⟩ tw_1262 rfl ?_
  refine zi_aload_n 0 d_Mo_init_194 rfl ?_
  refine zi_bipush 7 d_Mo_init_195 rfl ?_
  obtain ⟨q47, eq47, h⟩ := zbind h
  refine zo_newarr (pos := 3) 199 d_Mo_init_197 eq47 (by decide) rfl rfl (by decide) tw_331 (Nat.le_of_ble_eq_true rfl) (Nat.le_of_ble_eq_true rfl) rfl rfl rfl ?_
  refine zi_dup d_Mo_init_199 rfl ?_
  refine zi_iconst 0 d_Mo_init_200 rfl ?_
  refine zi_ldc2 d_Mo_init_201 tw_1215 ?_
  obtain ⟨m48, em48, h⟩ := zbind h
  refine zo_last 205 d_Mo_init_204 em48 rfl ?_
  refine zi_dup d_Mo_init_205 rfl ?_
  refine zi_iconst 1 d_Mo_init_206 rfl ?_
  refine zi_ldc2 d_Mo_init_207 tw_1218 ?_
  obtain ⟨m49, em49, h⟩ := zbind h
  refine zo_last 211 d_Mo_init_210 em49 rfl ?_
  refine zi_dup d_Mo_init_211 rfl ?_
  refine zi_iconst 2 d_Mo_init_212 rfl ?_
  refine zi_ldc2 d_Mo_init_213 tw_1219 ?_
  obtain ⟨m50, em50, h⟩ := zbind h
  refine zo_last 217 d_Mo_init_216 em50 rfl ?_
  refine zi_dup d_Mo_init_217 rfl ?_
  refine zi_iconst 3 d_Mo_init_218 rfl ?_
  refine zi_ldc2 d_Mo_init_219 tw_1220 ?_
  obtain ⟨m51, em51, h⟩ := zbind h
  refine zo_last 223 d_Mo_init_222 em51 rfl ?_
  refine zi_dup d_Mo_init_223 rfl ?_
  refine zi_iconst 4 d_Mo_init_224 rfl ?_
  refine zi_ldc2 d_Mo_init_225 tw_1221 ?_
  obtain ⟨m52, em52, h⟩ := zbind h
  refine zo_last 229 d_Mo_init_228 em52 rfl ?_
  refine zi_dup d_Mo_init_229 rfl ?_
  refine zi_iconst 5 d_Mo_init_230 rfl ?_
  refine zi_ldc2 d_Mo_init_231 tw_1214 ?_
  obtain ⟨m53, em53, h⟩ := zbind h
  refine zo_last 235 d_Mo_init_234 em53 rfl ?_
  refine zi_dup d_Mo_init_235 rfl ?_
  refine zi_bipush 6 d_Mo_init_236 rfl ?_
  refine zi_ldc2 d_Mo_init_238 tw_1222 ?_
  obtain ⟨m54, em54, h⟩ := zbind h
  refine zo_last 242 d_Mo_init_241 em54 rfl ?_
  obtain ⟨S55, eS55, h⟩ := zbind h
  refine zo_putR 245 zkd_11 32 d_Mo_init_242 eS55 rfl rfl rfl rfl ⟨rfl, rfl⟩ tw_1263 rfl ?_
  refine zi_aload_n 0 d_Mo_init_245 rfl ?_
  refine zi_iconst 4 d_Mo_init_246 rfl ?_
  obtain ⟨q56, eq56, h⟩ := zbind h
  refine zo_newarr (pos := 3) 249 d_Mo_init_247 eq56 (by decide) rfl rfl (by decide) tw_331 (Nat.le_of_ble_eq_true rfl) (Nat.le_of_ble_eq_true rfl) rfl rfl rfl ?_
  refine zi_dup d_Mo_init_249 rfl ?_
  refine zi_iconst 0 d_Mo_init_250 rfl ?_
  refine zi_ldc2 d_Mo_init_251 tw_1223 ?_
  obtain ⟨m57, em57, h⟩ := zbind h
  refine zo_last 255 d_Mo_init_254 em57 rfl ?_
  refine zi_dup d_Mo_init_255 rfl ?_
  refine zi_iconst 1 d_Mo_init_256 rfl ?_
  refine zi_ldc2 d_Mo_init_257 tw_1224 ?_
  obtain ⟨m58, em58, h⟩ := zbind h
  refine zo_last 261 d_Mo_init_260 em58 rfl ?_
  refine zi_dup d_Mo_init_261 rfl ?_
  refine zi_iconst 2 d_Mo_init_262 rfl ?_
  refine zi_ldc2 d_Mo_init_263 tw_1225 ?_
  obtain ⟨m59, em59, h⟩ := zbind h
  refine zo_last 267 d_Mo_init_266 em59 rfl ?_
  refine zi_dup d_Mo_init_267 rfl ?_
  refine zi_iconst 3 d_Mo_init_268 rfl ?_
  refine zi_ldc2 d_Mo_init_269 tw_1226 ?_
  obtain ⟨m60, em60, h⟩ := zbind h
  refine zo_last 273 d_Mo_init_272 em60 rfl ?_
  obtain ⟨S61, eS61, h⟩ := zbind h
  refine zo_putR 276 zkd_11 33 d_Mo_init_273 eS61 rfl rfl rfl rfl ⟨rfl, rfl⟩ tw_1264 rfl ?_
  refine zi_aload_n 0 d_Mo_init_276 rfl ?_
  refine zi_bipush 13 d_Mo_init_277 rfl ?_
  obtain ⟨q62, eq62, h⟩ := zbind h
  refine zo_newarr (pos := 3) 281 d_Mo_init_279 eq62 (by decide) rfl rfl (by decide) tw_331 (Nat.le_of_ble_eq_true rfl) (Nat.le_of_ble_eq_true rfl) rfl rfl rfl ?_
  obtain ⟨S63, eS63, h⟩ := zbind h
  refine zo_putR 284 zkd_11 35 d_Mo_init_281 eS63 rfl rfl rfl rfl ⟨rfl, rfl⟩ tw_1266 rfl ?_
  refine zi_aload_n 0 d_Mo_init_284 rfl ?_
  refine zi_bipush 13 d_Mo_init_285 rfl ?_
  obtain ⟨q64, eq64, h⟩ := zbind h
  refine zo_newarr (pos := 3) 289 d_Mo_init_287 eq64 (by decide) rfl rfl (by decide) tw_331 (Nat.le_of_ble_eq_true rfl) (Nat.le_of_ble_eq_true rfl) rfl rfl rfl ?_
  obtain ⟨S65, eS65, h⟩ := zbind h
  refine zo_putR 292 zkd_11 36 d_Mo_init_289 eS65 rfl rfl rfl rfl ⟨rfl, rfl⟩ tw_1267 rfl ?_
  refine zi_aload_n 0 d_Mo_init_292 rfl ?_
  refine zi_sipush 400 d_Mo_init_293 rfl ?_
  obtain ⟨q66, eq66, h⟩ := zbind h
  refine zo_newarr (pos := 3) 298 d_Mo_init_296 eq66 (by decide) rfl rfl (by decide) tw_331 (Nat.le_of_ble_eq_true rfl) (Nat.le_of_ble_eq_true rfl) rfl rfl rfl ?_
  obtain ⟨S67, eS67, h⟩ := zbind h
  refine zo_putR 301 zkd_11 37 d_Mo_init_298 eS67 rfl rfl rfl rfl ⟨rfl, rfl⟩ tw_1268 rfl ?_
  refine zi_aload_n 0 d_Mo_init_301 rfl ?_
  refine zi_bipush 8 d_Mo_init_302 rfl ?_
  obtain ⟨q68, eq68, h⟩ := zbind h
  refine zo_newarr (pos := 0) 306 d_Mo_init_304 eq68 (by decide) rfl rfl (by decide) tw_129 (Nat.le_of_ble_eq_true rfl) (Nat.le_of_ble_eq_true rfl) rfl rfl rfl ?_
  obtain ⟨S69, eS69, h⟩ := zbind h
  refine zo_putR 309 zkd_11 41 d_Mo_init_306 eS69 rfl rfl rfl rfl ⟨rfl, rfl⟩ tw_1272 rfl ?_
  refine zi_aload_n 0 d_Mo_init_309 rfl ?_
  refine zi_bipush 24 d_Mo_init_310 rfl ?_
  obtain ⟨q70, eq70, h⟩ := zbind h
  refine zo_newarr (pos := 0) 314 d_Mo_init_312 eq70 (by decide) rfl rfl (by decide) tw_129 (Nat.le_of_ble_eq_true rfl) (Nat.le_of_ble_eq_true rfl) rfl rfl rfl ?_
  obtain ⟨S71, eS71, h⟩ := zbind h
  refine zo_putR 317 zkd_11 42 d_Mo_init_314 eS71 rfl rfl rfl rfl ⟨rfl, rfl⟩ tw_1273 rfl ?_
  refine zi_aload_n 0 d_Mo_init_317 rfl ?_
  refine zi_iconst 4 d_Mo_init_318 rfl ?_
  obtain ⟨q72, eq72, h⟩ := zbind h
  refine zo_newarr (pos := 0) 321 d_Mo_init_319 eq72 (by decide) rfl rfl (by decide) tw_129 (Nat.le_of_ble_eq_true rfl) (Nat.le_of_ble_eq_true rfl) rfl rfl rfl ?_
  obtain ⟨S73, eS73, h⟩ := zbind h
  refine zo_putR 324 zkd_11 43 d_Mo_init_321 eS73 rfl rfl rfl rfl ⟨rfl, rfl⟩ tw_1274 rfl ?_
  refine zi_aload_n 0 d_Mo_init_324 rfl ?_
  refine zi_iconst 3 d_Mo_init_325 rfl ?_
  obtain ⟨q74, eq74, h⟩ := zbind h
  refine zo_newarr (pos := 0) 328 d_Mo_init_326 eq74 (by decide) rfl rfl (by decide) tw_129 (Nat.le_of_ble_eq_true rfl) (Nat.le_of_ble_eq_true rfl) rfl rfl rfl ?_
  obtain ⟨S75, eS75, h⟩ := zbind h
  refine zo_putR 331 zkd_11 44 d_Mo_init_328 eS75 rfl rfl rfl rfl ⟨rfl, rfl⟩ tw_1275 rfl ?_
  refine zi_aload_n 0 d_Mo_init_331 rfl ?_
  refine zi_sipush 256 d_Mo_init_332 rfl ?_
  obtain ⟨q76, eq76, h⟩ := zbind h
  refine zo_newarr (pos := 0) 337 d_Mo_init_335 eq76 (by decide) rfl rfl (by decide) tw_129 (Nat.le_of_ble_eq_true rfl) (Nat.le_of_ble_eq_true rfl) rfl rfl rfl ?_
  obtain ⟨S77, eS77, h⟩ := zbind h
  refine zo_putR 340 zkd_11 45 d_Mo_init_337 eS77 rfl rfl rfl rfl ⟨rfl, rfl⟩ tw_1276 rfl ?_
  refine zi_aload_n 0 d_Mo_init_340 rfl ?_
  refine zi_sipush 401 d_Mo_init_341 rfl ?_
  obtain ⟨q78, eq78, h⟩ := zbind h
  refine zo_newarr (pos := 0) 346 d_Mo_init_344 eq78 (by decide) rfl rfl (by decide) tw_129 (Nat.le_of_ble_eq_true rfl) (Nat.le_of_ble_eq_true rfl) rfl rfl rfl ?_
  obtain ⟨S79, eS79, h⟩ := zbind h
  refine zo_putR 349 zkd_11 46 d_Mo_init_346 eS79 rfl rfl rfl rfl ⟨rfl, rfl⟩ tw_1277 rfl ?_
  refine zi_aload_n 0 d_Mo_init_349 rfl ?_
  refine zi_bipush 21 d_Mo_init_350 rfl ?_
  obtain ⟨q80, eq80, h⟩ := zbind h
  refine zo_newarr (pos := 3) 354 d_Mo_init_352 eq80 (by decide) rfl rfl (by decide) tw_331 (Nat.le_of_ble_eq_true rfl) (Nat.le_of_ble_eq_true rfl) rfl rfl rfl ?_
  obtain ⟨S81, eS81, h⟩ := zbind h
  refine zo_putR 357 zkd_11 47 d_Mo_init_354 eS81 rfl rfl rfl rfl ⟨rfl, rfl⟩ tw_1278 rfl ?_
  refine zi_aload_n 0 d_Mo_init_357 rfl ?_
  refine zi_iconst 4 d_Mo_init_358 rfl ?_
  obtain ⟨q82, eq82, h⟩ := zbind h
  refine zo_newarr (pos := 3) 361 d_Mo_init_359 eq82 (by decide) rfl rfl (by decide) tw_331 (Nat.le_of_ble_eq_true rfl) (Nat.le_of_ble_eq_true rfl) rfl rfl rfl ?_
  refine zi_dup d_Mo_init_361 rfl ?_
  refine zi_iconst 0 d_Mo_init_362 rfl ?_
  refine zi_ldc2 d_Mo_init_363 tw_1227 ?_
  obtain ⟨m83, em83, h⟩ := zbind h
  refine zo_last 367 d_Mo_init_366 em83 rfl ?_
  refine zi_dup d_Mo_init_367 rfl ?_
  refine zi_iconst 1 d_Mo_init_368 rfl ?_
  refine zi_ldc2 d_Mo_init_369 tw_1228 ?_
  obtain ⟨m84, em84, h⟩ := zbind h
  refine zo_last 373 d_Mo_init_372 em84 rfl ?_
  refine zi_dup d_Mo_init_373 rfl ?_
  refine zi_iconst 2 d_Mo_init_374 rfl ?_
  refine zi_ldc2 d_Mo_init_375 tw_1229 ?_
  obtain ⟨m85, em85, h⟩ := zbind h
  refine zo_last 379 d_Mo_init_378 em85 rfl ?_
  refine zi_dup d_Mo_init_379 rfl ?_
  refine zi_iconst 3 d_Mo_init_380 rfl ?_
  refine zi_ldc2 d_Mo_init_381 tw_1230 ?_
  obtain ⟨m86, em86, h⟩ := zbind h
  refine zo_last 385 d_Mo_init_384 em86 rfl ?_
  obtain ⟨S87, eS87, h⟩ := zbind h
  refine zo_putR 388 zkd_11 48 d_Mo_init_385 eS87 rfl rfl rfl rfl ⟨rfl, rfl⟩ tw_1279 rfl ?_
  refine zi_aload_n 0 d_Mo_init_388 rfl ?_
  refine zi_bipush 96 d_Mo_init_389 rfl ?_
  obtain ⟨q88, eq88, h⟩ := zbind h
  refine zo_newarr (pos := 0) 393 d_Mo_init_391 eq88 (by decide) rfl rfl (by decide) tw_129 (Nat.le_of_ble_eq_true rfl) (Nat.le_of_ble_eq_true rfl) rfl rfl rfl ?_
  obtain ⟨S89, eS89, h⟩ := zbind h
  refine zo_putR 396 zkd_11 49 d_Mo_init_393 eS89 rfl rfl rfl rfl ⟨rfl, rfl⟩ tw_1280 rfl ?_
  refine zi_aload_n 0 d_Mo_init_396 rfl ?_
  refine zi_iconst (-1) d_Mo_init_397 rfl ?_
  obtain ⟨m90, em90, h⟩ := zbind h
  refine zo_putI 401 zkd_11 52 d_Mo_init_398 em90 rfl rfl rfl tw_1283 rfl ?_
  refine zi_aload_n 0 d_Mo_init_401 rfl ?_
  refine zi_bipush 11 d_Mo_init_402 rfl ?_
  obtain ⟨q91, eq91, h⟩ := zbind h
  refine zo_newarr (pos := 0) 406 d_Mo_init_404 eq91 (by decide) rfl rfl (by decide) tw_129 (Nat.le_of_ble_eq_true rfl) (Nat.le_of_ble_eq_true rfl) rfl rfl rfl ?_
  obtain ⟨S92, eS92, h⟩ := zbind h
  refine zo_putR 409 zkd_11 55 d_Mo_init_406 eS92 rfl rfl rfl rfl ⟨rfl, rfl⟩ tw_1286 rfl ?_
  refine zi_aload_n 0 d_Mo_init_409 rfl ?_
  refine zi_iconst (-1) d_Mo_init_410 rfl ?_
  obtain ⟨m93, em93, h⟩ := zbind h
  refine zo_putI 414 zkd_11 56 d_Mo_init_411 em93 rfl rfl rfl tw_1287 rfl ?_
  refine zi_aload_n 0 d_Mo_init_414 rfl ?_
  obtain ⟨b94, eb94, h⟩ := zbind h
  refine zo_getR 418 zkd_11 3 d_Mo_init_415 eb94 rfl tw_1234 rfl ?_
  refine zi_iconst 3 d_Mo_init_418 rfl ?_
  refine zi_iconst (-1) d_Mo_init_419 rfl ?_
  obtain ⟨m95, em95, h⟩ := zbind h
  refine zo_iast 421 d_Mo_init_420 em95 rfl ?_
  refine zi_aload_n 0 d_Mo_init_421 rfl ?_
  refine zo_getR 425 zkd_11 3 d_Mo_init_422 eb94 rfl tw_1234 rfl ?_
  refine zi_iconst 5 d_Mo_init_425 rfl ?_
  refine zi_iconst 3 d_Mo_init_426 rfl ?_
  obtain ⟨m96, em96, h⟩ := zbind h
  refine zo_iast 428 d_Mo_init_427 em96 rfl ?_
  refine zi_aload_n 0 d_Mo_init_428 rfl ?_
  refine zo_getR 432 zkd_11 3 d_Mo_init_429 eb94 rfl tw_1234 rfl ?_
  refine zi_bipush 7 d_Mo_init_432 rfl ?_
  refine zi_iconst 1 d_Mo_init_434 rfl ?_
  obtain ⟨m97, em97, h⟩ := zbind h
  refine zo_iast 436 d_Mo_init_435 em97 rfl ?_
  refine zi_iconst 0 d_Mo_init_436 rfl ?_
  refine zi_istore_n [(1, .int 0), (0, .ref a0)] d_Mo_init_437 (by decide) rfl ?_
  refine zi_lo [(0, .ref a0), (1, .int 0)] [1, 0] rfl ?_
  exact K_Mo_init_b438 n E a0 0 S92 m97 S' M'  h
theorem C_Mo_init (n : Nat) (E : zE) (a0 : Nat) (S : zS) (M : zH) (S' : zS) (M' : zH) (h : F_Mo_init n E a0 S M = some (S', M')) : zC E Y_Mo_init [.ref a0] S M (none, S', M') :=
  zC.of (Or.inl (show plainName "NightColanderModel" = true by decide)) (Nat.le_of_ble_eq_true rfl) (trivial) (K_Mo_init n E a0 S M S' M' h)
theorem d_Mo_putBack_0 : decode (yB Y_Mo_putBack) 0 = .ok (.iconst 0, 1) := by decide +kernel
theorem d_Mo_putBack_1 : decode (yB Y_Mo_putBack) 1 = .ok (.istore_n 2, 1) := by decide +kernel
theorem d_Mo_putBack_2 : decode (yB Y_Mo_putBack) 2 = .ok (.iload_n 2, 1) := by decide +kernel
theorem d_Mo_putBack_3 : decode (yB Y_Mo_putBack) 3 = .ok (.bipush 50, 2) := by decide +kernel
theorem d_Mo_putBack_5 : decode (yB Y_Mo_putBack) 5 = .ok (.if_icmp .ge 28, 3) := by decide +kernel
theorem d_Mo_putBack_8 : decode (yB Y_Mo_putBack) 8 = .ok (.aload_n 0, 1) := by decide +kernel
theorem d_Mo_putBack_9 : decode (yB Y_Mo_putBack) 9 = .ok (.getfield 13, 3) := by decide +kernel
theorem d_Mo_putBack_12 : decode (yB Y_Mo_putBack) 12 = .ok (.iconst 4, 1) := by decide +kernel
theorem d_Mo_putBack_13 : decode (yB Y_Mo_putBack) 13 = .ok (.iload_n 2, 1) := by decide +kernel
theorem d_Mo_putBack_14 : decode (yB Y_Mo_putBack) 14 = .ok (.iadd, 1) := by decide +kernel
theorem d_Mo_putBack_15 : decode (yB Y_Mo_putBack) 15 = .ok (.aload_n 0, 1) := by decide +kernel
theorem d_Mo_putBack_16 : decode (yB Y_Mo_putBack) 16 = .ok (.getfield 23, 3) := by decide +kernel
theorem d_Mo_putBack_19 : decode (yB Y_Mo_putBack) 19 = .ok (.bipush 50, 2) := by decide +kernel
theorem d_Mo_putBack_21 : decode (yB Y_Mo_putBack) 21 = .ok (.iload_n 1, 1) := by decide +kernel
theorem d_Mo_putBack_22 : decode (yB Y_Mo_putBack) 22 = .ok (.imul, 1) := by decide +kernel
theorem d_Mo_putBack_23 : decode (yB Y_Mo_putBack) 23 = .ok (.iload_n 2, 1) := by decide +kernel
theorem d_Mo_putBack_24 : decode (yB Y_Mo_putBack) 24 = .ok (.iadd, 1) := by decide +kernel
theorem d_Mo_putBack_25 : decode (yB Y_Mo_putBack) 25 = .ok (.iaload, 1) := by decide +kernel
theorem d_Mo_putBack_26 : decode (yB Y_Mo_putBack) 26 = .ok (.iastore, 1) := by decide +kernel
theorem d_Mo_putBack_27 : decode (yB Y_Mo_putBack) 27 = .ok (.iinc 2 1, 3) := by decide +kernel
theorem d_Mo_putBack_30 : decode (yB Y_Mo_putBack) 30 = .ok (.goto (-28), 3) := by decide +kernel
theorem d_Mo_putBack_33 : decode (yB Y_Mo_putBack) 33 = .ok (.return_, 1) := by decide +kernel
def F_Mo_putBack_L2 (n : Nat) (E : zE) (S : zS) (r2 : Nat × Int32 × Int32 × zH → Option (zH)) (a0 : Nat) (x1 : Int32) (x2 : Int32) (M : zH) : Option (zH) :=
  if 50 ≤ x2 then
    some (M)
  else
    (zgR S a0 11 3).bind fun b2 =>
    (zgR S a0 11 6).bind fun b3 =>
    (zldI S M b3 ((50 * x1) + x2)).bind fun v4 =>
    (zstI S M b2 (4 + x2) v4).bind fun m5 =>
    r2 (a0, x1, x2 + 1, m5)
def F_Mo_putBack_b2 (n : Nat) (E : zE) (S : zS) : Nat × Int32 × Int32 × zH → Option (zH) := zfix (fun r2 s => F_Mo_putBack_L2 n E S r2 s.1 s.2.1 s.2.2.1 s.2.2.2) n
def F_Mo_putBack (n : Nat) (E : zE) (S : zS) (a0 : Nat) (x1 : Int32) (M : zH) : Option (zH) :=
  F_Mo_putBack_b2 n E S (a0, x1, 0, M)
theorem K_Mo_putBack_L2 (n : Nat) (E : zE) (S : zS) (r2 : Nat × Int32 × Int32 × zH → Option (zH)) (a0 : Nat) (x1 : Int32) (x2 : Int32) (M : zH) (M' : zH) (hr2 : ∀ (a0 : Nat) (x1 : Int32) (x2 : Int32) (M : zH), r2 (a0, x1, x2, M) = some M' → zG E Y_Mo_putBack (none, S, M') 2 [(0, .ref a0), (1, .int x1), (2, .int x2)] [] S M 0 0) (h : F_Mo_putBack_L2 n E S r2 a0 x1 x2 M = some M') : zG E Y_Mo_putBack (none, S, M') 2 [(0, .ref a0), (1, .int x1), (2, .int x2)] [] S M 0 0 := by
  unfold F_Mo_putBack_L2 at h
  refine zi_iload_n 2 d_Mo_putBack_2 rfl ?_
  refine zi_bipush 50 d_Mo_putBack_3 rfl ?_
  refine zi_icmp_ge (tgt := 33) d_Mo_putBack_5 rfl (fun c1 => ?_) (fun c1 => ?_)
  · rw [if_pos c1] at h
    cases h
    exact zo_ret d_Mo_putBack_33 (Nat.le_of_ble_eq_true rfl) (Nat.le_of_ble_eq_true rfl) rfl
  · rw [if_neg c1] at h
    refine zi_aload_n 0 d_Mo_putBack_8 rfl ?_
    obtain ⟨b2, eb2, h⟩ := zbind h
    refine zo_getR 12 zkd_11 3 d_Mo_putBack_9 eb2 rfl tw_1234 rfl ?_
    refine zi_iconst 4 d_Mo_putBack_12 rfl ?_
    refine zi_iload_n 2 d_Mo_putBack_13 rfl ?_
    refine zi_iadd d_Mo_putBack_14 ?_
    refine zi_aload_n 0 d_Mo_putBack_15 rfl ?_
    obtain ⟨b3, eb3, h⟩ := zbind h
    refine zo_getR 19 zkd_11 6 d_Mo_putBack_16 eb3 rfl tw_1237 rfl ?_
    refine zi_bipush 50 d_Mo_putBack_19 rfl ?_
    refine zi_iload_n 1 d_Mo_putBack_21 rfl ?_
    refine zi_imul d_Mo_putBack_22 ?_
    refine zi_iload_n 2 d_Mo_putBack_23 rfl ?_
    refine zi_iadd d_Mo_putBack_24 ?_
    obtain ⟨v4, ev4, h⟩ := zbind h
    refine zo_iald 26 d_Mo_putBack_25 ev4 rfl ?_
    obtain ⟨m5, em5, h⟩ := zbind h
    refine zo_iast 27 d_Mo_putBack_26 em5 rfl ?_
    refine zi_iinc 2 (x2 + 1) [(2, .int (x2 + 1)), (0, .ref a0), (1, .int x1)] d_Mo_putBack_27 rfl rfl (by decide) rfl ?_
    refine zi_goto (tgt := 2) d_Mo_putBack_30 rfl ?_
    refine zi_lo [(0, .ref a0), (1, .int x1), (2, .int (x2 + 1))] [1, 2, 0] rfl ?_
    exact hr2 a0 x1 (x2 + 1) m5 h
theorem K_Mo_putBack_b2 (n : Nat) (E : zE) (S : zS) (a0 : Nat) (x1 : Int32) (x2 : Int32) (M : zH) (M' : zH)  (h : F_Mo_putBack_b2 n E S (a0, x1, x2, M) = some M') : zG E Y_Mo_putBack (none, S, M') 2 [(0, .ref a0), (1, .int x1), (2, .int x2)] [] S M 0 0 := by
  have key : ∀ (k : Nat) (a0 : Nat) (x1 : Int32) (x2 : Int32) (M : zH), zfix (fun r2 s => F_Mo_putBack_L2 n E S r2 s.1 s.2.1 s.2.2.1 s.2.2.2) k (a0, x1, x2, M) = some M' → zG E Y_Mo_putBack (none, S, M') 2 [(0, .ref a0), (1, .int x1), (2, .int x2)] [] S M 0 0 := by
    intro k
    induction k with
    | zero => intro a0 x1 x2 M h; cases h
    | succ k ih => intro a0 x1 x2 M h; exact K_Mo_putBack_L2 n E S _ a0 x1 x2 M M'  (fun a0 x1 x2 M h => ih a0 x1 x2 M h) h
  exact key n a0 x1 x2 M h
theorem K_Mo_putBack (n : Nat) (E : zE) (S : zS) (a0 : Nat) (x1 : Int32) (M : zH) (M' : zH)  (h : F_Mo_putBack n E S a0 x1 M = some M') : zG E Y_Mo_putBack (none, S, M') 0 [(0, .ref a0), (1, .int x1)] [] S M 0 0 := by
  unfold F_Mo_putBack at h
  refine zi_iconst 0 d_Mo_putBack_0 rfl ?_
  refine zi_istore_n [(2, .int 0), (0, .ref a0), (1, .int x1)] d_Mo_putBack_1 (by decide) rfl ?_
  refine zi_lo [(0, .ref a0), (1, .int x1), (2, .int 0)] [1, 2, 0] rfl ?_
  exact K_Mo_putBack_b2 n E S a0 x1 0 M M'  h
theorem C_Mo_putBack (n : Nat) (E : zE) (S : zS) (a0 : Nat) (x1 : Int32) (M : zH) (M' : zH) (h : F_Mo_putBack n E S a0 x1 M = some M') : zC E Y_Mo_putBack [.ref a0, .int x1] S M (none, S, M') :=
  zC.of (Or.inl (show plainName "NightColanderModel" = true by decide)) (Nat.le_of_ble_eq_true rfl) (trivial) (K_Mo_putBack n E S a0 x1 M M' h)
theorem d_Mo_tell_0 : decode (yB Y_Mo_tell) 0 = .ok (.aload_n 0, 1) := by decide +kernel
theorem d_Mo_tell_1 : decode (yB Y_Mo_tell) 1 = .ok (.iload_n 1, 1) := by decide +kernel
theorem d_Mo_tell_2 : decode (yB Y_Mo_tell) 2 = .ok (.ifCond .ge 7, 3) := by decide +kernel
theorem d_Mo_tell_5 : decode (yB Y_Mo_tell) 5 = .ok (.iload_n 1, 1) := by decide +kernel
theorem d_Mo_tell_6 : decode (yB Y_Mo_tell) 6 = .ok (.goto 4, 3) := by decide +kernel
theorem d_Mo_tell_9 : decode (yB Y_Mo_tell) 9 = .ok (.iconst 0, 1) := by decide +kernel
theorem d_Mo_tell_10 : decode (yB Y_Mo_tell) 10 = .ok (.putfield 159, 3) := by decide +kernel
theorem d_Mo_tell_13 : decode (yB Y_Mo_tell) 13 = .ok (.iload_n 1, 1) := by decide +kernel
theorem d_Mo_tell_14 : decode (yB Y_Mo_tell) 14 = .ok (.ifCond .ge 14, 3) := by decide +kernel
theorem d_Mo_tell_17 : decode (yB Y_Mo_tell) 17 = .ok (.aload_n 0, 1) := by decide +kernel
theorem d_Mo_tell_18 : decode (yB Y_Mo_tell) 18 = .ok (.getfield 7, 3) := by decide +kernel
theorem d_Mo_tell_21 : decode (yB Y_Mo_tell) 21 = .ok (.iload_n 1, 1) := by decide +kernel
theorem d_Mo_tell_22 : decode (yB Y_Mo_tell) 22 = .ok (.ineg, 1) := by decide +kernel
theorem d_Mo_tell_23 : decode (yB Y_Mo_tell) 23 = .ok (.dup2, 1) := by decide +kernel
theorem d_Mo_tell_24 : decode (yB Y_Mo_tell) 24 = .ok (.iaload, 1) := by decide +kernel
theorem d_Mo_tell_25 : decode (yB Y_Mo_tell) 25 = .ok (.iconst 1, 1) := by decide +kernel
theorem d_Mo_tell_26 : decode (yB Y_Mo_tell) 26 = .ok (.iadd, 1) := by decide +kernel
theorem d_Mo_tell_27 : decode (yB Y_Mo_tell) 27 = .ok (.iastore, 1) := by decide +kernel
theorem d_Mo_tell_28 : decode (yB Y_Mo_tell) 28 = .ok (.iload_n 1, 1) := by decide +kernel
theorem d_Mo_tell_29 : decode (yB Y_Mo_tell) 29 = .ok (.ireturn, 1) := by decide +kernel
def F_Mo_tell_b10 (n : Nat) (E : zE) (S : zS) (a0 : Nat) (x1 : Int32) (s0 : Int32) (u1 : Nat) (M : zH) : Option (Int32 × zH) :=
  (zpI S M u1 11 1 s0).bind fun m1 =>
  if 0 ≤ x1 then
    some (x1, m1)
  else
    (zgR S a0 11 2).bind fun b3 =>
    (zldI S m1 b3 (-x1)).bind fun v4 =>
    (zstI S m1 b3 (-x1) (v4 + 1)).bind fun m5 =>
    some (x1, m5)
def F_Mo_tell (n : Nat) (E : zE) (S : zS) (a0 : Nat) (x1 : Int32) (M : zH) : Option (Int32 × zH) :=
  if 0 ≤ x1 then
    F_Mo_tell_b10 n E S a0 x1 0 a0 M
  else
    F_Mo_tell_b10 n E S a0 x1 x1 a0 M
theorem K_Mo_tell_b10 (n : Nat) (E : zE) (S : zS) (a0 : Nat) (x1 : Int32) (s0 : Int32) (u1 : Nat) (M : zH) (r : Int32) (M' : zH)  (h : F_Mo_tell_b10 n E S a0 x1 s0 u1 M = some (r, M')) : zG E Y_Mo_tell (some (.int r), S, M') 10 [(0, .ref a0), (1, .int x1)] [.int s0, .ref u1] S M 0 0 := by
  unfold F_Mo_tell_b10 at h
  obtain ⟨m1, em1, h⟩ := zbind h
  refine zo_putI 13 zkd_11 1 d_Mo_tell_10 em1 rfl rfl rfl tw_1232 rfl ?_
  refine zi_iload_n 1 d_Mo_tell_13 rfl ?_
  refine zi_if_ge (tgt := 28) d_Mo_tell_14 rfl (fun c2 => ?_) (fun c2 => ?_)
  · rw [if_pos c2] at h
    refine zi_iload_n 1 d_Mo_tell_28 rfl ?_
    cases h
    exact zo_ret d_Mo_tell_29 (Nat.le_of_ble_eq_true rfl) (Nat.le_of_ble_eq_true rfl) rfl
  · rw [if_neg c2] at h
    refine zi_aload_n 0 d_Mo_tell_17 rfl ?_
    obtain ⟨b3, eb3, h⟩ := zbind h
    refine zo_getR 21 zkd_11 2 d_Mo_tell_18 eb3 rfl tw_1233 rfl ?_
    refine zi_iload_n 1 d_Mo_tell_21 rfl ?_
    refine zi_ineg d_Mo_tell_22 ?_
    refine zi_dup2 d_Mo_tell_23 rfl rfl ?_
    obtain ⟨v4, ev4, h⟩ := zbind h
    refine zo_iald 25 d_Mo_tell_24 ev4 rfl ?_
    refine zi_iconst 1 d_Mo_tell_25 rfl ?_
    refine zi_iadd d_Mo_tell_26 ?_
    obtain ⟨m5, em5, h⟩ := zbind h
    refine zo_iast 28 d_Mo_tell_27 em5 rfl ?_
    refine zi_iload_n 1 d_Mo_tell_28 rfl ?_
    cases h
    exact zo_ret d_Mo_tell_29 (Nat.le_of_ble_eq_true rfl) (Nat.le_of_ble_eq_true rfl) rfl
theorem K_Mo_tell (n : Nat) (E : zE) (S : zS) (a0 : Nat) (x1 : Int32) (M : zH) (r : Int32) (M' : zH)  (h : F_Mo_tell n E S a0 x1 M = some (r, M')) : zG E Y_Mo_tell (some (.int r), S, M') 0 [(0, .ref a0), (1, .int x1)] [] S M 0 0 := by
  unfold F_Mo_tell at h
  refine zi_aload_n 0 d_Mo_tell_0 rfl ?_
  refine zi_iload_n 1 d_Mo_tell_1 rfl ?_
  refine zi_if_ge (tgt := 9) d_Mo_tell_2 rfl (fun c6 => ?_) (fun c6 => ?_)
  · rw [if_pos c6] at h
    refine zi_iconst 0 d_Mo_tell_9 rfl ?_
    refine zi_lo [(0, .ref a0), (1, .int x1)] [0, 1] rfl ?_
    exact K_Mo_tell_b10 n E S a0 x1 0 a0 M r M'  h
  · rw [if_neg c6] at h
    refine zi_iload_n 1 d_Mo_tell_5 rfl ?_
    refine zi_goto (tgt := 10) d_Mo_tell_6 rfl ?_
    refine zi_lo [(0, .ref a0), (1, .int x1)] [0, 1] rfl ?_
    exact K_Mo_tell_b10 n E S a0 x1 x1 a0 M r M'  h
theorem C_Mo_tell (n : Nat) (E : zE) (S : zS) (a0 : Nat) (x1 : Int32) (M : zH) (r : Int32) (M' : zH) (h : F_Mo_tell n E S a0 x1 M = some (r, M')) : zC E Y_Mo_tell [.ref a0, .int x1] S M (some (.int r), S, M') :=
  zC.of (Or.inl (show plainName "NightColanderModel" = true by decide)) (Nat.le_of_ble_eq_true rfl) (trivial) (K_Mo_tell n E S a0 x1 M r M' h)
theorem d_Mo_undo_0 : decode (yB Y_Mo_undo) 0 = .ok (.aload_n 0, 1) := by decide +kernel
theorem d_Mo_undo_1 : decode (yB Y_Mo_undo) 1 = .ok (.iconst 0, 1) := by decide +kernel
theorem d_Mo_undo_2 : decode (yB Y_Mo_undo) 2 = .ok (.putfield 156, 3) := by decide +kernel
theorem d_Mo_undo_5 : decode (yB Y_Mo_undo) 5 = .ok (.aload_n 0, 1) := by decide +kernel
theorem d_Mo_undo_6 : decode (yB Y_Mo_undo) 6 = .ok (.getfield 162, 3) := by decide +kernel
theorem d_Mo_undo_9 : decode (yB Y_Mo_undo) 9 = .ok (.ifCond .ne 10, 3) := by decide +kernel
theorem d_Mo_undo_12 : decode (yB Y_Mo_undo) 12 = .ok (.aload_n 0, 1) := by decide +kernel
theorem d_Mo_undo_13 : decode (yB Y_Mo_undo) 13 = .ok (.bipush (-3), 2) := by decide +kernel
theorem d_Mo_undo_15 : decode (yB Y_Mo_undo) 15 = .ok (.invokevirtual 165, 3) := by decide +kernel
theorem d_Mo_undo_18 : decode (yB Y_Mo_undo) 18 = .ok (.ireturn, 1) := by decide +kernel
theorem d_Mo_undo_19 : decode (yB Y_Mo_undo) 19 = .ok (.aload_n 0, 1) := by decide +kernel
theorem d_Mo_undo_20 : decode (yB Y_Mo_undo) 20 = .ok (.dup, 1) := by decide +kernel
theorem d_Mo_undo_21 : decode (yB Y_Mo_undo) 21 = .ok (.getfield 162, 3) := by decide +kernel
theorem d_Mo_undo_24 : decode (yB Y_Mo_undo) 24 = .ok (.iconst 1, 1) := by decide +kernel
theorem d_Mo_undo_25 : decode (yB Y_Mo_undo) 25 = .ok (.isub, 1) := by decide +kernel
theorem d_Mo_undo_26 : decode (yB Y_Mo_undo) 26 = .ok (.putfield 162, 3) := by decide +kernel
theorem d_Mo_undo_29 : decode (yB Y_Mo_undo) 29 = .ok (.aload_n 0, 1) := by decide +kernel
theorem d_Mo_undo_30 : decode (yB Y_Mo_undo) 30 = .ok (.aload_n 0, 1) := by decide +kernel
theorem d_Mo_undo_31 : decode (yB Y_Mo_undo) 31 = .ok (.getfield 162, 3) := by decide +kernel
theorem d_Mo_undo_34 : decode (yB Y_Mo_undo) 34 = .ok (.invokevirtual 173, 3) := by decide +kernel
theorem d_Mo_undo_37 : decode (yB Y_Mo_undo) 37 = .ok (.aload_n 0, 1) := by decide +kernel
theorem d_Mo_undo_38 : decode (yB Y_Mo_undo) 38 = .ok (.aload_n 0, 1) := by decide +kernel
theorem d_Mo_undo_39 : decode (yB Y_Mo_undo) 39 = .ok (.getfield 26, 3) := by decide +kernel
theorem d_Mo_undo_42 : decode (yB Y_Mo_undo) 42 = .ok (.aload_n 0, 1) := by decide +kernel
theorem d_Mo_undo_43 : decode (yB Y_Mo_undo) 43 = .ok (.getfield 162, 3) := by decide +kernel
theorem d_Mo_undo_46 : decode (yB Y_Mo_undo) 46 = .ok (.iaload, 1) := by decide +kernel
theorem d_Mo_undo_47 : decode (yB Y_Mo_undo) 47 = .ok (.invokevirtual 165, 3) := by decide +kernel
theorem d_Mo_undo_50 : decode (yB Y_Mo_undo) 50 = .ok (.ireturn, 1) := by decide +kernel
def F_Mo_undo (n : Nat) (E : zE) (S : zS) (a0 : Nat) (M : zH) : Option (Int32 × zH) :=
  (zpI S M a0 11 0 0).bind fun m1 =>
  (zgI S m1 a0 11 8).bind fun v2 =>
  if v2 = 0 then
    (F_Mo_tell n E S a0 (-3) m1).bind fun q4 =>
    some (q4.1, q4.2)
  else
    (zgI S m1 a0 11 8).bind fun v5 =>
    (zpI S m1 a0 11 8 (v5 - 1)).bind fun m6 =>
    (zgI S m6 a0 11 8).bind fun v7 =>
    (F_Mo_putBack n E S a0 v7 m6).bind fun q8 =>
    (zgR S a0 11 7).bind fun b9 =>
    (zgI S q8 a0 11 8).bind fun v10 =>
    (zldI S q8 b9 v10).bind fun v11 =>
    (F_Mo_tell n E S a0 v11 q8).bind fun q12 =>
    some (q12.1, q12.2)
theorem K_Mo_undo (n : Nat) (E : zE) (S : zS) (a0 : Nat) (M : zH) (r : Int32) (M' : zH)  (h : F_Mo_undo n E S a0 M = some (r, M')) : zG E Y_Mo_undo (some (.int r), S, M') 0 [(0, .ref a0)] [] S M 0 0 := by
  unfold F_Mo_undo at h
  refine zi_aload_n 0 d_Mo_undo_0 rfl ?_
  refine zi_iconst 0 d_Mo_undo_1 rfl ?_
  obtain ⟨m1, em1, h⟩ := zbind h
  refine zo_putI 5 zkd_11 0 d_Mo_undo_2 em1 rfl rfl rfl tw_1231 rfl ?_
  refine zi_aload_n 0 d_Mo_undo_5 rfl ?_
  obtain ⟨v2, ev2, h⟩ := zbind h
  refine zo_getI 9 zkd_11 8 d_Mo_undo_6 ev2 rfl tw_1239 rfl ?_
  refine zi_if_ne (tgt := 19) d_Mo_undo_9 rfl (fun c3 => ?_) (fun c3 => ?_)
  · rw [if_neg c3] at h
    refine zi_aload_n 0 d_Mo_undo_19 rfl ?_
    refine zi_dup d_Mo_undo_20 rfl ?_
    obtain ⟨v5, ev5, h⟩ := zbind h
    refine zo_getI 24 zkd_11 8 d_Mo_undo_21 ev5 rfl tw_1239 rfl ?_
    refine zi_iconst 1 d_Mo_undo_24 rfl ?_
    refine zi_isub d_Mo_undo_25 ?_
    obtain ⟨m6, em6, h⟩ := zbind h
    refine zo_putI 29 zkd_11 8 d_Mo_undo_26 em6 rfl rfl rfl tw_1239 rfl ?_
    refine zi_aload_n 0 d_Mo_undo_29 rfl ?_
    refine zi_aload_n 0 d_Mo_undo_30 rfl ?_
    obtain ⟨v7, ev7, h⟩ := zbind h
    refine zo_getI 34 zkd_11 8 d_Mo_undo_31 ev7 rfl tw_1239 rfl ?_
    obtain ⟨q8, eq8, h⟩ := zbind h
    refine zo_virt (k' := 0) (n' := 0) 37 [.int v7] [] [] zkd_11 (zgI_s ev2).1 (C_Mo_putBack n E S a0 v7 m6 q8 eq8) d_Mo_undo_34 tw_1414 tw_1411 tw_1413 ts_37 tw_13 dd_Mo_putBack ⟨Nat.le_of_ble_eq_true rfl, Nat.le_of_ble_eq_true rfl, Nat.le_of_ble_eq_true rfl, Nat.le_of_ble_eq_true rfl⟩ (Nat.le_of_ble_eq_true rfl) rfl rfl rfl rfl ?_
    refine zi_aload_n 0 d_Mo_undo_37 rfl ?_
    refine zi_aload_n 0 d_Mo_undo_38 rfl ?_
    obtain ⟨b9, eb9, h⟩ := zbind h
    refine zo_getR 42 zkd_11 7 d_Mo_undo_39 eb9 rfl tw_1238 rfl ?_
    refine zi_aload_n 0 d_Mo_undo_42 rfl ?_
    obtain ⟨v10, ev10, h⟩ := zbind h
    refine zo_getI 46 zkd_11 8 d_Mo_undo_43 ev10 rfl tw_1239 rfl ?_
    obtain ⟨v11, ev11, h⟩ := zbind h
    refine zo_iald 47 d_Mo_undo_46 ev11 rfl ?_
    obtain ⟨q12, eq12, h⟩ := zbind h
    refine zo_virt (k' := 0) (n' := 0) 50 [.int v11] [] [.int q12.1] zkd_11 (zgI_s ev2).1 (C_Mo_tell n E S a0 v11 q8 q12.1 q12.2 eq12) d_Mo_undo_47 tw_1410 tw_1407 tw_1409 ts_36 tw_13 dd_Mo_tell ⟨Nat.le_of_ble_eq_true rfl, Nat.le_of_ble_eq_true rfl, Nat.le_of_ble_eq_true rfl, Nat.le_of_ble_eq_true rfl⟩ (Nat.le_of_ble_eq_true rfl) rfl rfl rfl rfl ?_
    cases h
    exact zo_ret d_Mo_undo_50 (Nat.le_of_ble_eq_true rfl) (Nat.le_of_ble_eq_true rfl) rfl
  · rw [if_pos c3] at h
    refine zi_aload_n 0 d_Mo_undo_12 rfl ?_
    refine zi_bipush (-3) d_Mo_undo_13 rfl ?_
    obtain ⟨q4, eq4, h⟩ := zbind h
    refine zo_virt (k' := 0) (n' := 0) 18 [.int (-3)] [] [.int q4.1] zkd_11 (zgI_s ev2).1 (C_Mo_tell n E S a0 (-3) m1 q4.1 q4.2 eq4) d_Mo_undo_15 tw_1410 tw_1407 tw_1409 ts_36 tw_13 dd_Mo_tell ⟨Nat.le_of_ble_eq_true rfl, Nat.le_of_ble_eq_true rfl, Nat.le_of_ble_eq_true rfl, Nat.le_of_ble_eq_true rfl⟩ (Nat.le_of_ble_eq_true rfl) rfl rfl rfl rfl ?_
    cases h
    exact zo_ret d_Mo_undo_18 (Nat.le_of_ble_eq_true rfl) (Nat.le_of_ble_eq_true rfl) rfl
theorem C_Mo_undo (n : Nat) (E : zE) (S : zS) (a0 : Nat) (M : zH) (r : Int32) (M' : zH) (h : F_Mo_undo n E S a0 M = some (r, M')) : zC E Y_Mo_undo [.ref a0] S M (some (.int r), S, M') :=
  zC.of (Or.inl (show plainName "NightColanderModel" = true by decide)) (Nat.le_of_ble_eq_true rfl) (trivial) (K_Mo_undo n E S a0 M r M' h)
theorem d_Mo_in_0 : decode (yB Y_Mo_in) 0 = .ok (.lload_n 0, 1) := by decide +kernel
theorem d_Mo_in_1 : decode (yB Y_Mo_in) 1 = .ok (.lload_n 2, 1) := by decide +kernel
theorem d_Mo_in_2 : decode (yB Y_Mo_in) 2 = .ok (.lcmp, 1) := by decide +kernel
theorem d_Mo_in_3 : decode (yB Y_Mo_in) 3 = .ok (.ifCond .lt 14, 3) := by decide +kernel
theorem d_Mo_in_6 : decode (yB Y_Mo_in) 6 = .ok (.lload_n 0, 1) := by decide +kernel
theorem d_Mo_in_7 : decode (yB Y_Mo_in) 7 = .ok (.lload 4, 2) := by decide +kernel
theorem d_Mo_in_9 : decode (yB Y_Mo_in) 9 = .ok (.lcmp, 1) := by decide +kernel
theorem d_Mo_in_10 : decode (yB Y_Mo_in) 10 = .ok (.ifCond .gt 7, 3) := by decide +kernel
theorem d_Mo_in_13 : decode (yB Y_Mo_in) 13 = .ok (.iconst 1, 1) := by decide +kernel
theorem d_Mo_in_14 : decode (yB Y_Mo_in) 14 = .ok (.goto 4, 3) := by decide +kernel
theorem d_Mo_in_17 : decode (yB Y_Mo_in) 17 = .ok (.iconst 0, 1) := by decide +kernel
theorem d_Mo_in_18 : decode (yB Y_Mo_in) 18 = .ok (.ireturn, 1) := by decide +kernel
def F_Mo_in (n : Nat) (E : zE) (S : zS) (y0 : Int64) (y2 : Int64) (y4 : Int64) (M : zH) : Option (Bool × zH) :=
  if y0 < y2 then
    some (false, M)
  else
    if y4 < y0 then
      some (false, M)
    else
      some (true, M)
theorem K_Mo_in (n : Nat) (E : zE) (S : zS) (y0 : Int64) (y2 : Int64) (y4 : Int64) (M : zH) (r : Bool) (M' : zH)  (h : F_Mo_in n E S y0 y2 y4 M = some (r, M')) : zG E Y_Mo_in (some (.int (bI r)), S, M') 0 [(0, .long y0), (2, .long y2), (4, .long y4)] [] S M 0 0 := by
  unfold F_Mo_in at h
  refine zi_lload_n 0 d_Mo_in_0 rfl ?_
  refine zi_lload_n 1 d_Mo_in_1 rfl ?_
  refine zo_lc_lt d_Mo_in_2 d_Mo_in_3 rfl 6 rfl (fun c1 => ?_) (fun c1 => ?_)
  · rw [if_pos c1] at h
    refine zi_iconst 0 d_Mo_in_17 rfl ?_
    cases h
    exact zo_retB d_Mo_in_18 (Nat.le_of_ble_eq_true rfl) (Nat.le_of_ble_eq_true rfl) rfl
  · rw [if_neg c1] at h
    refine zi_lload_n 0 d_Mo_in_6 rfl ?_
    refine zi_lload 2 d_Mo_in_7 rfl ?_
    refine zo_lc_gt d_Mo_in_9 d_Mo_in_10 rfl 13 rfl (fun c2 => ?_) (fun c2 => ?_)
    · rw [if_pos c2] at h
      refine zi_iconst 0 d_Mo_in_17 rfl ?_
      cases h
      exact zo_retB d_Mo_in_18 (Nat.le_of_ble_eq_true rfl) (Nat.le_of_ble_eq_true rfl) rfl
    · rw [if_neg c2] at h
      refine zi_iconst 1 d_Mo_in_13 rfl ?_
      refine zi_goto (tgt := 18) d_Mo_in_14 rfl ?_
      cases h
      exact zo_retB d_Mo_in_18 (Nat.le_of_ble_eq_true rfl) (Nat.le_of_ble_eq_true rfl) rfl
theorem C_Mo_in (n : Nat) (E : zE) (S : zS) (y0 : Int64) (y2 : Int64) (y4 : Int64) (M : zH) (r : Bool) (M' : zH) (h : F_Mo_in n E S y0 y2 y4 M = some (r, M')) : zC E Y_Mo_in [.long y0, .long y2, .long y4] S M (some (.int (bI r)), S, M') :=
  zC.of (Or.inl (show plainName "NightColanderModel" = true by decide)) (Nat.le_of_ble_eq_true rfl) (bI_nar r) (K_Mo_in n E S y0 y2 y4 M r M' h)
theorem d_Mo_image_0 : decode (yB Y_Mo_image) 0 = .ok (.aload_n 0, 1) := by decide +kernel
theorem d_Mo_image_1 : decode (yB Y_Mo_image) 1 = .ok (.iconst 0, 1) := by decide +kernel
theorem d_Mo_image_2 : decode (yB Y_Mo_image) 2 = .ok (.putfield 156, 3) := by decide +kernel
theorem d_Mo_image_5 : decode (yB Y_Mo_image) 5 = .ok (.iload_n 1, 1) := by decide +kernel
theorem d_Mo_image_6 : decode (yB Y_Mo_image) 6 = .ok (.i2l, 1) := by decide +kernel
theorem d_Mo_image_7 : decode (yB Y_Mo_image) 7 = .ok (.lconst 0, 1) := by decide +kernel
theorem d_Mo_image_8 : decode (yB Y_Mo_image) 8 = .ok (.lconst 1, 1) := by decide +kernel
theorem d_Mo_image_9 : decode (yB Y_Mo_image) 9 = .ok (.invokestatic 176, 3) := by decide +kernel
theorem d_Mo_image_12 : decode (yB Y_Mo_image) 12 = .ok (.ifCond .ne 9, 3) := by decide +kernel
theorem d_Mo_image_15 : decode (yB Y_Mo_image) 15 = .ok (.aload_n 0, 1) := by decide +kernel
theorem d_Mo_image_16 : decode (yB Y_Mo_image) 16 = .ok (.iconst (-1), 1) := by decide +kernel
theorem d_Mo_image_17 : decode (yB Y_Mo_image) 17 = .ok (.invokevirtual 165, 3) := by decide +kernel
theorem d_Mo_image_20 : decode (yB Y_Mo_image) 20 = .ok (.ireturn, 1) := by decide +kernel
theorem d_Mo_image_21 : decode (yB Y_Mo_image) 21 = .ok (.iconst 0, 1) := by decide +kernel
theorem d_Mo_image_22 : decode (yB Y_Mo_image) 22 = .ok (.istore_n 2, 1) := by decide +kernel
theorem d_Mo_image_23 : decode (yB Y_Mo_image) 23 = .ok (.iload_n 2, 1) := by decide +kernel
theorem d_Mo_image_24 : decode (yB Y_Mo_image) 24 = .ok (.sipush 5480, 3) := by decide +kernel
theorem d_Mo_image_27 : decode (yB Y_Mo_image) 27 = .ok (.if_icmp .ge 27, 3) := by decide +kernel
theorem d_Mo_image_30 : decode (yB Y_Mo_image) 30 = .ok (.aload_n 0, 1) := by decide +kernel
theorem d_Mo_image_31 : decode (yB Y_Mo_image) 31 = .ok (.getfield 16, 3) := by decide +kernel
theorem d_Mo_image_34 : decode (yB Y_Mo_image) 34 = .ok (.sipush 5480, 3) := by decide +kernel
theorem d_Mo_image_37 : decode (yB Y_Mo_image) 37 = .ok (.iload_n 1, 1) := by decide +kernel
theorem d_Mo_image_38 : decode (yB Y_Mo_image) 38 = .ok (.imul, 1) := by decide +kernel
theorem d_Mo_image_39 : decode (yB Y_Mo_image) 39 = .ok (.iload_n 2, 1) := by decide +kernel
theorem d_Mo_image_40 : decode (yB Y_Mo_image) 40 = .ok (.iadd, 1) := by decide +kernel
theorem d_Mo_image_41 : decode (yB Y_Mo_image) 41 = .ok (.aload_n 0, 1) := by decide +kernel
theorem d_Mo_image_42 : decode (yB Y_Mo_image) 42 = .ok (.getfield 13, 3) := by decide +kernel
theorem d_Mo_image_45 : decode (yB Y_Mo_image) 45 = .ok (.iload_n 2, 1) := by decide +kernel
theorem d_Mo_image_46 : decode (yB Y_Mo_image) 46 = .ok (.iaload, 1) := by decide +kernel
theorem d_Mo_image_47 : decode (yB Y_Mo_image) 47 = .ok (.iastore, 1) := by decide +kernel
theorem d_Mo_image_48 : decode (yB Y_Mo_image) 48 = .ok (.iinc 2 1, 3) := by decide +kernel
theorem d_Mo_image_51 : decode (yB Y_Mo_image) 51 = .ok (.goto (-28), 3) := by decide +kernel
theorem d_Mo_image_54 : decode (yB Y_Mo_image) 54 = .ok (.aload_n 0, 1) := by decide +kernel
theorem d_Mo_image_55 : decode (yB Y_Mo_image) 55 = .ok (.getfield 19, 3) := by decide +kernel
theorem d_Mo_image_58 : decode (yB Y_Mo_image) 58 = .ok (.iload_n 1, 1) := by decide +kernel
theorem d_Mo_image_59 : decode (yB Y_Mo_image) 59 = .ok (.iconst 1, 1) := by decide +kernel
theorem d_Mo_image_60 : decode (yB Y_Mo_image) 60 = .ok (.bastore, 1) := by decide +kernel
theorem d_Mo_image_61 : decode (yB Y_Mo_image) 61 = .ok (.aload_n 0, 1) := by decide +kernel
theorem d_Mo_image_62 : decode (yB Y_Mo_image) 62 = .ok (.iconst 0, 1) := by decide +kernel
theorem d_Mo_image_63 : decode (yB Y_Mo_image) 63 = .ok (.invokevirtual 165, 3) := by decide +kernel
theorem d_Mo_image_66 : decode (yB Y_Mo_image) 66 = .ok (.ireturn, 1) := by decide +kernel
def F_Mo_image_L23 (n : Nat) (E : zE) (S : zS) (r23 : Nat × Int32 × Int32 × zH → Option (Int32 × zH)) (a0 : Nat) (x1 : Int32) (x2 : Int32) (M : zH) : Option (Int32 × zH) :=
  if 5480 ≤ x2 then
    (zgR S a0 11 5).bind fun b2 =>
    (zstZ S M b2 x1 1).bind fun m3 =>
    (F_Mo_tell n E S a0 0 m3).bind fun q4 =>
    some (q4.1, q4.2)
  else
    (zgR S a0 11 4).bind fun b5 =>
    (zgR S a0 11 3).bind fun b6 =>
    (zldI S M b6 x2).bind fun v7 =>
    (zstI S M b5 ((5480 * x1) + x2) v7).bind fun m8 =>
    r23 (a0, x1, x2 + 1, m8)
def F_Mo_image_b23 (n : Nat) (E : zE) (S : zS) : Nat × Int32 × Int32 × zH → Option (Int32 × zH) := zfix (fun r23 s => F_Mo_image_L23 n E S r23 s.1 s.2.1 s.2.2.1 s.2.2.2) n
def F_Mo_image (n : Nat) (E : zE) (S : zS) (a0 : Nat) (x1 : Int32) (M : zH) : Option (Int32 × zH) :=
  (zpI S M a0 11 0 0).bind fun m9 =>
  (F_Mo_in n E S x1.toInt64 0 1 m9).bind fun q10 =>
  if q10.1 = true then
    F_Mo_image_b23 n E S (a0, x1, 0, q10.2)
  else
    (zck S a0 11).bind fun u12 =>
    (F_Mo_tell n E S a0 (-1) q10.2).bind fun q13 =>
    some (q13.1, q13.2)
theorem K_Mo_image_L23 (n : Nat) (E : zE) (S : zS) (r23 : Nat × Int32 × Int32 × zH → Option (Int32 × zH)) (a0 : Nat) (x1 : Int32) (x2 : Int32) (M : zH) (r : Int32) (M' : zH) (hr23 : ∀ (a0 : Nat) (x1 : Int32) (x2 : Int32) (M : zH), r23 (a0, x1, x2, M) = some (r, M') → zG E Y_Mo_image (some (.int r), S, M') 23 [(0, .ref a0), (1, .int x1), (2, .int x2)] [] S M 0 0) (h : F_Mo_image_L23 n E S r23 a0 x1 x2 M = some (r, M')) : zG E Y_Mo_image (some (.int r), S, M') 23 [(0, .ref a0), (1, .int x1), (2, .int x2)] [] S M 0 0 := by
  unfold F_Mo_image_L23 at h
  refine zi_iload_n 2 d_Mo_image_23 rfl ?_
  refine zi_sipush 5480 d_Mo_image_24 rfl ?_
  refine zi_icmp_ge (tgt := 54) d_Mo_image_27 rfl (fun c1 => ?_) (fun c1 => ?_)
  · rw [if_pos c1] at h
    refine zi_aload_n 0 d_Mo_image_54 rfl ?_
    obtain ⟨b2, eb2, h⟩ := zbind h
    refine zo_getR 58 zkd_11 5 d_Mo_image_55 eb2 rfl tw_1236 rfl ?_
    refine zi_iload_n 1 d_Mo_image_58 rfl ?_
    refine zi_iconst 1 d_Mo_image_59 rfl ?_
    obtain ⟨m3, em3, h⟩ := zbind h
    refine zo_zast 61 d_Mo_image_60 em3 rfl ?_
    refine zi_aload_n 0 d_Mo_image_61 rfl ?_
    refine zi_iconst 0 d_Mo_image_62 rfl ?_
    obtain ⟨q4, eq4, h⟩ := zbind h
    refine zo_virt (k' := 0) (n' := 0) 66 [.int 0] [] [.int q4.1] zkd_11 (zgR_s eb2).1 (C_Mo_tell n E S a0 0 m3 q4.1 q4.2 eq4) d_Mo_image_63 tw_1410 tw_1407 tw_1409 ts_36 tw_13 dd_Mo_tell ⟨Nat.le_of_ble_eq_true rfl, Nat.le_of_ble_eq_true rfl, Nat.le_of_ble_eq_true rfl, Nat.le_of_ble_eq_true rfl⟩ (Nat.le_of_ble_eq_true rfl) rfl rfl rfl rfl ?_
    cases h
    exact zo_ret d_Mo_image_66 (Nat.le_of_ble_eq_true rfl) (Nat.le_of_ble_eq_true rfl) rfl
  · rw [if_neg c1] at h
    refine zi_aload_n 0 d_Mo_image_30 rfl ?_
    obtain ⟨b5, eb5, h⟩ := zbind h
    refine zo_getR 34 zkd_11 4 d_Mo_image_31 eb5 rfl tw_1235 rfl ?_
    refine zi_sipush 5480 d_Mo_image_34 rfl ?_
    refine zi_iload_n 1 d_Mo_image_37 rfl ?_
    refine zi_imul d_Mo_image_38 ?_
    refine zi_iload_n 2 d_Mo_image_39 rfl ?_
    refine zi_iadd d_Mo_image_40 ?_
    refine zi_aload_n 0 d_Mo_image_41 rfl ?_
    obtain ⟨b6, eb6, h⟩ := zbind h
    refine zo_getR 45 zkd_11 3 d_Mo_image_42 eb6 rfl tw_1234 rfl ?_
    refine zi_iload_n 2 d_Mo_image_45 rfl ?_
    obtain ⟨v7, ev7, h⟩ := zbind h
    refine zo_iald 47 d_Mo_image_46 ev7 rfl ?_
    obtain ⟨m8, em8, h⟩ := zbind h
    refine zo_iast 48 d_Mo_image_47 em8 rfl ?_
    refine zi_iinc 2 (x2 + 1) [(2, .int (x2 + 1)), (0, .ref a0), (1, .int x1)] d_Mo_image_48 rfl rfl (by decide) rfl ?_
    refine zi_goto (tgt := 23) d_Mo_image_51 rfl ?_
    refine zi_lo [(0, .ref a0), (1, .int x1), (2, .int (x2 + 1))] [1, 2, 0] rfl ?_
    exact hr23 a0 x1 (x2 + 1) m8 h
theorem K_Mo_image_b23 (n : Nat) (E : zE) (S : zS) (a0 : Nat) (x1 : Int32) (x2 : Int32) (M : zH) (r : Int32) (M' : zH)  (h : F_Mo_image_b23 n E S (a0, x1, x2, M) = some (r, M')) : zG E Y_Mo_image (some (.int r), S, M') 23 [(0, .ref a0), (1, .int x1), (2, .int x2)] [] S M 0 0 := by
  have key : ∀ (k : Nat) (a0 : Nat) (x1 : Int32) (x2 : Int32) (M : zH), zfix (fun r23 s => F_Mo_image_L23 n E S r23 s.1 s.2.1 s.2.2.1 s.2.2.2) k (a0, x1, x2, M) = some (r, M') → zG E Y_Mo_image (some (.int r), S, M') 23 [(0, .ref a0), (1, .int x1), (2, .int x2)] [] S M 0 0 := by
    intro k
    induction k with
    | zero => intro a0 x1 x2 M h; cases h
    | succ k ih => intro a0 x1 x2 M h; exact K_Mo_image_L23 n E S _ a0 x1 x2 M r M'  (fun a0 x1 x2 M h => ih a0 x1 x2 M h) h
  exact key n a0 x1 x2 M h
theorem K_Mo_image (n : Nat) (E : zE) (S : zS) (a0 : Nat) (x1 : Int32) (M : zH) (r : Int32) (M' : zH)  (h : F_Mo_image n E S a0 x1 M = some (r, M')) : zG E Y_Mo_image (some (.int r), S, M') 0 [(0, .ref a0), (1, .int x1)] [] S M 0 0 := by
  unfold F_Mo_image at h
  refine zi_aload_n 0 d_Mo_image_0 rfl ?_
  refine zi_iconst 0 d_Mo_image_1 rfl ?_
  obtain ⟨m9, em9, h⟩ := zbind h
  refine zo_putI 5 zkd_11 0 d_Mo_image_2 em9 rfl rfl rfl tw_1231 rfl ?_
  refine zi_iload_n 1 d_Mo_image_5 rfl ?_
  refine zi_i2l d_Mo_image_6 ?_
  refine zi_lconst 0 d_Mo_image_7 rfl ?_
  refine zi_lconst 1 d_Mo_image_8 rfl ?_
  obtain ⟨q10, eq10, h⟩ := zbind h
  refine zo_stat (k' := 0) (n' := 0) 12 [.long x1.toInt64, .long 0, .long 1] [] [.int (bI q10.1)] (C_Mo_in n E S x1.toInt64 0 1 m9 q10.1 q10.2 eq10) d_Mo_image_9 tw_1421 tw_1419 tw_1420 tw_13 dd_Mo_in ⟨Nat.le_of_ble_eq_true rfl, Nat.le_of_ble_eq_true rfl, Nat.le_of_ble_eq_true rfl, Nat.le_of_ble_eq_true rfl⟩ (Nat.le_of_ble_eq_true rfl) rfl rfl rfl rfl ?_
  refine zo_ifneB d_Mo_image_12 rfl 15 rfl (fun c11 => ?_) (fun c11 => ?_)
  · rw [if_pos c11] at h
    refine zi_iconst 0 d_Mo_image_21 rfl ?_
    refine zi_istore_n [(2, .int 0), (0, .ref a0), (1, .int x1)] d_Mo_image_22 (by decide) rfl ?_
    refine zi_lo [(0, .ref a0), (1, .int x1), (2, .int 0)] [1, 2, 0] rfl ?_
    exact K_Mo_image_b23 n E S a0 x1 0 q10.2 r M'  h
  · rw [if_neg c11] at h
    refine zi_aload_n 0 d_Mo_image_15 rfl ?_
    refine zi_iconst (-1) d_Mo_image_16 rfl ?_
    obtain ⟨u12, eu12, h⟩ := zbind h
    obtain ⟨q13, eq13, h⟩ := zbind h
    refine zo_virt (k' := 0) (n' := 0) 20 [.int (-1)] [] [.int q13.1] zkd_11 (zck_s eu12) (C_Mo_tell n E S a0 (-1) q10.2 q13.1 q13.2 eq13) d_Mo_image_17 tw_1410 tw_1407 tw_1409 ts_36 tw_13 dd_Mo_tell ⟨Nat.le_of_ble_eq_true rfl, Nat.le_of_ble_eq_true rfl, Nat.le_of_ble_eq_true rfl, Nat.le_of_ble_eq_true rfl⟩ (Nat.le_of_ble_eq_true rfl) rfl rfl rfl rfl ?_
    cases h
    exact zo_ret d_Mo_image_20 (Nat.le_of_ble_eq_true rfl) (Nat.le_of_ble_eq_true rfl) rfl
theorem C_Mo_image (n : Nat) (E : zE) (S : zS) (a0 : Nat) (x1 : Int32) (M : zH) (r : Int32) (M' : zH) (h : F_Mo_image n E S a0 x1 M = some (r, M')) : zC E Y_Mo_image [.ref a0, .int x1] S M (some (.int r), S, M') :=
  zC.of (Or.inl (show plainName "NightColanderModel" = true by decide)) (Nat.le_of_ble_eq_true rfl) (trivial) (K_Mo_image n E S a0 x1 M r M' h)
theorem d_Mo_lasting_0 : decode (yB Y_Mo_lasting) 0 = .ok (.aload_n 0, 1) := by decide +kernel
theorem d_Mo_lasting_1 : decode (yB Y_Mo_lasting) 1 = .ok (.iload_n 1, 1) := by decide +kernel
theorem d_Mo_lasting_2 : decode (yB Y_Mo_lasting) 2 = .ok (.ifCond .ge 10, 3) := by decide +kernel
theorem d_Mo_lasting_5 : decode (yB Y_Mo_lasting) 5 = .ok (.aload_n 0, 1) := by decide +kernel
theorem d_Mo_lasting_6 : decode (yB Y_Mo_lasting) 6 = .ok (.getfield 162, 3) := by decide +kernel
theorem d_Mo_lasting_9 : decode (yB Y_Mo_lasting) 9 = .ok (.goto 4, 3) := by decide +kernel
theorem d_Mo_lasting_12 : decode (yB Y_Mo_lasting) 12 = .ok (.iconst 0, 1) := by decide +kernel
theorem d_Mo_lasting_13 : decode (yB Y_Mo_lasting) 13 = .ok (.putfield 162, 3) := by decide +kernel
theorem d_Mo_lasting_16 : decode (yB Y_Mo_lasting) 16 = .ok (.aload_n 0, 1) := by decide +kernel
theorem d_Mo_lasting_17 : decode (yB Y_Mo_lasting) 17 = .ok (.iload_n 1, 1) := by decide +kernel
theorem d_Mo_lasting_18 : decode (yB Y_Mo_lasting) 18 = .ok (.invokevirtual 165, 3) := by decide +kernel
theorem d_Mo_lasting_21 : decode (yB Y_Mo_lasting) 21 = .ok (.ireturn, 1) := by decide +kernel
def F_Mo_lasting_b13 (n : Nat) (E : zE) (S : zS) (a0 : Nat) (x1 : Int32) (s0 : Int32) (u1 : Nat) (M : zH) : Option (Int32 × zH) :=
  (zpI S M u1 11 8 s0).bind fun m1 =>
  (zck S a0 11).bind fun u2 =>
  (F_Mo_tell n E S a0 x1 m1).bind fun q3 =>
  some (q3.1, q3.2)
def F_Mo_lasting (n : Nat) (E : zE) (S : zS) (a0 : Nat) (x1 : Int32) (M : zH) : Option (Int32 × zH) :=
  if 0 ≤ x1 then
    F_Mo_lasting_b13 n E S a0 x1 0 a0 M
  else
    (zgI S M a0 11 8).bind fun v5 =>
    F_Mo_lasting_b13 n E S a0 x1 v5 a0 M
theorem K_Mo_lasting_b13 (n : Nat) (E : zE) (S : zS) (a0 : Nat) (x1 : Int32) (s0 : Int32) (u1 : Nat) (M : zH) (r : Int32) (M' : zH)  (h : F_Mo_lasting_b13 n E S a0 x1 s0 u1 M = some (r, M')) : zG E Y_Mo_lasting (some (.int r), S, M') 13 [(0, .ref a0), (1, .int x1)] [.int s0, .ref u1] S M 0 0 := by
  unfold F_Mo_lasting_b13 at h
  obtain ⟨m1, em1, h⟩ := zbind h
  refine zo_putI 16 zkd_11 8 d_Mo_lasting_13 em1 rfl rfl rfl tw_1239 rfl ?_
  refine zi_aload_n 0 d_Mo_lasting_16 rfl ?_
  refine zi_iload_n 1 d_Mo_lasting_17 rfl ?_
  obtain ⟨u2, eu2, h⟩ := zbind h
  obtain ⟨q3, eq3, h⟩ := zbind h
  refine zo_virt (k' := 0) (n' := 0) 21 [.int x1] [] [.int q3.1] zkd_11 (zck_s eu2) (C_Mo_tell n E S a0 x1 m1 q3.1 q3.2 eq3) d_Mo_lasting_18 tw_1410 tw_1407 tw_1409 ts_36 tw_13 dd_Mo_tell ⟨Nat.le_of_ble_eq_true rfl, Nat.le_of_ble_eq_true rfl, Nat.le_of_ble_eq_true rfl, Nat.le_of_ble_eq_true rfl⟩ (Nat.le_of_ble_eq_true rfl) rfl rfl rfl rfl ?_
  cases h
  exact zo_ret d_Mo_lasting_21 (Nat.le_of_ble_eq_true rfl) (Nat.le_of_ble_eq_true rfl) rfl
theorem K_Mo_lasting (n : Nat) (E : zE) (S : zS) (a0 : Nat) (x1 : Int32) (M : zH) (r : Int32) (M' : zH)  (h : F_Mo_lasting n E S a0 x1 M = some (r, M')) : zG E Y_Mo_lasting (some (.int r), S, M') 0 [(0, .ref a0), (1, .int x1)] [] S M 0 0 := by
  unfold F_Mo_lasting at h
  refine zi_aload_n 0 d_Mo_lasting_0 rfl ?_
  refine zi_iload_n 1 d_Mo_lasting_1 rfl ?_
  refine zi_if_ge (tgt := 12) d_Mo_lasting_2 rfl (fun c4 => ?_) (fun c4 => ?_)
  · rw [if_pos c4] at h
    refine zi_iconst 0 d_Mo_lasting_12 rfl ?_
    refine zi_lo [(0, .ref a0), (1, .int x1)] [0, 1] rfl ?_
    exact K_Mo_lasting_b13 n E S a0 x1 0 a0 M r M'  h
  · rw [if_neg c4] at h
    refine zi_aload_n 0 d_Mo_lasting_5 rfl ?_
    obtain ⟨v5, ev5, h⟩ := zbind h
    refine zo_getI 9 zkd_11 8 d_Mo_lasting_6 ev5 rfl tw_1239 rfl ?_
    refine zi_goto (tgt := 13) d_Mo_lasting_9 rfl ?_
    refine zi_lo [(0, .ref a0), (1, .int x1)] [0, 1] rfl ?_
    exact K_Mo_lasting_b13 n E S a0 x1 v5 a0 M r M'  h
theorem C_Mo_lasting (n : Nat) (E : zE) (S : zS) (a0 : Nat) (x1 : Int32) (M : zH) (r : Int32) (M' : zH) (h : F_Mo_lasting n E S a0 x1 M = some (r, M')) : zC E Y_Mo_lasting [.ref a0, .int x1] S M (some (.int r), S, M') :=
  zC.of (Or.inl (show plainName "NightColanderModel" = true by decide)) (Nat.le_of_ble_eq_true rfl) (trivial) (K_Mo_lasting n E S a0 x1 M r M' h)
theorem d_Mo_back_0 : decode (yB Y_Mo_back) 0 = .ok (.aload_n 0, 1) := by decide +kernel
theorem d_Mo_back_1 : decode (yB Y_Mo_back) 1 = .ok (.iconst 0, 1) := by decide +kernel
theorem d_Mo_back_2 : decode (yB Y_Mo_back) 2 = .ok (.putfield 156, 3) := by decide +kernel
theorem d_Mo_back_5 : decode (yB Y_Mo_back) 5 = .ok (.iload_n 1, 1) := by decide +kernel
theorem d_Mo_back_6 : decode (yB Y_Mo_back) 6 = .ok (.i2l, 1) := by decide +kernel
theorem d_Mo_back_7 : decode (yB Y_Mo_back) 7 = .ok (.lconst 0, 1) := by decide +kernel
theorem d_Mo_back_8 : decode (yB Y_Mo_back) 8 = .ok (.lconst 1, 1) := by decide +kernel
theorem d_Mo_back_9 : decode (yB Y_Mo_back) 9 = .ok (.invokestatic 176, 3) := by decide +kernel
theorem d_Mo_back_12 : decode (yB Y_Mo_back) 12 = .ok (.ifCond .ne 9, 3) := by decide +kernel
theorem d_Mo_back_15 : decode (yB Y_Mo_back) 15 = .ok (.aload_n 0, 1) := by decide +kernel
theorem d_Mo_back_16 : decode (yB Y_Mo_back) 16 = .ok (.iconst (-1), 1) := by decide +kernel
theorem d_Mo_back_17 : decode (yB Y_Mo_back) 17 = .ok (.invokevirtual 165, 3) := by decide +kernel
theorem d_Mo_back_20 : decode (yB Y_Mo_back) 20 = .ok (.ireturn, 1) := by decide +kernel
theorem d_Mo_back_21 : decode (yB Y_Mo_back) 21 = .ok (.aload_n 0, 1) := by decide +kernel
theorem d_Mo_back_22 : decode (yB Y_Mo_back) 22 = .ok (.getfield 19, 3) := by decide +kernel
theorem d_Mo_back_25 : decode (yB Y_Mo_back) 25 = .ok (.iload_n 1, 1) := by decide +kernel
theorem d_Mo_back_26 : decode (yB Y_Mo_back) 26 = .ok (.baload, 1) := by decide +kernel
theorem d_Mo_back_27 : decode (yB Y_Mo_back) 27 = .ok (.ifCond .ne 10, 3) := by decide +kernel
theorem d_Mo_back_30 : decode (yB Y_Mo_back) 30 = .ok (.aload_n 0, 1) := by decide +kernel
theorem d_Mo_back_31 : decode (yB Y_Mo_back) 31 = .ok (.bipush (-2), 2) := by decide +kernel
theorem d_Mo_back_33 : decode (yB Y_Mo_back) 33 = .ok (.invokevirtual 165, 3) := by decide +kernel
theorem d_Mo_back_36 : decode (yB Y_Mo_back) 36 = .ok (.ireturn, 1) := by decide +kernel
theorem d_Mo_back_37 : decode (yB Y_Mo_back) 37 = .ok (.iconst 0, 1) := by decide +kernel
theorem d_Mo_back_38 : decode (yB Y_Mo_back) 38 = .ok (.istore_n 2, 1) := by decide +kernel
theorem d_Mo_back_39 : decode (yB Y_Mo_back) 39 = .ok (.iload_n 2, 1) := by decide +kernel
theorem d_Mo_back_40 : decode (yB Y_Mo_back) 40 = .ok (.sipush 5480, 3) := by decide +kernel
theorem d_Mo_back_43 : decode (yB Y_Mo_back) 43 = .ok (.if_icmp .ge 27, 3) := by decide +kernel
theorem d_Mo_back_46 : decode (yB Y_Mo_back) 46 = .ok (.aload_n 0, 1) := by decide +kernel
theorem d_Mo_back_47 : decode (yB Y_Mo_back) 47 = .ok (.getfield 13, 3) := by decide +kernel
theorem d_Mo_back_50 : decode (yB Y_Mo_back) 50 = .ok (.iload_n 2, 1) := by decide +kernel
theorem d_Mo_back_51 : decode (yB Y_Mo_back) 51 = .ok (.aload_n 0, 1) := by decide +kernel
theorem d_Mo_back_52 : decode (yB Y_Mo_back) 52 = .ok (.getfield 16, 3) := by decide +kernel
theorem d_Mo_back_55 : decode (yB Y_Mo_back) 55 = .ok (.sipush 5480, 3) := by decide +kernel
theorem d_Mo_back_58 : decode (yB Y_Mo_back) 58 = .ok (.iload_n 1, 1) := by decide +kernel
theorem d_Mo_back_59 : decode (yB Y_Mo_back) 59 = .ok (.imul, 1) := by decide +kernel
theorem d_Mo_back_60 : decode (yB Y_Mo_back) 60 = .ok (.iload_n 2, 1) := by decide +kernel
theorem d_Mo_back_61 : decode (yB Y_Mo_back) 61 = .ok (.iadd, 1) := by decide +kernel
theorem d_Mo_back_62 : decode (yB Y_Mo_back) 62 = .ok (.iaload, 1) := by decide +kernel
theorem d_Mo_back_63 : decode (yB Y_Mo_back) 63 = .ok (.iastore, 1) := by decide +kernel
theorem d_Mo_back_64 : decode (yB Y_Mo_back) 64 = .ok (.iinc 2 1, 3) := by decide +kernel
theorem d_Mo_back_67 : decode (yB Y_Mo_back) 67 = .ok (.goto (-28), 3) := by decide +kernel
theorem d_Mo_back_70 : decode (yB Y_Mo_back) 70 = .ok (.aload_n 0, 1) := by decide +kernel
theorem d_Mo_back_71 : decode (yB Y_Mo_back) 71 = .ok (.iconst 0, 1) := by decide +kernel
theorem d_Mo_back_72 : decode (yB Y_Mo_back) 72 = .ok (.invokevirtual 180, 3) := by decide +kernel
theorem d_Mo_back_75 : decode (yB Y_Mo_back) 75 = .ok (.ireturn, 1) := by decide +kernel
def F_Mo_back_L39 (n : Nat) (E : zE) (S : zS) (r39 : Nat × Int32 × Int32 × zH → Option (Int32 × zH)) (a0 : Nat) (x1 : Int32) (x2 : Int32) (M : zH) : Option (Int32 × zH) :=
  if 5480 ≤ x2 then
    (zck S a0 11).bind fun u2 =>
    (F_Mo_lasting n E S a0 0 M).bind fun q3 =>
    some (q3.1, q3.2)
  else
    (zgR S a0 11 3).bind fun b4 =>
    (zgR S a0 11 4).bind fun b5 =>
    (zldI S M b5 ((5480 * x1) + x2)).bind fun v6 =>
    (zstI S M b4 x2 v6).bind fun m7 =>
    r39 (a0, x1, x2 + 1, m7)
def F_Mo_back_b39 (n : Nat) (E : zE) (S : zS) : Nat × Int32 × Int32 × zH → Option (Int32 × zH) := zfix (fun r39 s => F_Mo_back_L39 n E S r39 s.1 s.2.1 s.2.2.1 s.2.2.2) n
def F_Mo_back (n : Nat) (E : zE) (S : zS) (a0 : Nat) (x1 : Int32) (M : zH) : Option (Int32 × zH) :=
  (zpI S M a0 11 0 0).bind fun m8 =>
  (F_Mo_in n E S x1.toInt64 0 1 m8).bind fun q9 =>
  if q9.1 = true then
    (zgR S a0 11 5).bind fun b11 =>
    (zldZ S q9.2 b11 x1).bind fun v12 =>
    if v12 = 0 then
      (F_Mo_tell n E S a0 (-2) q9.2).bind fun q14 =>
      some (q14.1, q14.2)
    else
      F_Mo_back_b39 n E S (a0, x1, 0, q9.2)
  else
    (zck S a0 11).bind fun u15 =>
    (F_Mo_tell n E S a0 (-1) q9.2).bind fun q16 =>
    some (q16.1, q16.2)
theorem K_Mo_back_L39 (n : Nat) (E : zE) (S : zS) (r39 : Nat × Int32 × Int32 × zH → Option (Int32 × zH)) (a0 : Nat) (x1 : Int32) (x2 : Int32) (M : zH) (r : Int32) (M' : zH) (hr39 : ∀ (a0 : Nat) (x1 : Int32) (x2 : Int32) (M : zH), r39 (a0, x1, x2, M) = some (r, M') → zG E Y_Mo_back (some (.int r), S, M') 39 [(0, .ref a0), (1, .int x1), (2, .int x2)] [] S M 0 0) (h : F_Mo_back_L39 n E S r39 a0 x1 x2 M = some (r, M')) : zG E Y_Mo_back (some (.int r), S, M') 39 [(0, .ref a0), (1, .int x1), (2, .int x2)] [] S M 0 0 := by
  unfold F_Mo_back_L39 at h
  refine zi_iload_n 2 d_Mo_back_39 rfl ?_
  refine zi_sipush 5480 d_Mo_back_40 rfl ?_
  refine zi_icmp_ge (tgt := 70) d_Mo_back_43 rfl (fun c1 => ?_) (fun c1 => ?_)
  · rw [if_pos c1] at h
    refine zi_aload_n 0 d_Mo_back_70 rfl ?_
    refine zi_iconst 0 d_Mo_back_71 rfl ?_
    obtain ⟨u2, eu2, h⟩ := zbind h
    obtain ⟨q3, eq3, h⟩ := zbind h
    refine zo_virt (k' := 0) (n' := 0) 75 [.int 0] [] [.int q3.1] zkd_11 (zck_s eu2) (C_Mo_lasting n E S a0 0 M q3.1 q3.2 eq3) d_Mo_back_72 tw_1429 tw_1426 tw_1428 ts_38 tw_13 dd_Mo_lasting ⟨Nat.le_of_ble_eq_true rfl, Nat.le_of_ble_eq_true rfl, Nat.le_of_ble_eq_true rfl, Nat.le_of_ble_eq_true rfl⟩ (Nat.le_of_ble_eq_true rfl) rfl rfl rfl rfl ?_
    cases h
    exact zo_ret d_Mo_back_75 (Nat.le_of_ble_eq_true rfl) (Nat.le_of_ble_eq_true rfl) rfl
  · rw [if_neg c1] at h
    refine zi_aload_n 0 d_Mo_back_46 rfl ?_
    obtain ⟨b4, eb4, h⟩ := zbind h
    refine zo_getR 50 zkd_11 3 d_Mo_back_47 eb4 rfl tw_1234 rfl ?_
    refine zi_iload_n 2 d_Mo_back_50 rfl ?_
    refine zi_aload_n 0 d_Mo_back_51 rfl ?_
    obtain ⟨b5, eb5, h⟩ := zbind h
    refine zo_getR 55 zkd_11 4 d_Mo_back_52 eb5 rfl tw_1235 rfl ?_
    refine zi_sipush 5480 d_Mo_back_55 rfl ?_
    refine zi_iload_n 1 d_Mo_back_58 rfl ?_
    refine zi_imul d_Mo_back_59 ?_
    refine zi_iload_n 2 d_Mo_back_60 rfl ?_
    refine zi_iadd d_Mo_back_61 ?_
    obtain ⟨v6, ev6, h⟩ := zbind h
    refine zo_iald 63 d_Mo_back_62 ev6 rfl ?_
    obtain ⟨m7, em7, h⟩ := zbind h
    refine zo_iast 64 d_Mo_back_63 em7 rfl ?_
    refine zi_iinc 2 (x2 + 1) [(2, .int (x2 + 1)), (0, .ref a0), (1, .int x1)] d_Mo_back_64 rfl rfl (by decide) rfl ?_
    refine zi_goto (tgt := 39) d_Mo_back_67 rfl ?_
    refine zi_lo [(0, .ref a0), (1, .int x1), (2, .int (x2 + 1))] [1, 2, 0] rfl ?_
    exact hr39 a0 x1 (x2 + 1) m7 h
theorem K_Mo_back_b39 (n : Nat) (E : zE) (S : zS) (a0 : Nat) (x1 : Int32) (x2 : Int32) (M : zH) (r : Int32) (M' : zH)  (h : F_Mo_back_b39 n E S (a0, x1, x2, M) = some (r, M')) : zG E Y_Mo_back (some (.int r), S, M') 39 [(0, .ref a0), (1, .int x1), (2, .int x2)] [] S M 0 0 := by
  have key : ∀ (k : Nat) (a0 : Nat) (x1 : Int32) (x2 : Int32) (M : zH), zfix (fun r39 s => F_Mo_back_L39 n E S r39 s.1 s.2.1 s.2.2.1 s.2.2.2) k (a0, x1, x2, M) = some (r, M') → zG E Y_Mo_back (some (.int r), S, M') 39 [(0, .ref a0), (1, .int x1), (2, .int x2)] [] S M 0 0 := by
    intro k
    induction k with
    | zero => intro a0 x1 x2 M h; cases h
    | succ k ih => intro a0 x1 x2 M h; exact K_Mo_back_L39 n E S _ a0 x1 x2 M r M'  (fun a0 x1 x2 M h => ih a0 x1 x2 M h) h
  exact key n a0 x1 x2 M h
theorem K_Mo_back (n : Nat) (E : zE) (S : zS) (a0 : Nat) (x1 : Int32) (M : zH) (r : Int32) (M' : zH)  (h : F_Mo_back n E S a0 x1 M = some (r, M')) : zG E Y_Mo_back (some (.int r), S, M') 0 [(0, .ref a0), (1, .int x1)] [] S M 0 0 := by
  unfold F_Mo_back at h
  refine zi_aload_n 0 d_Mo_back_0 rfl ?_
  refine zi_iconst 0 d_Mo_back_1 rfl ?_
  obtain ⟨m8, em8, h⟩ := zbind h
  refine zo_putI 5 zkd_11 0 d_Mo_back_2 em8 rfl rfl rfl tw_1231 rfl ?_
  refine zi_iload_n 1 d_Mo_back_5 rfl ?_
  refine zi_i2l d_Mo_back_6 ?_
  refine zi_lconst 0 d_Mo_back_7 rfl ?_
  refine zi_lconst 1 d_Mo_back_8 rfl ?_
  obtain ⟨q9, eq9, h⟩ := zbind h
  refine zo_stat (k' := 0) (n' := 0) 12 [.long x1.toInt64, .long 0, .long 1] [] [.int (bI q9.1)] (C_Mo_in n E S x1.toInt64 0 1 m8 q9.1 q9.2 eq9) d_Mo_back_9 tw_1421 tw_1419 tw_1420 tw_13 dd_Mo_in ⟨Nat.le_of_ble_eq_true rfl, Nat.le_of_ble_eq_true rfl, Nat.le_of_ble_eq_true rfl, Nat.le_of_ble_eq_true rfl⟩ (Nat.le_of_ble_eq_true rfl) rfl rfl rfl rfl ?_
  refine zo_ifneB d_Mo_back_12 rfl 15 rfl (fun c10 => ?_) (fun c10 => ?_)
  · rw [if_pos c10] at h
    refine zi_aload_n 0 d_Mo_back_21 rfl ?_
    obtain ⟨b11, eb11, h⟩ := zbind h
    refine zo_getR 25 zkd_11 5 d_Mo_back_22 eb11 rfl tw_1236 rfl ?_
    refine zi_iload_n 1 d_Mo_back_25 rfl ?_
    obtain ⟨v12, ev12, h⟩ := zbind h
    refine zo_zald 27 d_Mo_back_26 ev12 rfl ?_
    refine zi_if_ne (tgt := 37) d_Mo_back_27 rfl (fun c13 => ?_) (fun c13 => ?_)
    · rw [if_neg c13] at h
      refine zi_iconst 0 d_Mo_back_37 rfl ?_
      refine zi_istore_n [(2, .int 0), (0, .ref a0), (1, .int x1)] d_Mo_back_38 (by decide) rfl ?_
      refine zi_lo [(0, .ref a0), (1, .int x1), (2, .int 0)] [1, 2, 0] rfl ?_
      exact K_Mo_back_b39 n E S a0 x1 0 q9.2 r M'  h
    · rw [if_pos c13] at h
      refine zi_aload_n 0 d_Mo_back_30 rfl ?_
      refine zi_bipush (-2) d_Mo_back_31 rfl ?_
      obtain ⟨q14, eq14, h⟩ := zbind h
      refine zo_virt (k' := 0) (n' := 0) 36 [.int (-2)] [] [.int q14.1] zkd_11 (zgR_s eb11).1 (C_Mo_tell n E S a0 (-2) q9.2 q14.1 q14.2 eq14) d_Mo_back_33 tw_1410 tw_1407 tw_1409 ts_36 tw_13 dd_Mo_tell ⟨Nat.le_of_ble_eq_true rfl, Nat.le_of_ble_eq_true rfl, Nat.le_of_ble_eq_true rfl, Nat.le_of_ble_eq_true rfl⟩ (Nat.le_of_ble_eq_true rfl) rfl rfl rfl rfl ?_
      cases h
      exact zo_ret d_Mo_back_36 (Nat.le_of_ble_eq_true rfl) (Nat.le_of_ble_eq_true rfl) rfl
  · rw [if_neg c10] at h
    refine zi_aload_n 0 d_Mo_back_15 rfl ?_
    refine zi_iconst (-1) d_Mo_back_16 rfl ?_
    obtain ⟨u15, eu15, h⟩ := zbind h
    obtain ⟨q16, eq16, h⟩ := zbind h
    refine zo_virt (k' := 0) (n' := 0) 20 [.int (-1)] [] [.int q16.1] zkd_11 (zck_s eu15) (C_Mo_tell n E S a0 (-1) q9.2 q16.1 q16.2 eq16) d_Mo_back_17 tw_1410 tw_1407 tw_1409 ts_36 tw_13 dd_Mo_tell ⟨Nat.le_of_ble_eq_true rfl, Nat.le_of_ble_eq_true rfl, Nat.le_of_ble_eq_true rfl, Nat.le_of_ble_eq_true rfl⟩ (Nat.le_of_ble_eq_true rfl) rfl rfl rfl rfl ?_
    cases h
    exact zo_ret d_Mo_back_20 (Nat.le_of_ble_eq_true rfl) (Nat.le_of_ble_eq_true rfl) rfl
theorem C_Mo_back (n : Nat) (E : zE) (S : zS) (a0 : Nat) (x1 : Int32) (M : zH) (r : Int32) (M' : zH) (h : F_Mo_back n E S a0 x1 M = some (r, M')) : zC E Y_Mo_back [.ref a0, .int x1] S M (some (.int r), S, M') :=
  zC.of (Or.inl (show plainName "NightColanderModel" = true by decide)) (Nat.le_of_ble_eq_true rfl) (trivial) (K_Mo_back n E S a0 x1 M r M' h)
