/-! METHODS (printed by gen/build.py): Mo_of Mo_wanted Mo_holeAbove Mo_flowOn Mo_flow Mo_isTerm Mo_terms Mo_row Mo_peas Mo_four Mo_feed Mo_end Mo_fault Mo_isDigit Mo_isSmall Mo_next -/
theorem d_Mo_of_0 : decode (yB Y_Mo_of) 0 = .ok (.aload_n 0, 1) := by decide +kernel
theorem d_Mo_of_1 : decode (yB Y_Mo_of) 1 = .ok (.iconst 0, 1) := by decide +kernel
theorem d_Mo_of_2 : decode (yB Y_Mo_of) 2 = .ok (.putfield 156, 3) := by decide +kernel
theorem d_Mo_of_5 : decode (yB Y_Mo_of) 5 = .ok (.aload_n 0, 1) := by decide +kernel
theorem d_Mo_of_6 : decode (yB Y_Mo_of) 6 = .ok (.iload_n 1, 1) := by decide +kernel
theorem d_Mo_of_7 : decode (yB Y_Mo_of) 7 = .ok (.invokevirtual 214, 3) := by decide +kernel
theorem d_Mo_of_10 : decode (yB Y_Mo_of) 10 = .ok (.ifCond .eq 15, 3) := by decide +kernel
theorem d_Mo_of_13 : decode (yB Y_Mo_of) 13 = .ok (.iload_n 2, 1) := by decide +kernel
theorem d_Mo_of_14 : decode (yB Y_Mo_of) 14 = .ok (.i2l, 1) := by decide +kernel
theorem d_Mo_of_15 : decode (yB Y_Mo_of) 15 = .ok (.lconst 0, 1) := by decide +kernel
theorem d_Mo_of_16 : decode (yB Y_Mo_of) 16 = .ok (.ldc2_w 217, 3) := by decide +kernel
theorem d_Mo_of_19 : decode (yB Y_Mo_of) 19 = .ok (.invokestatic 176, 3) := by decide +kernel
theorem d_Mo_of_22 : decode (yB Y_Mo_of) 22 = .ok (.ifCond .ne 5, 3) := by decide +kernel
theorem d_Mo_of_25 : decode (yB Y_Mo_of) 25 = .ok (.iconst (-1), 1) := by decide +kernel
theorem d_Mo_of_26 : decode (yB Y_Mo_of) 26 = .ok (.ireturn, 1) := by decide +kernel
theorem d_Mo_of_27 : decode (yB Y_Mo_of) 27 = .ok (.iload_n 2, 1) := by decide +kernel
theorem d_Mo_of_28 : decode (yB Y_Mo_of) 28 = .ok (.tableswitch 87 0 4 #[36, 46, 56, 66, 72], 36) := by decide +kernel
theorem d_Mo_of_64 : decode (yB Y_Mo_of) 64 = .ok (.aload_n 0, 1) := by decide +kernel
theorem d_Mo_of_65 : decode (yB Y_Mo_of) 65 = .ok (.getfield 13, 3) := by decide +kernel
theorem d_Mo_of_68 : decode (yB Y_Mo_of) 68 = .ok (.bipush 54, 2) := by decide +kernel
theorem d_Mo_of_70 : decode (yB Y_Mo_of) 70 = .ok (.iload_n 1, 1) := by decide +kernel
theorem d_Mo_of_71 : decode (yB Y_Mo_of) 71 = .ok (.iadd, 1) := by decide +kernel
theorem d_Mo_of_72 : decode (yB Y_Mo_of) 72 = .ok (.iaload, 1) := by decide +kernel
theorem d_Mo_of_73 : decode (yB Y_Mo_of) 73 = .ok (.ireturn, 1) := by decide +kernel
theorem d_Mo_of_74 : decode (yB Y_Mo_of) 74 = .ok (.aload_n 0, 1) := by decide +kernel
theorem d_Mo_of_75 : decode (yB Y_Mo_of) 75 = .ok (.getfield 13, 3) := by decide +kernel
theorem d_Mo_of_78 : decode (yB Y_Mo_of) 78 = .ok (.bipush 48, 2) := by decide +kernel
theorem d_Mo_of_80 : decode (yB Y_Mo_of) 80 = .ok (.iload_n 1, 1) := by decide +kernel
theorem d_Mo_of_81 : decode (yB Y_Mo_of) 81 = .ok (.iadd, 1) := by decide +kernel
theorem d_Mo_of_82 : decode (yB Y_Mo_of) 82 = .ok (.iaload, 1) := by decide +kernel
theorem d_Mo_of_83 : decode (yB Y_Mo_of) 83 = .ok (.ireturn, 1) := by decide +kernel
theorem d_Mo_of_84 : decode (yB Y_Mo_of) 84 = .ok (.aload_n 0, 1) := by decide +kernel
theorem d_Mo_of_85 : decode (yB Y_Mo_of) 85 = .ok (.getfield 13, 3) := by decide +kernel
theorem d_Mo_of_88 : decode (yB Y_Mo_of) 88 = .ok (.bipush 51, 2) := by decide +kernel
theorem d_Mo_of_90 : decode (yB Y_Mo_of) 90 = .ok (.iload_n 1, 1) := by decide +kernel
theorem d_Mo_of_91 : decode (yB Y_Mo_of) 91 = .ok (.iadd, 1) := by decide +kernel
theorem d_Mo_of_92 : decode (yB Y_Mo_of) 92 = .ok (.iaload, 1) := by decide +kernel
theorem d_Mo_of_93 : decode (yB Y_Mo_of) 93 = .ok (.ireturn, 1) := by decide +kernel
theorem d_Mo_of_94 : decode (yB Y_Mo_of) 94 = .ok (.aload_n 0, 1) := by decide +kernel
theorem d_Mo_of_95 : decode (yB Y_Mo_of) 95 = .ok (.iload_n 1, 1) := by decide +kernel
theorem d_Mo_of_96 : decode (yB Y_Mo_of) 96 = .ok (.invokevirtual 219, 3) := by decide +kernel
theorem d_Mo_of_99 : decode (yB Y_Mo_of) 99 = .ok (.ireturn, 1) := by decide +kernel
theorem d_Mo_of_100 : decode (yB Y_Mo_of) 100 = .ok (.aload_n 0, 1) := by decide +kernel
theorem d_Mo_of_101 : decode (yB Y_Mo_of) 101 = .ok (.iload_n 1, 1) := by decide +kernel
theorem d_Mo_of_102 : decode (yB Y_Mo_of) 102 = .ok (.aload_n 0, 1) := by decide +kernel
theorem d_Mo_of_103 : decode (yB Y_Mo_of) 103 = .ok (.getfield 13, 3) := by decide +kernel
theorem d_Mo_of_106 : decode (yB Y_Mo_of) 106 = .ok (.bipush 51, 2) := by decide +kernel
theorem d_Mo_of_108 : decode (yB Y_Mo_of) 108 = .ok (.iload_n 1, 1) := by decide +kernel
theorem d_Mo_of_109 : decode (yB Y_Mo_of) 109 = .ok (.iadd, 1) := by decide +kernel
theorem d_Mo_of_110 : decode (yB Y_Mo_of) 110 = .ok (.iaload, 1) := by decide +kernel
theorem d_Mo_of_111 : decode (yB Y_Mo_of) 111 = .ok (.invokevirtual 222, 3) := by decide +kernel
theorem d_Mo_of_114 : decode (yB Y_Mo_of) 114 = .ok (.ireturn, 1) := by decide +kernel
theorem d_Mo_of_115 : decode (yB Y_Mo_of) 115 = .ok (.aload_n 0, 1) := by decide +kernel
theorem d_Mo_of_116 : decode (yB Y_Mo_of) 116 = .ok (.iload_n 1, 1) := by decide +kernel
theorem d_Mo_of_117 : decode (yB Y_Mo_of) 117 = .ok (.iload_n 2, 1) := by decide +kernel
theorem d_Mo_of_118 : decode (yB Y_Mo_of) 118 = .ok (.iconst 5, 1) := by decide +kernel
theorem d_Mo_of_119 : decode (yB Y_Mo_of) 119 = .ok (.isub, 1) := by decide +kernel
theorem d_Mo_of_120 : decode (yB Y_Mo_of) 120 = .ok (.invokevirtual 225, 3) := by decide +kernel
theorem d_Mo_of_123 : decode (yB Y_Mo_of) 123 = .ok (.ifCond .eq 7, 3) := by decide +kernel
theorem d_Mo_of_126 : decode (yB Y_Mo_of) 126 = .ok (.iconst 1, 1) := by decide +kernel
theorem d_Mo_of_127 : decode (yB Y_Mo_of) 127 = .ok (.goto 4, 3) := by decide +kernel
theorem d_Mo_of_130 : decode (yB Y_Mo_of) 130 = .ok (.iconst 0, 1) := by decide +kernel
theorem d_Mo_of_131 : decode (yB Y_Mo_of) 131 = .ok (.ireturn, 1) := by decide +kernel
def F_Mo_of (n : Nat) (E : zE) (S : zS) (a0 : Nat) (x1 : Int32) (x2 : Int32) (M : zH) : Option (Int32 × zH) :=
  (zpI S M a0 11 0 0).bind fun m_1 =>
  (zck S a0 11).bind fun u_2 =>
  (F_Mo_isBucket n E S a0 x1 m_1).bind fun q_3 =>
  if q_3.1 = true then
    (F_Mo_in n E S x2.toInt64 0 12 q_3.2).bind fun q_5 =>
    if q_5.1 = true then
      if x2 = 0 then
        (zgR S a0 11 3).bind fun b_8 =>
        (zldI S q_5.2 b_8 (54 + x1)).bind fun v_9 =>
        some (v_9, q_5.2)
      else
      if x2 = 1 then
        (zgR S a0 11 3).bind fun b_11 =>
        (zldI S q_5.2 b_11 (48 + x1)).bind fun v_12 =>
        some (v_12, q_5.2)
      else
      if x2 = 2 then
        (zgR S a0 11 3).bind fun b_14 =>
        (zldI S q_5.2 b_14 (51 + x1)).bind fun v_15 =>
        some (v_15, q_5.2)
      else
      if x2 = 3 then
        (F_Mo_leaksOf n E S a0 x1 q_5.2).bind fun q_17 =>
        some (q_17.1, q_17.2)
      else
      if x2 = 4 then
        (zgR S a0 11 3).bind fun b_19 =>
        (zldI S q_5.2 b_19 (51 + x1)).bind fun v_20 =>
        (F_Mo_paysOf n E S a0 x1 v_20 q_5.2).bind fun q_21 =>
        some (q_21.1, q_21.2)
      else
        (F_Mo_isBarred n E S a0 x1 (x2 - 5) q_5.2).bind fun q_22 =>
        if q_22.1 = true then
          some (1, q_22.2)
        else
          some (0, q_22.2)
    else
      some ((-1), q_5.2)
  else
    some ((-1), q_3.2)
theorem K_Mo_of (n : Nat) (E : zE) (S : zS) (a0 : Nat) (x1 : Int32) (x2 : Int32) (M : zH) (r : Int32) (M' : zH)  (h : F_Mo_of n E S a0 x1 x2 M = some (r, M')) : zG E Y_Mo_of (some (.int r), S, M') 0 [(0, .ref a0), (1, .int x1), (2, .int x2)] [] S M 0 0 := by
  unfold F_Mo_of at h
  refine zi_aload_n 0 d_Mo_of_0 rfl ?_
  refine zi_iconst 0 d_Mo_of_1 rfl ?_
  obtain ⟨m_1, em_1, h⟩ := zbind h
  refine zo_putI 5 zkd_11 0 d_Mo_of_2 em_1 rfl rfl rfl tw_1231 rfl ?_
  refine zi_aload_n 0 d_Mo_of_5 rfl ?_
  refine zi_iload_n 1 d_Mo_of_6 rfl ?_
  obtain ⟨u_2, eu_2, h⟩ := zbind h
  obtain ⟨q_3, eq_3, h⟩ := zbind h
  refine zo_virt (k' := 0) (n' := 0) 10 [.int x1] [] [.int (bI q_3.1)] zkd_11 (zck_s eu_2) (C_Mo_isBucket n E S a0 x1 m_1 q_3.1 q_3.2 eq_3) d_Mo_of_7 tw_1465 tw_1462 tw_1464 ts_43 tw_13 dd_Mo_isBucket ⟨Nat.le_of_ble_eq_true rfl, Nat.le_of_ble_eq_true rfl, Nat.le_of_ble_eq_true rfl, Nat.le_of_ble_eq_true rfl⟩ (Nat.le_of_ble_eq_true rfl) rfl rfl rfl rfl ?_
  refine zo_ifeqB d_Mo_of_10 rfl 13 rfl (fun c_4 => ?_) (fun c_4 => ?_)
  · rw [if_neg c_4] at h
    refine zi_iconst (-1) d_Mo_of_25 rfl ?_
    cases h
    exact zo_ret d_Mo_of_26 (Nat.le_of_ble_eq_true rfl) (Nat.le_of_ble_eq_true rfl) rfl
  · rw [if_pos c_4] at h
    refine zi_iload_n 2 d_Mo_of_13 rfl ?_
    refine zi_i2l d_Mo_of_14 ?_
    refine zi_lconst 0 d_Mo_of_15 rfl ?_
    refine zi_ldc2 d_Mo_of_16 tw_1496 ?_
    obtain ⟨q_5, eq_5, h⟩ := zbind h
    refine zo_stat (k' := 0) (n' := 0) 22 [.long x2.toInt64, .long 0, .long 12] [] [.int (bI q_5.1)] (C_Mo_in n E S x2.toInt64 0 12 q_3.2 q_5.1 q_5.2 eq_5) d_Mo_of_19 tw_1421 tw_1419 tw_1420 tw_13 dd_Mo_in ⟨Nat.le_of_ble_eq_true rfl, Nat.le_of_ble_eq_true rfl, Nat.le_of_ble_eq_true rfl, Nat.le_of_ble_eq_true rfl⟩ (Nat.le_of_ble_eq_true rfl) rfl rfl rfl rfl ?_
    refine zo_ifneB d_Mo_of_22 rfl 25 rfl (fun c_6 => ?_) (fun c_6 => ?_)
    · rw [if_pos c_6] at h
      refine zi_iload_n 2 d_Mo_of_27 rfl ?_
      by_cases c_7 : x2 = 0
      · rw [if_pos c_7] at h
        refine zo_tab (tgt := 64) 0 d_Mo_of_28 c_7 (by decide) (by decide) rfl rfl ?_
        refine zi_aload_n 0 d_Mo_of_64 rfl ?_
        obtain ⟨b_8, eb_8, h⟩ := zbind h
        refine zo_getR 68 zkd_11 3 d_Mo_of_65 eb_8 rfl tw_1234 rfl ?_
        refine zi_bipush 54 d_Mo_of_68 rfl ?_
        refine zi_iload_n 1 d_Mo_of_70 rfl ?_
        refine zi_iadd d_Mo_of_71 ?_
        obtain ⟨v_9, ev_9, h⟩ := zbind h
        refine zo_iald 73 d_Mo_of_72 ev_9 rfl ?_
        cases h
        exact zo_ret d_Mo_of_73 (Nat.le_of_ble_eq_true rfl) (Nat.le_of_ble_eq_true rfl) rfl
      rw [if_neg c_7] at h
      by_cases c_10 : x2 = 1
      · rw [if_pos c_10] at h
        refine zo_tab (tgt := 74) 1 d_Mo_of_28 c_10 (by decide) (by decide) rfl rfl ?_
        refine zi_aload_n 0 d_Mo_of_74 rfl ?_
        obtain ⟨b_11, eb_11, h⟩ := zbind h
        refine zo_getR 78 zkd_11 3 d_Mo_of_75 eb_11 rfl tw_1234 rfl ?_
        refine zi_bipush 48 d_Mo_of_78 rfl ?_
        refine zi_iload_n 1 d_Mo_of_80 rfl ?_
        refine zi_iadd d_Mo_of_81 ?_
        obtain ⟨v_12, ev_12, h⟩ := zbind h
        refine zo_iald 83 d_Mo_of_82 ev_12 rfl ?_
        cases h
        exact zo_ret d_Mo_of_83 (Nat.le_of_ble_eq_true rfl) (Nat.le_of_ble_eq_true rfl) rfl
      rw [if_neg c_10] at h
      by_cases c_13 : x2 = 2
      · rw [if_pos c_13] at h
        refine zo_tab (tgt := 84) 2 d_Mo_of_28 c_13 (by decide) (by decide) rfl rfl ?_
        refine zi_aload_n 0 d_Mo_of_84 rfl ?_
        obtain ⟨b_14, eb_14, h⟩ := zbind h
        refine zo_getR 88 zkd_11 3 d_Mo_of_85 eb_14 rfl tw_1234 rfl ?_
        refine zi_bipush 51 d_Mo_of_88 rfl ?_
        refine zi_iload_n 1 d_Mo_of_90 rfl ?_
        refine zi_iadd d_Mo_of_91 ?_
        obtain ⟨v_15, ev_15, h⟩ := zbind h
        refine zo_iald 93 d_Mo_of_92 ev_15 rfl ?_
        cases h
        exact zo_ret d_Mo_of_93 (Nat.le_of_ble_eq_true rfl) (Nat.le_of_ble_eq_true rfl) rfl
      rw [if_neg c_13] at h
      by_cases c_16 : x2 = 3
      · rw [if_pos c_16] at h
        refine zo_tab (tgt := 94) 3 d_Mo_of_28 c_16 (by decide) (by decide) rfl rfl ?_
        refine zi_aload_n 0 d_Mo_of_94 rfl ?_
        refine zi_iload_n 1 d_Mo_of_95 rfl ?_
        obtain ⟨q_17, eq_17, h⟩ := zbind h
        refine zo_virt (k' := 0) (n' := 0) 99 [.int x1] [] [.int q_17.1] zkd_11 (zck_s eu_2) (C_Mo_leaksOf n E S a0 x1 q_5.2 q_17.1 q_17.2 eq_17) d_Mo_of_96 tw_1500 tw_1497 tw_1499 ts_47 tw_13 dd_Mo_leaksOf ⟨Nat.le_of_ble_eq_true rfl, Nat.le_of_ble_eq_true rfl, Nat.le_of_ble_eq_true rfl, Nat.le_of_ble_eq_true rfl⟩ (Nat.le_of_ble_eq_true rfl) rfl rfl rfl rfl ?_
        cases h
        exact zo_ret d_Mo_of_99 (Nat.le_of_ble_eq_true rfl) (Nat.le_of_ble_eq_true rfl) rfl
      rw [if_neg c_16] at h
      by_cases c_18 : x2 = 4
      · rw [if_pos c_18] at h
        refine zo_tab (tgt := 100) 4 d_Mo_of_28 c_18 (by decide) (by decide) rfl rfl ?_
        refine zi_aload_n 0 d_Mo_of_100 rfl ?_
        refine zi_iload_n 1 d_Mo_of_101 rfl ?_
        refine zi_aload_n 0 d_Mo_of_102 rfl ?_
        obtain ⟨b_19, eb_19, h⟩ := zbind h
        refine zo_getR 106 zkd_11 3 d_Mo_of_103 eb_19 rfl tw_1234 rfl ?_
        refine zi_bipush 51 d_Mo_of_106 rfl ?_
        refine zi_iload_n 1 d_Mo_of_108 rfl ?_
        refine zi_iadd d_Mo_of_109 ?_
        obtain ⟨v_20, ev_20, h⟩ := zbind h
        refine zo_iald 111 d_Mo_of_110 ev_20 rfl ?_
        obtain ⟨q_21, eq_21, h⟩ := zbind h
        refine zo_virt (k' := 0) (n' := 0) 114 [.int x1, .int v_20] [] [.int q_21.1] zkd_11 (zck_s eu_2) (C_Mo_paysOf n E S a0 x1 v_20 q_5.2 q_21.1 q_21.2 eq_21) d_Mo_of_111 tw_1508 tw_1505 tw_1507 ts_49 tw_13 dd_Mo_paysOf ⟨Nat.le_of_ble_eq_true rfl, Nat.le_of_ble_eq_true rfl, Nat.le_of_ble_eq_true rfl, Nat.le_of_ble_eq_true rfl⟩ (Nat.le_of_ble_eq_true rfl) rfl rfl rfl rfl ?_
        cases h
        exact zo_ret d_Mo_of_114 (Nat.le_of_ble_eq_true rfl) (Nat.le_of_ble_eq_true rfl) rfl
      rw [if_neg c_18] at h
      refine zo_tabP (tgt := 115) 0 5 d_Mo_of_28 rfl rfl (fun j hj => by match j, hj with | 0, _ => exact c_7  | 1, _ => exact c_10  | 2, _ => exact c_13  | 3, _ => exact c_16  | 4, _ => exact c_18 | j + 5, hj => exact absurd hj (by omega)) rfl ?_
      refine zi_aload_n 0 d_Mo_of_115 rfl ?_
      refine zi_iload_n 1 d_Mo_of_116 rfl ?_
      refine zi_iload_n 2 d_Mo_of_117 rfl ?_
      refine zi_iconst 5 d_Mo_of_118 rfl ?_
      refine zi_isub d_Mo_of_119 ?_
      obtain ⟨q_22, eq_22, h⟩ := zbind h
      refine zo_virt (k' := 0) (n' := 0) 123 [.int x1, .int (x2 - 5)] [] [.int (bI q_22.1)] zkd_11 (zck_s eu_2) (C_Mo_isBarred n E S a0 x1 (x2 - 5) q_5.2 q_22.1 q_22.2 eq_22) d_Mo_of_120 tw_1512 tw_1509 tw_1511 ts_50 tw_13 dd_Mo_isBarred ⟨Nat.le_of_ble_eq_true rfl, Nat.le_of_ble_eq_true rfl, Nat.le_of_ble_eq_true rfl, Nat.le_of_ble_eq_true rfl⟩ (Nat.le_of_ble_eq_true rfl) rfl rfl rfl rfl ?_
      refine zo_ifeqB d_Mo_of_123 rfl 126 rfl (fun c_23 => ?_) (fun c_23 => ?_)
      · rw [if_neg c_23] at h
        refine zi_iconst 0 d_Mo_of_130 rfl ?_
        cases h
        exact zo_ret d_Mo_of_131 (Nat.le_of_ble_eq_true rfl) (Nat.le_of_ble_eq_true rfl) rfl
      · rw [if_pos c_23] at h
        refine zi_iconst 1 d_Mo_of_126 rfl ?_
        refine zi_goto (tgt := 131) d_Mo_of_127 rfl ?_
        cases h
        exact zo_ret d_Mo_of_131 (Nat.le_of_ble_eq_true rfl) (Nat.le_of_ble_eq_true rfl) rfl
    · rw [if_neg c_6] at h
      refine zi_iconst (-1) d_Mo_of_25 rfl ?_
      cases h
      exact zo_ret d_Mo_of_26 (Nat.le_of_ble_eq_true rfl) (Nat.le_of_ble_eq_true rfl) rfl
theorem C_Mo_of (n : Nat) (E : zE) (S : zS) (a0 : Nat) (x1 : Int32) (x2 : Int32) (M : zH) (r : Int32) (M' : zH) (h : F_Mo_of n E S a0 x1 x2 M = some (r, M')) : zC E Y_Mo_of [.ref a0, .int x1, .int x2] S M (some (.int r), S, M') :=
  zC.of (Or.inl (show plainName "NightColanderModel" = true by decide)) (Nat.le_of_ble_eq_true rfl) (trivial) (K_Mo_of n E S a0 x1 x2 M r M' h)
theorem d_Mo_wanted_0 : decode (yB Y_Mo_wanted) 0 = .ok (.aload_n 0, 1) := by decide +kernel
theorem d_Mo_wanted_1 : decode (yB Y_Mo_wanted) 1 = .ok (.iconst 0, 1) := by decide +kernel
theorem d_Mo_wanted_2 : decode (yB Y_Mo_wanted) 2 = .ok (.putfield 156, 3) := by decide +kernel
theorem d_Mo_wanted_5 : decode (yB Y_Mo_wanted) 5 = .ok (.iload_n 1, 1) := by decide +kernel
theorem d_Mo_wanted_6 : decode (yB Y_Mo_wanted) 6 = .ok (.invokestatic 194, 3) := by decide +kernel
theorem d_Mo_wanted_9 : decode (yB Y_Mo_wanted) 9 = .ok (.ifCond .eq 29, 3) := by decide +kernel
theorem d_Mo_wanted_12 : decode (yB Y_Mo_wanted) 12 = .ok (.iload_n 2, 1) := by decide +kernel
theorem d_Mo_wanted_13 : decode (yB Y_Mo_wanted) 13 = .ok (.i2l, 1) := by decide +kernel
theorem d_Mo_wanted_14 : decode (yB Y_Mo_wanted) 14 = .ok (.ldc2_w 228, 3) := by decide +kernel
theorem d_Mo_wanted_17 : decode (yB Y_Mo_wanted) 17 = .ok (.ldc2_w 230, 3) := by decide +kernel
theorem d_Mo_wanted_20 : decode (yB Y_Mo_wanted) 20 = .ok (.invokestatic 176, 3) := by decide +kernel
theorem d_Mo_wanted_23 : decode (yB Y_Mo_wanted) 23 = .ok (.ifCond .eq 15, 3) := by decide +kernel
theorem d_Mo_wanted_26 : decode (yB Y_Mo_wanted) 26 = .ok (.aload_n 0, 1) := by decide +kernel
theorem d_Mo_wanted_27 : decode (yB Y_Mo_wanted) 27 = .ok (.bipush 57, 2) := by decide +kernel
theorem d_Mo_wanted_29 : decode (yB Y_Mo_wanted) 29 = .ok (.iload_n 1, 1) := by decide +kernel
theorem d_Mo_wanted_30 : decode (yB Y_Mo_wanted) 30 = .ok (.iadd, 1) := by decide +kernel
theorem d_Mo_wanted_31 : decode (yB Y_Mo_wanted) 31 = .ok (.iload_n 2, 1) := by decide +kernel
theorem d_Mo_wanted_32 : decode (yB Y_Mo_wanted) 32 = .ok (.invokevirtual 205, 3) := by decide +kernel
theorem d_Mo_wanted_35 : decode (yB Y_Mo_wanted) 35 = .ok (.goto 8, 3) := by decide +kernel
theorem d_Mo_wanted_38 : decode (yB Y_Mo_wanted) 38 = .ok (.aload_n 0, 1) := by decide +kernel
theorem d_Mo_wanted_39 : decode (yB Y_Mo_wanted) 39 = .ok (.iconst (-1), 1) := by decide +kernel
theorem d_Mo_wanted_40 : decode (yB Y_Mo_wanted) 40 = .ok (.invokevirtual 165, 3) := by decide +kernel
theorem d_Mo_wanted_43 : decode (yB Y_Mo_wanted) 43 = .ok (.ireturn, 1) := by decide +kernel
def F_Mo_wanted_b38 (n : Nat) (E : zE) (S : zS) (a0 : Nat) (M : zH) : Option (Int32 × zH) :=
  (zck S a0 11).bind fun u_1 =>
  (F_Mo_tell n E S a0 (-1) M).bind fun q_2 =>
  some (q_2.1, q_2.2)
def F_Mo_wanted (n : Nat) (E : zE) (S : zS) (a0 : Nat) (x1 : Int32) (x2 : Int32) (M : zH) : Option (Int32 × zH) :=
  (zpI S M a0 11 0 0).bind fun m_3 =>
  (F_Mo_isField n E S x1 m_3).bind fun q_4 =>
  if q_4.1 = true then
    (F_Mo_in n E S x2.toInt64 (-1) 400 q_4.2).bind fun q_6 =>
    if q_6.1 = true then
      (zck S a0 11).bind fun u_8 =>
      (F_Mo_change n E S a0 (57 + x1) x2 q_6.2).bind fun q_9 =>
      some (q_9.1, q_9.2)
    else
      F_Mo_wanted_b38 n E S a0 q_6.2
  else
    F_Mo_wanted_b38 n E S a0 q_4.2
theorem K_Mo_wanted_b38 (n : Nat) (E : zE) (S : zS) (a0 : Nat) (M : zH) (r : Int32) (M' : zH)  (h : F_Mo_wanted_b38 n E S a0 M = some (r, M')) : zG E Y_Mo_wanted (some (.int r), S, M') 38 [(0, .ref a0)] [] S M 0 0 := by
  unfold F_Mo_wanted_b38 at h
  refine zi_aload_n 0 d_Mo_wanted_38 rfl ?_
  refine zi_iconst (-1) d_Mo_wanted_39 rfl ?_
  obtain ⟨u_1, eu_1, h⟩ := zbind h
  obtain ⟨q_2, eq_2, h⟩ := zbind h
  refine zo_virt (k' := 0) (n' := 0) 43 [.int (-1)] [] [.int q_2.1] zkd_11 (zck_s eu_1) (C_Mo_tell n E S a0 (-1) M q_2.1 q_2.2 eq_2) d_Mo_wanted_40 tw_1410 tw_1407 tw_1409 ts_36 tw_13 dd_Mo_tell ⟨Nat.le_of_ble_eq_true rfl, Nat.le_of_ble_eq_true rfl, Nat.le_of_ble_eq_true rfl, Nat.le_of_ble_eq_true rfl⟩ (Nat.le_of_ble_eq_true rfl) rfl rfl rfl rfl ?_
  cases h
  exact zo_ret d_Mo_wanted_43 (Nat.le_of_ble_eq_true rfl) (Nat.le_of_ble_eq_true rfl) rfl
theorem K_Mo_wanted (n : Nat) (E : zE) (S : zS) (a0 : Nat) (x1 : Int32) (x2 : Int32) (M : zH) (r : Int32) (M' : zH)  (h : F_Mo_wanted n E S a0 x1 x2 M = some (r, M')) : zG E Y_Mo_wanted (some (.int r), S, M') 0 [(0, .ref a0), (1, .int x1), (2, .int x2)] [] S M 0 0 := by
  unfold F_Mo_wanted at h
  refine zi_aload_n 0 d_Mo_wanted_0 rfl ?_
  refine zi_iconst 0 d_Mo_wanted_1 rfl ?_
  obtain ⟨m_3, em_3, h⟩ := zbind h
  refine zo_putI 5 zkd_11 0 d_Mo_wanted_2 em_3 rfl rfl rfl tw_1231 rfl ?_
  refine zi_iload_n 1 d_Mo_wanted_5 rfl ?_
  obtain ⟨q_4, eq_4, h⟩ := zbind h
  refine zo_stat (k' := 0) (n' := 0) 9 [.int x1] [] [.int (bI q_4.1)] (C_Mo_isField n E S x1 m_3 q_4.1 q_4.2 eq_4) d_Mo_wanted_6 tw_1440 tw_1438 tw_1439 tw_13 dd_Mo_isField ⟨Nat.le_of_ble_eq_true rfl, Nat.le_of_ble_eq_true rfl, Nat.le_of_ble_eq_true rfl, Nat.le_of_ble_eq_true rfl⟩ (Nat.le_of_ble_eq_true rfl) rfl rfl rfl rfl ?_
  refine zo_ifeqB d_Mo_wanted_9 rfl 12 rfl (fun c_5 => ?_) (fun c_5 => ?_)
  · rw [if_neg c_5] at h
    refine zi_lo [(0, .ref a0)] [0] rfl ?_
    exact K_Mo_wanted_b38 n E S a0 q_4.2 r M'  h
  · rw [if_pos c_5] at h
    refine zi_iload_n 2 d_Mo_wanted_12 rfl ?_
    refine zi_i2l d_Mo_wanted_13 ?_
    refine zi_ldc2 d_Mo_wanted_14 tw_1449 ?_
    refine zi_ldc2 d_Mo_wanted_17 tw_1517 ?_
    obtain ⟨q_6, eq_6, h⟩ := zbind h
    refine zo_stat (k' := 0) (n' := 0) 23 [.long x2.toInt64, .long (-1), .long 400] [] [.int (bI q_6.1)] (C_Mo_in n E S x2.toInt64 (-1) 400 q_4.2 q_6.1 q_6.2 eq_6) d_Mo_wanted_20 tw_1421 tw_1419 tw_1420 tw_13 dd_Mo_in ⟨Nat.le_of_ble_eq_true rfl, Nat.le_of_ble_eq_true rfl, Nat.le_of_ble_eq_true rfl, Nat.le_of_ble_eq_true rfl⟩ (Nat.le_of_ble_eq_true rfl) rfl rfl rfl rfl ?_
    refine zo_ifeqB d_Mo_wanted_23 rfl 26 rfl (fun c_7 => ?_) (fun c_7 => ?_)
    · rw [if_neg c_7] at h
      refine zi_lo [(0, .ref a0)] [0] rfl ?_
      exact K_Mo_wanted_b38 n E S a0 q_6.2 r M'  h
    · rw [if_pos c_7] at h
      refine zi_aload_n 0 d_Mo_wanted_26 rfl ?_
      refine zi_bipush 57 d_Mo_wanted_27 rfl ?_
      refine zi_iload_n 1 d_Mo_wanted_29 rfl ?_
      refine zi_iadd d_Mo_wanted_30 ?_
      refine zi_iload_n 2 d_Mo_wanted_31 rfl ?_
      obtain ⟨u_8, eu_8, h⟩ := zbind h
      obtain ⟨q_9, eq_9, h⟩ := zbind h
      refine zo_virt (k' := 0) (n' := 0) 35 [.int (57 + x1), .int x2] [] [.int q_9.1] zkd_11 (zck_s eu_8) (C_Mo_change n E S a0 (57 + x1) x2 q_6.2 q_9.1 q_9.2 eq_9) d_Mo_wanted_32 tw_1482 tw_1479 tw_1481 ts_45 tw_13 dd_Mo_change ⟨Nat.le_of_ble_eq_true rfl, Nat.le_of_ble_eq_true rfl, Nat.le_of_ble_eq_true rfl, Nat.le_of_ble_eq_true rfl⟩ (Nat.le_of_ble_eq_true rfl) rfl rfl rfl rfl ?_
      refine zi_goto (tgt := 43) d_Mo_wanted_35 rfl ?_
      cases h
      exact zo_ret d_Mo_wanted_43 (Nat.le_of_ble_eq_true rfl) (Nat.le_of_ble_eq_true rfl) rfl
theorem C_Mo_wanted (n : Nat) (E : zE) (S : zS) (a0 : Nat) (x1 : Int32) (x2 : Int32) (M : zH) (r : Int32) (M' : zH) (h : F_Mo_wanted n E S a0 x1 x2 M = some (r, M')) : zC E Y_Mo_wanted [.ref a0, .int x1, .int x2] S M (some (.int r), S, M') :=
  zC.of (Or.inl (show plainName "NightColanderModel" = true by decide)) (Nat.le_of_ble_eq_true rfl) (trivial) (K_Mo_wanted n E S a0 x1 x2 M r M' h)
theorem d_Mo_holeAbove_0 : decode (yB Y_Mo_holeAbove) 0 = .ok (.iload_n 2, 1) := by decide +kernel
theorem d_Mo_holeAbove_1 : decode (yB Y_Mo_holeAbove) 1 = .ok (.bipush 8, 2) := by decide +kernel
theorem d_Mo_holeAbove_3 : decode (yB Y_Mo_holeAbove) 3 = .ok (.iadd, 1) := by decide +kernel
theorem d_Mo_holeAbove_4 : decode (yB Y_Mo_holeAbove) 4 = .ok (.iload_n 3, 1) := by decide +kernel
theorem d_Mo_holeAbove_5 : decode (yB Y_Mo_holeAbove) 5 = .ok (.isub, 1) := by decide +kernel
theorem d_Mo_holeAbove_6 : decode (yB Y_Mo_holeAbove) 6 = .ok (.bipush 8, 2) := by decide +kernel
theorem d_Mo_holeAbove_8 : decode (yB Y_Mo_holeAbove) 8 = .ok (.irem, 1) := by decide +kernel
theorem d_Mo_holeAbove_9 : decode (yB Y_Mo_holeAbove) 9 = .ok (.ireturn, 1) := by decide +kernel
def F_Mo_holeAbove (n : Nat) (E : zE) (S : zS) (a0 : Nat) (x1 : Int32) (x2 : Int32) (x3 : Int32) (M : zH) : Option (Int32 × zH) :=
  (zremI ((x2 + 8) - x3) 8).bind fun v_1 =>
  some (v_1, M)
theorem K_Mo_holeAbove (n : Nat) (E : zE) (S : zS) (a0 : Nat) (x1 : Int32) (x2 : Int32) (x3 : Int32) (M : zH) (r : Int32) (M' : zH)  (h : F_Mo_holeAbove n E S a0 x1 x2 x3 M = some (r, M')) : zG E Y_Mo_holeAbove (some (.int r), S, M') 0 [(0, .ref a0), (1, .int x1), (2, .int x2), (3, .int x3)] [] S M 0 0 := by
  unfold F_Mo_holeAbove at h
  refine zi_iload_n 2 d_Mo_holeAbove_0 rfl ?_
  refine zi_bipush 8 d_Mo_holeAbove_1 rfl ?_
  refine zi_iadd d_Mo_holeAbove_3 ?_
  refine zi_iload_n 3 d_Mo_holeAbove_4 rfl ?_
  refine zi_isub d_Mo_holeAbove_5 ?_
  refine zi_bipush 8 d_Mo_holeAbove_6 rfl ?_
  obtain ⟨v_1, ev_1, h⟩ := zbind h
  refine zo_irem 9 d_Mo_holeAbove_8 ev_1 rfl ?_
  cases h
  exact zo_ret d_Mo_holeAbove_9 (Nat.le_of_ble_eq_true rfl) (Nat.le_of_ble_eq_true rfl) rfl
theorem C_Mo_holeAbove (n : Nat) (E : zE) (S : zS) (a0 : Nat) (x1 : Int32) (x2 : Int32) (x3 : Int32) (M : zH) (r : Int32) (M' : zH) (h : F_Mo_holeAbove n E S a0 x1 x2 x3 M = some (r, M')) : zC E Y_Mo_holeAbove [.ref a0, .int x1, .int x2, .int x3] S M (some (.int r), S, M') :=
  zC.of (Or.inl (show plainName "NightColanderModel" = true by decide)) (Nat.le_of_ble_eq_true rfl) (trivial) (K_Mo_holeAbove n E S a0 x1 x2 x3 M r M' h)
theorem d_Mo_flowOn_0 : decode (yB Y_Mo_flowOn) 0 = .ok (.iconst 0, 1) := by decide +kernel
theorem d_Mo_flowOn_1 : decode (yB Y_Mo_flowOn) 1 = .ok (.istore_n 2, 1) := by decide +kernel
theorem d_Mo_flowOn_2 : decode (yB Y_Mo_flowOn) 2 = .ok (.iconst 0, 1) := by decide +kernel
theorem d_Mo_flowOn_3 : decode (yB Y_Mo_flowOn) 3 = .ok (.istore_n 3, 1) := by decide +kernel
theorem d_Mo_flowOn_4 : decode (yB Y_Mo_flowOn) 4 = .ok (.iload_n 3, 1) := by decide +kernel
theorem d_Mo_flowOn_5 : decode (yB Y_Mo_flowOn) 5 = .ok (.iconst 4, 1) := by decide +kernel
theorem d_Mo_flowOn_6 : decode (yB Y_Mo_flowOn) 6 = .ok (.if_icmp .ge 58, 3) := by decide +kernel
theorem d_Mo_flowOn_9 : decode (yB Y_Mo_flowOn) 9 = .ok (.aload_n 0, 1) := by decide +kernel
theorem d_Mo_flowOn_10 : decode (yB Y_Mo_flowOn) 10 = .ok (.iload_n 3, 1) := by decide +kernel
theorem d_Mo_flowOn_11 : decode (yB Y_Mo_flowOn) 11 = .ok (.iload_n 1, 1) := by decide +kernel
theorem d_Mo_flowOn_12 : decode (yB Y_Mo_flowOn) 12 = .ok (.aload_n 0, 1) := by decide +kernel
theorem d_Mo_flowOn_13 : decode (yB Y_Mo_flowOn) 13 = .ok (.getfield 13, 3) := by decide +kernel
theorem d_Mo_flowOn_16 : decode (yB Y_Mo_flowOn) 16 = .ok (.bipush 8, 2) := by decide +kernel
theorem d_Mo_flowOn_18 : decode (yB Y_Mo_flowOn) 18 = .ok (.iload_n 3, 1) := by decide +kernel
theorem d_Mo_flowOn_19 : decode (yB Y_Mo_flowOn) 19 = .ok (.iadd, 1) := by decide +kernel
theorem d_Mo_flowOn_20 : decode (yB Y_Mo_flowOn) 20 = .ok (.iaload, 1) := by decide +kernel
theorem d_Mo_flowOn_21 : decode (yB Y_Mo_flowOn) 21 = .ok (.invokevirtual 442, 3) := by decide +kernel
theorem d_Mo_flowOn_24 : decode (yB Y_Mo_flowOn) 24 = .ok (.istore 4, 2) := by decide +kernel
theorem d_Mo_flowOn_26 : decode (yB Y_Mo_flowOn) 26 = .ok (.iload_n 2, 1) := by decide +kernel
theorem d_Mo_flowOn_27 : decode (yB Y_Mo_flowOn) 27 = .ok (.aload_n 0, 1) := by decide +kernel
theorem d_Mo_flowOn_28 : decode (yB Y_Mo_flowOn) 28 = .ok (.getfield 13, 3) := by decide +kernel
theorem d_Mo_flowOn_31 : decode (yB Y_Mo_flowOn) 31 = .ok (.bipush 44, 2) := by decide +kernel
theorem d_Mo_flowOn_33 : decode (yB Y_Mo_flowOn) 33 = .ok (.iload_n 3, 1) := by decide +kernel
theorem d_Mo_flowOn_34 : decode (yB Y_Mo_flowOn) 34 = .ok (.iadd, 1) := by decide +kernel
theorem d_Mo_flowOn_35 : decode (yB Y_Mo_flowOn) 35 = .ok (.iaload, 1) := by decide +kernel
theorem d_Mo_flowOn_36 : decode (yB Y_Mo_flowOn) 36 = .ok (.iload 4, 2) := by decide +kernel
theorem d_Mo_flowOn_38 : decode (yB Y_Mo_flowOn) 38 = .ok (.invokestatic 197, 3) := by decide +kernel
theorem d_Mo_flowOn_41 : decode (yB Y_Mo_flowOn) 41 = .ok (.ifCond .eq 7, 3) := by decide +kernel
theorem d_Mo_flowOn_44 : decode (yB Y_Mo_flowOn) 44 = .ok (.iconst 0, 1) := by decide +kernel
theorem d_Mo_flowOn_45 : decode (yB Y_Mo_flowOn) 45 = .ok (.goto 11, 3) := by decide +kernel
theorem d_Mo_flowOn_48 : decode (yB Y_Mo_flowOn) 48 = .ok (.aload_n 0, 1) := by decide +kernel
theorem d_Mo_flowOn_49 : decode (yB Y_Mo_flowOn) 49 = .ok (.iload_n 3, 1) := by decide +kernel
theorem d_Mo_flowOn_50 : decode (yB Y_Mo_flowOn) 50 = .ok (.iload 4, 2) := by decide +kernel
theorem d_Mo_flowOn_52 : decode (yB Y_Mo_flowOn) 52 = .ok (.iload_n 1, 1) := by decide +kernel
theorem d_Mo_flowOn_53 : decode (yB Y_Mo_flowOn) 53 = .ok (.invokevirtual 201, 3) := by decide +kernel
theorem d_Mo_flowOn_56 : decode (yB Y_Mo_flowOn) 56 = .ok (.iadd, 1) := by decide +kernel
theorem d_Mo_flowOn_57 : decode (yB Y_Mo_flowOn) 57 = .ok (.istore_n 2, 1) := by decide +kernel
theorem d_Mo_flowOn_58 : decode (yB Y_Mo_flowOn) 58 = .ok (.iinc 3 1, 3) := by decide +kernel
theorem d_Mo_flowOn_61 : decode (yB Y_Mo_flowOn) 61 = .ok (.goto (-57), 3) := by decide +kernel
theorem d_Mo_flowOn_64 : decode (yB Y_Mo_flowOn) 64 = .ok (.iload_n 2, 1) := by decide +kernel
theorem d_Mo_flowOn_65 : decode (yB Y_Mo_flowOn) 65 = .ok (.ireturn, 1) := by decide +kernel
def F_Mo_flowOn_b56 (n : Nat) (E : zE) (S : zS) (r4 : Nat × Int32 × Int32 × Int32 × zH → Option (Int32 × zH)) (a0 : Nat) (x1 : Int32) (x3 : Int32) (s0 : Int32) (s1 : Int32) (M : zH) : Option (Int32 × zH) :=
  r4 (a0, x1, s1 + s0, x3 + 1, M)
def F_Mo_flowOn_L4 (n : Nat) (E : zE) (S : zS) (r4 : Nat × Int32 × Int32 × Int32 × zH → Option (Int32 × zH)) (a0 : Nat) (x1 : Int32) (x2 : Int32) (x3 : Int32) (M : zH) : Option (Int32 × zH) :=
  if 4 ≤ x3 then
    some (x2, M)
  else
    (zgR S a0 11 3).bind fun b_2 =>
    (zldI S M b_2 (8 + x3)).bind fun v_3 =>
    (F_Mo_holeAbove n E S a0 x3 x1 v_3 M).bind fun q_4 =>
    (zldI S q_4.2 b_2 (44 + x3)).bind fun v_5 =>
    (F_Mo_is n E S v_5 q_4.1 q_4.2).bind fun q_6 =>
    if q_6.1 = true then
      F_Mo_flowOn_b56 n E S r4 a0 x1 x3 0 x2 q_6.2
    else
      (F_Mo_runsOf n E S a0 x3 q_4.1 x1 q_6.2).bind fun q_8 =>
      F_Mo_flowOn_b56 n E S r4 a0 x1 x3 q_8.1 x2 q_8.2
def F_Mo_flowOn_b4 (n : Nat) (E : zE) (S : zS) : Nat × Int32 × Int32 × Int32 × zH → Option (Int32 × zH) := zfix (fun r4 s => F_Mo_flowOn_L4 n E S r4 s.1 s.2.1 s.2.2.1 s.2.2.2.1 s.2.2.2.2) n
def F_Mo_flowOn (n : Nat) (E : zE) (S : zS) (a0 : Nat) (x1 : Int32) (M : zH) : Option (Int32 × zH) :=
  F_Mo_flowOn_b4 n E S (a0, x1, 0, 0, M)
theorem K_Mo_flowOn_b56 (n : Nat) (E : zE) (S : zS) (r4 : Nat × Int32 × Int32 × Int32 × zH → Option (Int32 × zH)) (a0 : Nat) (x1 : Int32) (x3 : Int32) (s0 : Int32) (s1 : Int32) (M : zH) (r : Int32) (M' : zH) (hr4 : ∀ (a0 : Nat) (x1 : Int32) (x2 : Int32) (x3 : Int32) (M : zH), r4 (a0, x1, x2, x3, M) = some (r, M') → zG E Y_Mo_flowOn (some (.int r), S, M') 4 [(0, .ref a0), (1, .int x1), (2, .int x2), (3, .int x3)] [] S M 0 0) (h : F_Mo_flowOn_b56 n E S r4 a0 x1 x3 s0 s1 M = some (r, M')) : zG E Y_Mo_flowOn (some (.int r), S, M') 56 [(0, .ref a0), (1, .int x1), (3, .int x3)] [.int s0, .int s1] S M 0 0 := by
  unfold F_Mo_flowOn_b56 at h
  refine zi_iadd d_Mo_flowOn_56 ?_
  refine zi_istore_n [(2, .int (s1 + s0)), (0, .ref a0), (1, .int x1), (3, .int x3)] d_Mo_flowOn_57 (by decide) rfl ?_
  refine zi_iinc 3 (x3 + 1) [(3, .int (x3 + 1)), (2, .int (s1 + s0)), (0, .ref a0), (1, .int x1)] d_Mo_flowOn_58 rfl rfl (by decide) rfl ?_
  refine zi_goto (tgt := 4) d_Mo_flowOn_61 rfl ?_
  refine zi_lo [(0, .ref a0), (1, .int x1), (2, .int (s1 + s0)), (3, .int (x3 + 1))] [2, 3, 1, 0] rfl ?_
  exact hr4 a0 x1 (s1 + s0) (x3 + 1) M h
theorem K_Mo_flowOn_L4 (n : Nat) (E : zE) (S : zS) (r4 : Nat × Int32 × Int32 × Int32 × zH → Option (Int32 × zH)) (a0 : Nat) (x1 : Int32) (x2 : Int32) (x3 : Int32) (M : zH) (r : Int32) (M' : zH) (hr4 : ∀ (a0 : Nat) (x1 : Int32) (x2 : Int32) (x3 : Int32) (M : zH), r4 (a0, x1, x2, x3, M) = some (r, M') → zG E Y_Mo_flowOn (some (.int r), S, M') 4 [(0, .ref a0), (1, .int x1), (2, .int x2), (3, .int x3)] [] S M 0 0) (h : F_Mo_flowOn_L4 n E S r4 a0 x1 x2 x3 M = some (r, M')) : zG E Y_Mo_flowOn (some (.int r), S, M') 4 [(0, .ref a0), (1, .int x1), (2, .int x2), (3, .int x3)] [] S M 0 0 := by
  unfold F_Mo_flowOn_L4 at h
  refine zi_iload_n 3 d_Mo_flowOn_4 rfl ?_
  refine zi_iconst 4 d_Mo_flowOn_5 rfl ?_
  refine zi_icmp_ge (tgt := 64) d_Mo_flowOn_6 rfl (fun c_1 => ?_) (fun c_1 => ?_)
  · rw [if_pos c_1] at h
    refine zi_iload_n 2 d_Mo_flowOn_64 rfl ?_
    cases h
    exact zo_ret d_Mo_flowOn_65 (Nat.le_of_ble_eq_true rfl) (Nat.le_of_ble_eq_true rfl) rfl
  · rw [if_neg c_1] at h
    refine zi_aload_n 0 d_Mo_flowOn_9 rfl ?_
    refine zi_iload_n 3 d_Mo_flowOn_10 rfl ?_
    refine zi_iload_n 1 d_Mo_flowOn_11 rfl ?_
    refine zi_aload_n 0 d_Mo_flowOn_12 rfl ?_
    obtain ⟨b_2, eb_2, h⟩ := zbind h
    refine zo_getR 16 zkd_11 3 d_Mo_flowOn_13 eb_2 rfl tw_1234 rfl ?_
    refine zi_bipush 8 d_Mo_flowOn_16 rfl ?_
    refine zi_iload_n 3 d_Mo_flowOn_18 rfl ?_
    refine zi_iadd d_Mo_flowOn_19 ?_
    obtain ⟨v_3, ev_3, h⟩ := zbind h
    refine zo_iald 21 d_Mo_flowOn_20 ev_3 rfl ?_
    obtain ⟨q_4, eq_4, h⟩ := zbind h
    refine zo_virt (k' := 0) (n' := 0) 24 [.int x3, .int x1, .int v_3] [] [.int q_4.1] zkd_11 (zgR_s eb_2).1 (C_Mo_holeAbove n E S a0 x3 x1 v_3 M q_4.1 q_4.2 eq_4) d_Mo_flowOn_21 tw_1529 tw_1526 tw_1528 ts_52 tw_13 dd_Mo_holeAbove ⟨Nat.le_of_ble_eq_true rfl, Nat.le_of_ble_eq_true rfl, Nat.le_of_ble_eq_true rfl, Nat.le_of_ble_eq_true rfl⟩ (Nat.le_of_ble_eq_true rfl) rfl rfl rfl rfl ?_
    refine zi_istore [(4, .int q_4.1), (0, .ref a0), (1, .int x1), (2, .int x2), (3, .int x3)] d_Mo_flowOn_24 (by decide) rfl ?_
    refine zi_iload_n 3 d_Mo_flowOn_26 rfl ?_
    refine zi_aload_n 1 d_Mo_flowOn_27 rfl ?_
    refine zo_getR 31 zkd_11 3 d_Mo_flowOn_28 eb_2 rfl tw_1234 rfl ?_
    refine zi_bipush 44 d_Mo_flowOn_31 rfl ?_
    refine zi_iload_n 4 d_Mo_flowOn_33 rfl ?_
    refine zi_iadd d_Mo_flowOn_34 ?_
    obtain ⟨v_5, ev_5, h⟩ := zbind h
    refine zo_iald 36 d_Mo_flowOn_35 ev_5 rfl ?_
    refine zi_iload 0 d_Mo_flowOn_36 rfl ?_
    obtain ⟨q_6, eq_6, h⟩ := zbind h
    refine zo_stat (k' := 0) (n' := 0) 41 [.int v_5, .int q_4.1] [.int x2] [.int (bI q_6.1), .int x2] (C_Mo_is n E S v_5 q_4.1 q_4.2 q_6.1 q_6.2 eq_6) d_Mo_flowOn_38 tw_1444 tw_1442 tw_1443 tw_13 dd_Mo_is ⟨Nat.le_of_ble_eq_true rfl, Nat.le_of_ble_eq_true rfl, Nat.le_of_ble_eq_true rfl, Nat.le_of_ble_eq_true rfl⟩ (Nat.le_of_ble_eq_true rfl) rfl rfl rfl rfl ?_
    refine zo_ifeqB d_Mo_flowOn_41 rfl 44 rfl (fun c_7 => ?_) (fun c_7 => ?_)
    · rw [if_neg c_7] at h
      refine zi_aload_n 1 d_Mo_flowOn_48 rfl ?_
      refine zi_iload_n 4 d_Mo_flowOn_49 rfl ?_
      refine zi_iload 0 d_Mo_flowOn_50 rfl ?_
      refine zi_iload_n 2 d_Mo_flowOn_52 rfl ?_
      obtain ⟨q_8, eq_8, h⟩ := zbind h
      refine zo_virt (k' := 0) (n' := 0) 56 [.int x3, .int q_4.1, .int x1] [.int x2] [.int q_8.1, .int x2] zkd_11 (zgR_s eb_2).1 (C_Mo_runsOf n E S a0 x3 q_4.1 x1 q_6.2 q_8.1 q_8.2 eq_8) d_Mo_flowOn_53 tw_1448 tw_1445 tw_1447 ts_39 tw_13 dd_Mo_runsOf ⟨Nat.le_of_ble_eq_true rfl, Nat.le_of_ble_eq_true rfl, Nat.le_of_ble_eq_true rfl, Nat.le_of_ble_eq_true rfl⟩ (Nat.le_of_ble_eq_true rfl) rfl rfl rfl rfl ?_
      refine zi_lo [(0, .ref a0), (1, .int x1), (3, .int x3)] [1, 2, 4] rfl ?_
      exact K_Mo_flowOn_b56 n E S r4 a0 x1 x3 q_8.1 x2 q_8.2 r M' hr4 h
    · rw [if_pos c_7] at h
      refine zi_iconst 0 d_Mo_flowOn_44 rfl ?_
      refine zi_goto (tgt := 56) d_Mo_flowOn_45 rfl ?_
      refine zi_lo [(0, .ref a0), (1, .int x1), (3, .int x3)] [1, 2, 4] rfl ?_
      exact K_Mo_flowOn_b56 n E S r4 a0 x1 x3 0 x2 q_6.2 r M' hr4 h
theorem K_Mo_flowOn_b4 (n : Nat) (E : zE) (S : zS) (a0 : Nat) (x1 : Int32) (x2 : Int32) (x3 : Int32) (M : zH) (r : Int32) (M' : zH)  (h : F_Mo_flowOn_b4 n E S (a0, x1, x2, x3, M) = some (r, M')) : zG E Y_Mo_flowOn (some (.int r), S, M') 4 [(0, .ref a0), (1, .int x1), (2, .int x2), (3, .int x3)] [] S M 0 0 := by
  have key : ∀ (k : Nat) (a0 : Nat) (x1 : Int32) (x2 : Int32) (x3 : Int32) (M : zH), zfix (fun r4 s => F_Mo_flowOn_L4 n E S r4 s.1 s.2.1 s.2.2.1 s.2.2.2.1 s.2.2.2.2) k (a0, x1, x2, x3, M) = some (r, M') → zG E Y_Mo_flowOn (some (.int r), S, M') 4 [(0, .ref a0), (1, .int x1), (2, .int x2), (3, .int x3)] [] S M 0 0 := by
    intro k
    induction k with
    | zero => intro a0 x1 x2 x3 M h; cases h
    | succ k ih => intro a0 x1 x2 x3 M h; exact K_Mo_flowOn_L4 n E S _ a0 x1 x2 x3 M r M'  (fun a0 x1 x2 x3 M h => ih a0 x1 x2 x3 M h) h
  exact key n a0 x1 x2 x3 M h
theorem K_Mo_flowOn (n : Nat) (E : zE) (S : zS) (a0 : Nat) (x1 : Int32) (M : zH) (r : Int32) (M' : zH)  (h : F_Mo_flowOn n E S a0 x1 M = some (r, M')) : zG E Y_Mo_flowOn (some (.int r), S, M') 0 [(0, .ref a0), (1, .int x1)] [] S M 0 0 := by
  unfold F_Mo_flowOn at h
  refine zi_iconst 0 d_Mo_flowOn_0 rfl ?_
  refine zi_istore_n [(2, .int 0), (0, .ref a0), (1, .int x1)] d_Mo_flowOn_1 (by decide) rfl ?_
  refine zi_iconst 0 d_Mo_flowOn_2 rfl ?_
  refine zi_istore_n [(3, .int 0), (2, .int 0), (0, .ref a0), (1, .int x1)] d_Mo_flowOn_3 (by decide) rfl ?_
  refine zi_lo [(0, .ref a0), (1, .int x1), (2, .int 0), (3, .int 0)] [2, 3, 1, 0] rfl ?_
  exact K_Mo_flowOn_b4 n E S a0 x1 0 0 M r M'  h
theorem C_Mo_flowOn (n : Nat) (E : zE) (S : zS) (a0 : Nat) (x1 : Int32) (M : zH) (r : Int32) (M' : zH) (h : F_Mo_flowOn n E S a0 x1 M = some (r, M')) : zC E Y_Mo_flowOn [.ref a0, .int x1] S M (some (.int r), S, M') :=
  zC.of (Or.inl (show plainName "NightColanderModel" = true by decide)) (Nat.le_of_ble_eq_true rfl) (trivial) (K_Mo_flowOn n E S a0 x1 M r M' h)
theorem d_Mo_flow_0 : decode (yB Y_Mo_flow) 0 = .ok (.aload_n 0, 1) := by decide +kernel
theorem d_Mo_flow_1 : decode (yB Y_Mo_flow) 1 = .ok (.iconst 0, 1) := by decide +kernel
theorem d_Mo_flow_2 : decode (yB Y_Mo_flow) 2 = .ok (.putfield 156, 3) := by decide +kernel
theorem d_Mo_flow_5 : decode (yB Y_Mo_flow) 5 = .ok (.iload_n 1, 1) := by decide +kernel
theorem d_Mo_flow_6 : decode (yB Y_Mo_flow) 6 = .ok (.invokestatic 194, 3) := by decide +kernel
theorem d_Mo_flow_9 : decode (yB Y_Mo_flow) 9 = .ok (.ifCond .eq 11, 3) := by decide +kernel
theorem d_Mo_flow_12 : decode (yB Y_Mo_flow) 12 = .ok (.aload_n 0, 1) := by decide +kernel
theorem d_Mo_flow_13 : decode (yB Y_Mo_flow) 13 = .ok (.iload_n 1, 1) := by decide +kernel
theorem d_Mo_flow_14 : decode (yB Y_Mo_flow) 14 = .ok (.invokevirtual 232, 3) := by decide +kernel
theorem d_Mo_flow_17 : decode (yB Y_Mo_flow) 17 = .ok (.goto 4, 3) := by decide +kernel
theorem d_Mo_flow_20 : decode (yB Y_Mo_flow) 20 = .ok (.iconst (-1), 1) := by decide +kernel
theorem d_Mo_flow_21 : decode (yB Y_Mo_flow) 21 = .ok (.ireturn, 1) := by decide +kernel
def F_Mo_flow (n : Nat) (E : zE) (S : zS) (a0 : Nat) (x1 : Int32) (M : zH) : Option (Int32 × zH) :=
  (zpI S M a0 11 0 0).bind fun m_1 =>
  (F_Mo_isField n E S x1 m_1).bind fun q_2 =>
  if q_2.1 = true then
    (zck S a0 11).bind fun u_4 =>
    (F_Mo_flowOn n E S a0 x1 q_2.2).bind fun q_5 =>
    some (q_5.1, q_5.2)
  else
    some ((-1), q_2.2)
theorem K_Mo_flow (n : Nat) (E : zE) (S : zS) (a0 : Nat) (x1 : Int32) (M : zH) (r : Int32) (M' : zH)  (h : F_Mo_flow n E S a0 x1 M = some (r, M')) : zG E Y_Mo_flow (some (.int r), S, M') 0 [(0, .ref a0), (1, .int x1)] [] S M 0 0 := by
  unfold F_Mo_flow at h
  refine zi_aload_n 0 d_Mo_flow_0 rfl ?_
  refine zi_iconst 0 d_Mo_flow_1 rfl ?_
  obtain ⟨m_1, em_1, h⟩ := zbind h
  refine zo_putI 5 zkd_11 0 d_Mo_flow_2 em_1 rfl rfl rfl tw_1231 rfl ?_
  refine zi_iload_n 1 d_Mo_flow_5 rfl ?_
  obtain ⟨q_2, eq_2, h⟩ := zbind h
  refine zo_stat (k' := 0) (n' := 0) 9 [.int x1] [] [.int (bI q_2.1)] (C_Mo_isField n E S x1 m_1 q_2.1 q_2.2 eq_2) d_Mo_flow_6 tw_1440 tw_1438 tw_1439 tw_13 dd_Mo_isField ⟨Nat.le_of_ble_eq_true rfl, Nat.le_of_ble_eq_true rfl, Nat.le_of_ble_eq_true rfl, Nat.le_of_ble_eq_true rfl⟩ (Nat.le_of_ble_eq_true rfl) rfl rfl rfl rfl ?_
  refine zo_ifeqB d_Mo_flow_9 rfl 12 rfl (fun c_3 => ?_) (fun c_3 => ?_)
  · rw [if_neg c_3] at h
    refine zi_iconst (-1) d_Mo_flow_20 rfl ?_
    cases h
    exact zo_ret d_Mo_flow_21 (Nat.le_of_ble_eq_true rfl) (Nat.le_of_ble_eq_true rfl) rfl
  · rw [if_pos c_3] at h
    refine zi_aload_n 0 d_Mo_flow_12 rfl ?_
    refine zi_iload_n 1 d_Mo_flow_13 rfl ?_
    obtain ⟨u_4, eu_4, h⟩ := zbind h
    obtain ⟨q_5, eq_5, h⟩ := zbind h
    refine zo_virt (k' := 0) (n' := 0) 17 [.int x1] [] [.int q_5.1] zkd_11 (zck_s eu_4) (C_Mo_flowOn n E S a0 x1 q_2.2 q_5.1 q_5.2 eq_5) d_Mo_flow_14 tw_1525 tw_1522 tw_1524 ts_51 tw_13 dd_Mo_flowOn ⟨Nat.le_of_ble_eq_true rfl, Nat.le_of_ble_eq_true rfl, Nat.le_of_ble_eq_true rfl, Nat.le_of_ble_eq_true rfl⟩ (Nat.le_of_ble_eq_true rfl) rfl rfl rfl rfl ?_
    refine zi_goto (tgt := 21) d_Mo_flow_17 rfl ?_
    cases h
    exact zo_ret d_Mo_flow_21 (Nat.le_of_ble_eq_true rfl) (Nat.le_of_ble_eq_true rfl) rfl
theorem C_Mo_flow (n : Nat) (E : zE) (S : zS) (a0 : Nat) (x1 : Int32) (M : zH) (r : Int32) (M' : zH) (h : F_Mo_flow n E S a0 x1 M = some (r, M')) : zC E Y_Mo_flow [.ref a0, .int x1] S M (some (.int r), S, M') :=
  zC.of (Or.inl (show plainName "NightColanderModel" = true by decide)) (Nat.le_of_ble_eq_true rfl) (trivial) (K_Mo_flow n E S a0 x1 M r M' h)
theorem d_Mo_isTerm_0 : decode (yB Y_Mo_isTerm) 0 = .ok (.iload_n 0, 1) := by decide +kernel
theorem d_Mo_isTerm_1 : decode (yB Y_Mo_isTerm) 1 = .ok (.tableswitch 71 0 3 #[31, 41, 51, 61], 31) := by decide +kernel
theorem d_Mo_isTerm_32 : decode (yB Y_Mo_isTerm) 32 = .ok (.iload_n 1, 1) := by decide +kernel
theorem d_Mo_isTerm_33 : decode (yB Y_Mo_isTerm) 33 = .ok (.i2l, 1) := by decide +kernel
theorem d_Mo_isTerm_34 : decode (yB Y_Mo_isTerm) 34 = .ok (.lconst 0, 1) := by decide +kernel
theorem d_Mo_isTerm_35 : decode (yB Y_Mo_isTerm) 35 = .ok (.ldc2_w 235, 3) := by decide +kernel
theorem d_Mo_isTerm_38 : decode (yB Y_Mo_isTerm) 38 = .ok (.invokestatic 176, 3) := by decide +kernel
theorem d_Mo_isTerm_41 : decode (yB Y_Mo_isTerm) 41 = .ok (.ireturn, 1) := by decide +kernel
theorem d_Mo_isTerm_42 : decode (yB Y_Mo_isTerm) 42 = .ok (.iload_n 1, 1) := by decide +kernel
theorem d_Mo_isTerm_43 : decode (yB Y_Mo_isTerm) 43 = .ok (.i2l, 1) := by decide +kernel
theorem d_Mo_isTerm_44 : decode (yB Y_Mo_isTerm) 44 = .ok (.lconst 0, 1) := by decide +kernel
theorem d_Mo_isTerm_45 : decode (yB Y_Mo_isTerm) 45 = .ok (.ldc2_w 237, 3) := by decide +kernel
theorem d_Mo_isTerm_48 : decode (yB Y_Mo_isTerm) 48 = .ok (.invokestatic 176, 3) := by decide +kernel
theorem d_Mo_isTerm_51 : decode (yB Y_Mo_isTerm) 51 = .ok (.ireturn, 1) := by decide +kernel
theorem d_Mo_isTerm_52 : decode (yB Y_Mo_isTerm) 52 = .ok (.iload_n 1, 1) := by decide +kernel
theorem d_Mo_isTerm_53 : decode (yB Y_Mo_isTerm) 53 = .ok (.i2l, 1) := by decide +kernel
theorem d_Mo_isTerm_54 : decode (yB Y_Mo_isTerm) 54 = .ok (.lconst 0, 1) := by decide +kernel
theorem d_Mo_isTerm_55 : decode (yB Y_Mo_isTerm) 55 = .ok (.ldc2_w 237, 3) := by decide +kernel
theorem d_Mo_isTerm_58 : decode (yB Y_Mo_isTerm) 58 = .ok (.invokestatic 176, 3) := by decide +kernel
theorem d_Mo_isTerm_61 : decode (yB Y_Mo_isTerm) 61 = .ok (.ireturn, 1) := by decide +kernel
theorem d_Mo_isTerm_62 : decode (yB Y_Mo_isTerm) 62 = .ok (.iload_n 1, 1) := by decide +kernel
theorem d_Mo_isTerm_63 : decode (yB Y_Mo_isTerm) 63 = .ok (.i2l, 1) := by decide +kernel
theorem d_Mo_isTerm_64 : decode (yB Y_Mo_isTerm) 64 = .ok (.lconst 0, 1) := by decide +kernel
theorem d_Mo_isTerm_65 : decode (yB Y_Mo_isTerm) 65 = .ok (.ldc2_w 239, 3) := by decide +kernel
theorem d_Mo_isTerm_68 : decode (yB Y_Mo_isTerm) 68 = .ok (.invokestatic 176, 3) := by decide +kernel
theorem d_Mo_isTerm_71 : decode (yB Y_Mo_isTerm) 71 = .ok (.ireturn, 1) := by decide +kernel
theorem d_Mo_isTerm_72 : decode (yB Y_Mo_isTerm) 72 = .ok (.iconst 0, 1) := by decide +kernel
theorem d_Mo_isTerm_73 : decode (yB Y_Mo_isTerm) 73 = .ok (.ireturn, 1) := by decide +kernel
def F_Mo_isTerm (n : Nat) (E : zE) (S : zS) (x0 : Int32) (x1 : Int32) (M : zH) : Option (Bool × zH) :=
  if x0 = 0 then
    (F_Mo_in n E S x1.toInt64 0 999 M).bind fun q_2 =>
    some (q_2.1, q_2.2)
  else
  if x0 = 1 then
    (F_Mo_in n E S x1.toInt64 0 9 M).bind fun q_4 =>
    some (q_4.1, q_4.2)
  else
  if x0 = 2 then
    (F_Mo_in n E S x1.toInt64 0 9 M).bind fun q_6 =>
    some (q_6.1, q_6.2)
  else
  if x0 = 3 then
    (F_Mo_in n E S x1.toInt64 0 10 M).bind fun q_8 =>
    some (q_8.1, q_8.2)
  else
    some (false, M)
theorem K_Mo_isTerm (n : Nat) (E : zE) (S : zS) (x0 : Int32) (x1 : Int32) (M : zH) (r : Bool) (M' : zH)  (h : F_Mo_isTerm n E S x0 x1 M = some (r, M')) : zG E Y_Mo_isTerm (some (.int (bI r)), S, M') 0 [(0, .int x0), (1, .int x1)] [] S M 0 0 := by
  unfold F_Mo_isTerm at h
  refine zi_iload_n 0 d_Mo_isTerm_0 rfl ?_
  by_cases c_1 : x0 = 0
  · rw [if_pos c_1] at h
    refine zo_tab (tgt := 32) 0 d_Mo_isTerm_1 c_1 (by decide) (by decide) rfl rfl ?_
    refine zi_iload_n 1 d_Mo_isTerm_32 rfl ?_
    refine zi_i2l d_Mo_isTerm_33 ?_
    refine zi_lconst 0 d_Mo_isTerm_34 rfl ?_
    refine zi_ldc2 d_Mo_isTerm_35 tw_1537 ?_
    obtain ⟨q_2, eq_2, h⟩ := zbind h
    refine zo_stat (k' := 0) (n' := 0) 41 [.long x1.toInt64, .long 0, .long 999] [] [.int (bI q_2.1)] (C_Mo_in n E S x1.toInt64 0 999 M q_2.1 q_2.2 eq_2) d_Mo_isTerm_38 tw_1421 tw_1419 tw_1420 tw_13 dd_Mo_in ⟨Nat.le_of_ble_eq_true rfl, Nat.le_of_ble_eq_true rfl, Nat.le_of_ble_eq_true rfl, Nat.le_of_ble_eq_true rfl⟩ (Nat.le_of_ble_eq_true rfl) rfl rfl rfl rfl ?_
    cases h
    exact zo_retB d_Mo_isTerm_41 (Nat.le_of_ble_eq_true rfl) (Nat.le_of_ble_eq_true rfl) rfl
  rw [if_neg c_1] at h
  by_cases c_3 : x0 = 1
  · rw [if_pos c_3] at h
    refine zo_tab (tgt := 42) 1 d_Mo_isTerm_1 c_3 (by decide) (by decide) rfl rfl ?_
    refine zi_iload_n 1 d_Mo_isTerm_42 rfl ?_
    refine zi_i2l d_Mo_isTerm_43 ?_
    refine zi_lconst 0 d_Mo_isTerm_44 rfl ?_
    refine zi_ldc2 d_Mo_isTerm_45 tw_1538 ?_
    obtain ⟨q_4, eq_4, h⟩ := zbind h
    refine zo_stat (k' := 0) (n' := 0) 51 [.long x1.toInt64, .long 0, .long 9] [] [.int (bI q_4.1)] (C_Mo_in n E S x1.toInt64 0 9 M q_4.1 q_4.2 eq_4) d_Mo_isTerm_48 tw_1421 tw_1419 tw_1420 tw_13 dd_Mo_in ⟨Nat.le_of_ble_eq_true rfl, Nat.le_of_ble_eq_true rfl, Nat.le_of_ble_eq_true rfl, Nat.le_of_ble_eq_true rfl⟩ (Nat.le_of_ble_eq_true rfl) rfl rfl rfl rfl ?_
    cases h
    exact zo_retB d_Mo_isTerm_51 (Nat.le_of_ble_eq_true rfl) (Nat.le_of_ble_eq_true rfl) rfl
  rw [if_neg c_3] at h
  by_cases c_5 : x0 = 2
  · rw [if_pos c_5] at h
    refine zo_tab (tgt := 52) 2 d_Mo_isTerm_1 c_5 (by decide) (by decide) rfl rfl ?_
    refine zi_iload_n 1 d_Mo_isTerm_52 rfl ?_
    refine zi_i2l d_Mo_isTerm_53 ?_
    refine zi_lconst 0 d_Mo_isTerm_54 rfl ?_
    refine zi_ldc2 d_Mo_isTerm_55 tw_1538 ?_
    obtain ⟨q_6, eq_6, h⟩ := zbind h
    refine zo_stat (k' := 0) (n' := 0) 61 [.long x1.toInt64, .long 0, .long 9] [] [.int (bI q_6.1)] (C_Mo_in n E S x1.toInt64 0 9 M q_6.1 q_6.2 eq_6) d_Mo_isTerm_58 tw_1421 tw_1419 tw_1420 tw_13 dd_Mo_in ⟨Nat.le_of_ble_eq_true rfl, Nat.le_of_ble_eq_true rfl, Nat.le_of_ble_eq_true rfl, Nat.le_of_ble_eq_true rfl⟩ (Nat.le_of_ble_eq_true rfl) rfl rfl rfl rfl ?_
    cases h
    exact zo_retB d_Mo_isTerm_61 (Nat.le_of_ble_eq_true rfl) (Nat.le_of_ble_eq_true rfl) rfl
  rw [if_neg c_5] at h
  by_cases c_7 : x0 = 3
  · rw [if_pos c_7] at h
    refine zo_tab (tgt := 62) 3 d_Mo_isTerm_1 c_7 (by decide) (by decide) rfl rfl ?_
    refine zi_iload_n 1 d_Mo_isTerm_62 rfl ?_
    refine zi_i2l d_Mo_isTerm_63 ?_
    refine zi_lconst 0 d_Mo_isTerm_64 rfl ?_
    refine zi_ldc2 d_Mo_isTerm_65 tw_1539 ?_
    obtain ⟨q_8, eq_8, h⟩ := zbind h
    refine zo_stat (k' := 0) (n' := 0) 71 [.long x1.toInt64, .long 0, .long 10] [] [.int (bI q_8.1)] (C_Mo_in n E S x1.toInt64 0 10 M q_8.1 q_8.2 eq_8) d_Mo_isTerm_68 tw_1421 tw_1419 tw_1420 tw_13 dd_Mo_in ⟨Nat.le_of_ble_eq_true rfl, Nat.le_of_ble_eq_true rfl, Nat.le_of_ble_eq_true rfl, Nat.le_of_ble_eq_true rfl⟩ (Nat.le_of_ble_eq_true rfl) rfl rfl rfl rfl ?_
    cases h
    exact zo_retB d_Mo_isTerm_71 (Nat.le_of_ble_eq_true rfl) (Nat.le_of_ble_eq_true rfl) rfl
  rw [if_neg c_7] at h
  refine zo_tabP (tgt := 72) 0 4 d_Mo_isTerm_1 rfl rfl (fun j hj => by match j, hj with | 0, _ => exact c_1  | 1, _ => exact c_3  | 2, _ => exact c_5  | 3, _ => exact c_7 | j + 4, hj => exact absurd hj (by omega)) rfl ?_
  refine zi_iconst 0 d_Mo_isTerm_72 rfl ?_
  cases h
  exact zo_retB d_Mo_isTerm_73 (Nat.le_of_ble_eq_true rfl) (Nat.le_of_ble_eq_true rfl) rfl
theorem C_Mo_isTerm (n : Nat) (E : zE) (S : zS) (x0 : Int32) (x1 : Int32) (M : zH) (r : Bool) (M' : zH) (h : F_Mo_isTerm n E S x0 x1 M = some (r, M')) : zC E Y_Mo_isTerm [.int x0, .int x1] S M (some (.int (bI r)), S, M') :=
  zC.of (Or.inl (show plainName "NightColanderModel" = true by decide)) (Nat.le_of_ble_eq_true rfl) (bI_nar r) (K_Mo_isTerm n E S x0 x1 M r M' h)
theorem d_Mo_terms_0 : decode (yB Y_Mo_terms) 0 = .ok (.aload_n 0, 1) := by decide +kernel
theorem d_Mo_terms_1 : decode (yB Y_Mo_terms) 1 = .ok (.iconst 0, 1) := by decide +kernel
theorem d_Mo_terms_2 : decode (yB Y_Mo_terms) 2 = .ok (.putfield 156, 3) := by decide +kernel
theorem d_Mo_terms_5 : decode (yB Y_Mo_terms) 5 = .ok (.iload_n 1, 1) := by decide +kernel
theorem d_Mo_terms_6 : decode (yB Y_Mo_terms) 6 = .ok (.iload_n 2, 1) := by decide +kernel
theorem d_Mo_terms_7 : decode (yB Y_Mo_terms) 7 = .ok (.invokestatic 241, 3) := by decide +kernel
theorem d_Mo_terms_10 : decode (yB Y_Mo_terms) 10 = .ok (.ifCond .ne 9, 3) := by decide +kernel
theorem d_Mo_terms_13 : decode (yB Y_Mo_terms) 13 = .ok (.aload_n 0, 1) := by decide +kernel
theorem d_Mo_terms_14 : decode (yB Y_Mo_terms) 14 = .ok (.iconst (-1), 1) := by decide +kernel
theorem d_Mo_terms_15 : decode (yB Y_Mo_terms) 15 = .ok (.invokevirtual 165, 3) := by decide +kernel
theorem d_Mo_terms_18 : decode (yB Y_Mo_terms) 18 = .ok (.ireturn, 1) := by decide +kernel
theorem d_Mo_terms_19 : decode (yB Y_Mo_terms) 19 = .ok (.aload_n 0, 1) := by decide +kernel
theorem d_Mo_terms_20 : decode (yB Y_Mo_terms) 20 = .ok (.iconst 0, 1) := by decide +kernel
theorem d_Mo_terms_21 : decode (yB Y_Mo_terms) 21 = .ok (.putfield 162, 3) := by decide +kernel
theorem d_Mo_terms_24 : decode (yB Y_Mo_terms) 24 = .ok (.aload_n 0, 1) := by decide +kernel
theorem d_Mo_terms_25 : decode (yB Y_Mo_terms) 25 = .ok (.iconst 4, 1) := by decide +kernel
theorem d_Mo_terms_26 : decode (yB Y_Mo_terms) 26 = .ok (.iload_n 1, 1) := by decide +kernel
theorem d_Mo_terms_27 : decode (yB Y_Mo_terms) 27 = .ok (.iadd, 1) := by decide +kernel
theorem d_Mo_terms_28 : decode (yB Y_Mo_terms) 28 = .ok (.iload_n 2, 1) := by decide +kernel
theorem d_Mo_terms_29 : decode (yB Y_Mo_terms) 29 = .ok (.invokevirtual 205, 3) := by decide +kernel
theorem d_Mo_terms_32 : decode (yB Y_Mo_terms) 32 = .ok (.ireturn, 1) := by decide +kernel
def F_Mo_terms (n : Nat) (E : zE) (S : zS) (a0 : Nat) (x1 : Int32) (x2 : Int32) (M : zH) : Option (Int32 × zH) :=
  (zpI S M a0 11 0 0).bind fun m_1 =>
  (F_Mo_isTerm n E S x1 x2 m_1).bind fun q_2 =>
  if q_2.1 = true then
    (zpI S q_2.2 a0 11 8 0).bind fun m_4 =>
    (zck S a0 11).bind fun u_5 =>
    (F_Mo_change n E S a0 (4 + x1) x2 m_4).bind fun q_6 =>
    some (q_6.1, q_6.2)
  else
    (zck S a0 11).bind fun u_7 =>
    (F_Mo_tell n E S a0 (-1) q_2.2).bind fun q_8 =>
    some (q_8.1, q_8.2)
theorem K_Mo_terms (n : Nat) (E : zE) (S : zS) (a0 : Nat) (x1 : Int32) (x2 : Int32) (M : zH) (r : Int32) (M' : zH)  (h : F_Mo_terms n E S a0 x1 x2 M = some (r, M')) : zG E Y_Mo_terms (some (.int r), S, M') 0 [(0, .ref a0), (1, .int x1), (2, .int x2)] [] S M 0 0 := by
  unfold F_Mo_terms at h
  refine zi_aload_n 0 d_Mo_terms_0 rfl ?_
  refine zi_iconst 0 d_Mo_terms_1 rfl ?_
  obtain ⟨m_1, em_1, h⟩ := zbind h
  refine zo_putI 5 zkd_11 0 d_Mo_terms_2 em_1 rfl rfl rfl tw_1231 rfl ?_
  refine zi_iload_n 1 d_Mo_terms_5 rfl ?_
  refine zi_iload_n 2 d_Mo_terms_6 rfl ?_
  obtain ⟨q_2, eq_2, h⟩ := zbind h
  refine zo_stat (k' := 0) (n' := 0) 10 [.int x1, .int x2] [] [.int (bI q_2.1)] (C_Mo_isTerm n E S x1 x2 m_1 q_2.1 q_2.2 eq_2) d_Mo_terms_7 tw_1536 tw_1534 tw_1535 tw_13 dd_Mo_isTerm ⟨Nat.le_of_ble_eq_true rfl, Nat.le_of_ble_eq_true rfl, Nat.le_of_ble_eq_true rfl, Nat.le_of_ble_eq_true rfl⟩ (Nat.le_of_ble_eq_true rfl) rfl rfl rfl rfl ?_
  refine zo_ifneB d_Mo_terms_10 rfl 13 rfl (fun c_3 => ?_) (fun c_3 => ?_)
  · rw [if_pos c_3] at h
    refine zi_aload_n 0 d_Mo_terms_19 rfl ?_
    refine zi_iconst 0 d_Mo_terms_20 rfl ?_
    obtain ⟨m_4, em_4, h⟩ := zbind h
    refine zo_putI 24 zkd_11 8 d_Mo_terms_21 em_4 rfl rfl rfl tw_1239 rfl ?_
    refine zi_aload_n 0 d_Mo_terms_24 rfl ?_
    refine zi_iconst 4 d_Mo_terms_25 rfl ?_
    refine zi_iload_n 1 d_Mo_terms_26 rfl ?_
    refine zi_iadd d_Mo_terms_27 ?_
    refine zi_iload_n 2 d_Mo_terms_28 rfl ?_
    obtain ⟨u_5, eu_5, h⟩ := zbind h
    obtain ⟨q_6, eq_6, h⟩ := zbind h
    refine zo_virt (k' := 0) (n' := 0) 32 [.int (4 + x1), .int x2] [] [.int q_6.1] zkd_11 (zck_s eu_5) (C_Mo_change n E S a0 (4 + x1) x2 m_4 q_6.1 q_6.2 eq_6) d_Mo_terms_29 tw_1482 tw_1479 tw_1481 ts_45 tw_13 dd_Mo_change ⟨Nat.le_of_ble_eq_true rfl, Nat.le_of_ble_eq_true rfl, Nat.le_of_ble_eq_true rfl, Nat.le_of_ble_eq_true rfl⟩ (Nat.le_of_ble_eq_true rfl) rfl rfl rfl rfl ?_
    cases h
    exact zo_ret d_Mo_terms_32 (Nat.le_of_ble_eq_true rfl) (Nat.le_of_ble_eq_true rfl) rfl
  · rw [if_neg c_3] at h
    refine zi_aload_n 0 d_Mo_terms_13 rfl ?_
    refine zi_iconst (-1) d_Mo_terms_14 rfl ?_
    obtain ⟨u_7, eu_7, h⟩ := zbind h
    obtain ⟨q_8, eq_8, h⟩ := zbind h
    refine zo_virt (k' := 0) (n' := 0) 18 [.int (-1)] [] [.int q_8.1] zkd_11 (zck_s eu_7) (C_Mo_tell n E S a0 (-1) q_2.2 q_8.1 q_8.2 eq_8) d_Mo_terms_15 tw_1410 tw_1407 tw_1409 ts_36 tw_13 dd_Mo_tell ⟨Nat.le_of_ble_eq_true rfl, Nat.le_of_ble_eq_true rfl, Nat.le_of_ble_eq_true rfl, Nat.le_of_ble_eq_true rfl⟩ (Nat.le_of_ble_eq_true rfl) rfl rfl rfl rfl ?_
    cases h
    exact zo_ret d_Mo_terms_18 (Nat.le_of_ble_eq_true rfl) (Nat.le_of_ble_eq_true rfl) rfl
theorem C_Mo_terms (n : Nat) (E : zE) (S : zS) (a0 : Nat) (x1 : Int32) (x2 : Int32) (M : zH) (r : Int32) (M' : zH) (h : F_Mo_terms n E S a0 x1 x2 M = some (r, M')) : zC E Y_Mo_terms [.ref a0, .int x1, .int x2] S M (some (.int r), S, M') :=
  zC.of (Or.inl (show plainName "NightColanderModel" = true by decide)) (Nat.le_of_ble_eq_true rfl) (trivial) (K_Mo_terms n E S a0 x1 x2 M r M' h)
theorem d_Mo_row_0 : decode (yB Y_Mo_row) 0 = .ok (.aload_n 0, 1) := by decide +kernel
theorem d_Mo_row_1 : decode (yB Y_Mo_row) 1 = .ok (.iconst 0, 1) := by decide +kernel
theorem d_Mo_row_2 : decode (yB Y_Mo_row) 2 = .ok (.putfield 156, 3) := by decide +kernel
theorem d_Mo_row_5 : decode (yB Y_Mo_row) 5 = .ok (.aload_n 0, 1) := by decide +kernel
theorem d_Mo_row_6 : decode (yB Y_Mo_row) 6 = .ok (.getfield 244, 3) := by decide +kernel
theorem d_Mo_row_9 : decode (yB Y_Mo_row) 9 = .ok (.istore_n 1, 1) := by decide +kernel
theorem d_Mo_row_10 : decode (yB Y_Mo_row) 10 = .ok (.aload_n 0, 1) := by decide +kernel
theorem d_Mo_row_11 : decode (yB Y_Mo_row) 11 = .ok (.iconst 0, 1) := by decide +kernel
theorem d_Mo_row_12 : decode (yB Y_Mo_row) 12 = .ok (.putfield 244, 3) := by decide +kernel
theorem d_Mo_row_15 : decode (yB Y_Mo_row) 15 = .ok (.iload_n 1, 1) := by decide +kernel
theorem d_Mo_row_16 : decode (yB Y_Mo_row) 16 = .ok (.ifCond .ne 10, 3) := by decide +kernel
theorem d_Mo_row_19 : decode (yB Y_Mo_row) 19 = .ok (.aload_n 0, 1) := by decide +kernel
theorem d_Mo_row_20 : decode (yB Y_Mo_row) 20 = .ok (.bipush (-6), 2) := by decide +kernel
theorem d_Mo_row_22 : decode (yB Y_Mo_row) 22 = .ok (.invokevirtual 165, 3) := by decide +kernel
theorem d_Mo_row_25 : decode (yB Y_Mo_row) 25 = .ok (.ireturn, 1) := by decide +kernel
theorem d_Mo_row_26 : decode (yB Y_Mo_row) 26 = .ok (.aload_n 0, 1) := by decide +kernel
theorem d_Mo_row_27 : decode (yB Y_Mo_row) 27 = .ok (.iconst 0, 1) := by decide +kernel
theorem d_Mo_row_28 : decode (yB Y_Mo_row) 28 = .ok (.putfield 247, 3) := by decide +kernel
theorem d_Mo_row_31 : decode (yB Y_Mo_row) 31 = .ok (.iconst 0, 1) := by decide +kernel
theorem d_Mo_row_32 : decode (yB Y_Mo_row) 32 = .ok (.istore_n 2, 1) := by decide +kernel
theorem d_Mo_row_33 : decode (yB Y_Mo_row) 33 = .ok (.iconst 0, 1) := by decide +kernel
theorem d_Mo_row_34 : decode (yB Y_Mo_row) 34 = .ok (.istore_n 3, 1) := by decide +kernel
theorem d_Mo_row_35 : decode (yB Y_Mo_row) 35 = .ok (.iload_n 3, 1) := by decide +kernel
theorem d_Mo_row_36 : decode (yB Y_Mo_row) 36 = .ok (.iload_n 1, 1) := by decide +kernel
theorem d_Mo_row_37 : decode (yB Y_Mo_row) 37 = .ok (.if_icmp .ge 140, 3) := by decide +kernel
theorem d_Mo_row_40 : decode (yB Y_Mo_row) 40 = .ok (.iload_n 3, 1) := by decide +kernel
theorem d_Mo_row_41 : decode (yB Y_Mo_row) 41 = .ok (.iconst 2, 1) := by decide +kernel
theorem d_Mo_row_42 : decode (yB Y_Mo_row) 42 = .ok (.iadd, 1) := by decide +kernel
theorem d_Mo_row_43 : decode (yB Y_Mo_row) 43 = .ok (.iload_n 1, 1) := by decide +kernel
theorem d_Mo_row_44 : decode (yB Y_Mo_row) 44 = .ok (.if_icmp .ge 117, 3) := by decide +kernel
theorem d_Mo_row_47 : decode (yB Y_Mo_row) 47 = .ok (.aload_n 0, 1) := by decide +kernel
theorem d_Mo_row_48 : decode (yB Y_Mo_row) 48 = .ok (.getfield 35, 3) := by decide +kernel
theorem d_Mo_row_51 : decode (yB Y_Mo_row) 51 = .ok (.iload_n 3, 1) := by decide +kernel
theorem d_Mo_row_52 : decode (yB Y_Mo_row) 52 = .ok (.iaload, 1) := by decide +kernel
theorem d_Mo_row_53 : decode (yB Y_Mo_row) 53 = .ok (.invokestatic 190, 3) := by decide +kernel
theorem d_Mo_row_56 : decode (yB Y_Mo_row) 56 = .ok (.ifCond .eq 105, 3) := by decide +kernel
theorem d_Mo_row_59 : decode (yB Y_Mo_row) 59 = .ok (.aload_n 0, 1) := by decide +kernel
theorem d_Mo_row_60 : decode (yB Y_Mo_row) 60 = .ok (.getfield 35, 3) := by decide +kernel
theorem d_Mo_row_63 : decode (yB Y_Mo_row) 63 = .ok (.iload_n 3, 1) := by decide +kernel
theorem d_Mo_row_64 : decode (yB Y_Mo_row) 64 = .ok (.iconst 1, 1) := by decide +kernel
theorem d_Mo_row_65 : decode (yB Y_Mo_row) 65 = .ok (.iadd, 1) := by decide +kernel
theorem d_Mo_row_66 : decode (yB Y_Mo_row) 66 = .ok (.iaload, 1) := by decide +kernel
theorem d_Mo_row_67 : decode (yB Y_Mo_row) 67 = .ok (.invokestatic 194, 3) := by decide +kernel
theorem d_Mo_row_70 : decode (yB Y_Mo_row) 70 = .ok (.ifCond .eq 91, 3) := by decide +kernel
theorem d_Mo_row_73 : decode (yB Y_Mo_row) 73 = .ok (.aload_n 0, 1) := by decide +kernel
theorem d_Mo_row_74 : decode (yB Y_Mo_row) 74 = .ok (.getfield 35, 3) := by decide +kernel
theorem d_Mo_row_77 : decode (yB Y_Mo_row) 77 = .ok (.iload_n 3, 1) := by decide +kernel
theorem d_Mo_row_78 : decode (yB Y_Mo_row) 78 = .ok (.iconst 2, 1) := by decide +kernel
theorem d_Mo_row_79 : decode (yB Y_Mo_row) 79 = .ok (.iadd, 1) := by decide +kernel
theorem d_Mo_row_80 : decode (yB Y_Mo_row) 80 = .ok (.iaload, 1) := by decide +kernel
theorem d_Mo_row_81 : decode (yB Y_Mo_row) 81 = .ok (.i2l, 1) := by decide +kernel
theorem d_Mo_row_82 : decode (yB Y_Mo_row) 82 = .ok (.lconst 0, 1) := by decide +kernel
theorem d_Mo_row_83 : decode (yB Y_Mo_row) 83 = .ok (.ldc2_w 237, 3) := by decide +kernel
theorem d_Mo_row_86 : decode (yB Y_Mo_row) 86 = .ok (.invokestatic 176, 3) := by decide +kernel
theorem d_Mo_row_89 : decode (yB Y_Mo_row) 89 = .ok (.ifCond .eq 72, 3) := by decide +kernel
theorem d_Mo_row_92 : decode (yB Y_Mo_row) 92 = .ok (.aload_n 0, 1) := by decide +kernel
theorem d_Mo_row_93 : decode (yB Y_Mo_row) 93 = .ok (.getfield 13, 3) := by decide +kernel
theorem d_Mo_row_96 : decode (yB Y_Mo_row) 96 = .ok (.bipush 12, 2) := by decide +kernel
theorem d_Mo_row_98 : decode (yB Y_Mo_row) 98 = .ok (.bipush 8, 2) := by decide +kernel
theorem d_Mo_row_100 : decode (yB Y_Mo_row) 100 = .ok (.aload_n 0, 1) := by decide +kernel
theorem d_Mo_row_101 : decode (yB Y_Mo_row) 101 = .ok (.getfield 35, 3) := by decide +kernel
theorem d_Mo_row_104 : decode (yB Y_Mo_row) 104 = .ok (.iload_n 3, 1) := by decide +kernel
theorem d_Mo_row_105 : decode (yB Y_Mo_row) 105 = .ok (.iaload, 1) := by decide +kernel
theorem d_Mo_row_106 : decode (yB Y_Mo_row) 106 = .ok (.imul, 1) := by decide +kernel
theorem d_Mo_row_107 : decode (yB Y_Mo_row) 107 = .ok (.iadd, 1) := by decide +kernel
theorem d_Mo_row_108 : decode (yB Y_Mo_row) 108 = .ok (.aload_n 0, 1) := by decide +kernel
theorem d_Mo_row_109 : decode (yB Y_Mo_row) 109 = .ok (.getfield 35, 3) := by decide +kernel
theorem d_Mo_row_112 : decode (yB Y_Mo_row) 112 = .ok (.iload_n 3, 1) := by decide +kernel
theorem d_Mo_row_113 : decode (yB Y_Mo_row) 113 = .ok (.iconst 1, 1) := by decide +kernel
theorem d_Mo_row_114 : decode (yB Y_Mo_row) 114 = .ok (.iadd, 1) := by decide +kernel
theorem d_Mo_row_115 : decode (yB Y_Mo_row) 115 = .ok (.iaload, 1) := by decide +kernel
theorem d_Mo_row_116 : decode (yB Y_Mo_row) 116 = .ok (.iadd, 1) := by decide +kernel
theorem d_Mo_row_117 : decode (yB Y_Mo_row) 117 = .ok (.aload_n 0, 1) := by decide +kernel
theorem d_Mo_row_118 : decode (yB Y_Mo_row) 118 = .ok (.getfield 35, 3) := by decide +kernel
theorem d_Mo_row_121 : decode (yB Y_Mo_row) 121 = .ok (.iload_n 3, 1) := by decide +kernel
theorem d_Mo_row_122 : decode (yB Y_Mo_row) 122 = .ok (.iconst 2, 1) := by decide +kernel
theorem d_Mo_row_123 : decode (yB Y_Mo_row) 123 = .ok (.iadd, 1) := by decide +kernel
theorem d_Mo_row_124 : decode (yB Y_Mo_row) 124 = .ok (.iaload, 1) := by decide +kernel
theorem d_Mo_row_125 : decode (yB Y_Mo_row) 125 = .ok (.iastore, 1) := by decide +kernel
theorem d_Mo_row_126 : decode (yB Y_Mo_row) 126 = .ok (.aload_n 0, 1) := by decide +kernel
theorem d_Mo_row_127 : decode (yB Y_Mo_row) 127 = .ok (.getfield 13, 3) := by decide +kernel
theorem d_Mo_row_130 : decode (yB Y_Mo_row) 130 = .ok (.bipush 44, 2) := by decide +kernel
theorem d_Mo_row_132 : decode (yB Y_Mo_row) 132 = .ok (.aload_n 0, 1) := by decide +kernel
theorem d_Mo_row_133 : decode (yB Y_Mo_row) 133 = .ok (.getfield 35, 3) := by decide +kernel
theorem d_Mo_row_136 : decode (yB Y_Mo_row) 136 = .ok (.iload_n 3, 1) := by decide +kernel
theorem d_Mo_row_137 : decode (yB Y_Mo_row) 137 = .ok (.iaload, 1) := by decide +kernel
theorem d_Mo_row_138 : decode (yB Y_Mo_row) 138 = .ok (.iadd, 1) := by decide +kernel
theorem d_Mo_row_139 : decode (yB Y_Mo_row) 139 = .ok (.dup2, 1) := by decide +kernel
theorem d_Mo_row_140 : decode (yB Y_Mo_row) 140 = .ok (.iaload, 1) := by decide +kernel
theorem d_Mo_row_141 : decode (yB Y_Mo_row) 141 = .ok (.iconst 1, 1) := by decide +kernel
theorem d_Mo_row_142 : decode (yB Y_Mo_row) 142 = .ok (.aload_n 0, 1) := by decide +kernel
theorem d_Mo_row_143 : decode (yB Y_Mo_row) 143 = .ok (.getfield 35, 3) := by decide +kernel
theorem d_Mo_row_146 : decode (yB Y_Mo_row) 146 = .ok (.iload_n 3, 1) := by decide +kernel
theorem d_Mo_row_147 : decode (yB Y_Mo_row) 147 = .ok (.iconst 1, 1) := by decide +kernel
theorem d_Mo_row_148 : decode (yB Y_Mo_row) 148 = .ok (.iadd, 1) := by decide +kernel
theorem d_Mo_row_149 : decode (yB Y_Mo_row) 149 = .ok (.iaload, 1) := by decide +kernel
theorem d_Mo_row_150 : decode (yB Y_Mo_row) 150 = .ok (.ishl, 1) := by decide +kernel
theorem d_Mo_row_151 : decode (yB Y_Mo_row) 151 = .ok (.iconst (-1), 1) := by decide +kernel
theorem d_Mo_row_152 : decode (yB Y_Mo_row) 152 = .ok (.ixor, 1) := by decide +kernel
theorem d_Mo_row_153 : decode (yB Y_Mo_row) 153 = .ok (.iand, 1) := by decide +kernel
theorem d_Mo_row_154 : decode (yB Y_Mo_row) 154 = .ok (.iastore, 1) := by decide +kernel
theorem d_Mo_row_155 : decode (yB Y_Mo_row) 155 = .ok (.iinc 2 1, 3) := by decide +kernel
theorem d_Mo_row_158 : decode (yB Y_Mo_row) 158 = .ok (.goto 13, 3) := by decide +kernel
theorem d_Mo_row_161 : decode (yB Y_Mo_row) 161 = .ok (.aload_n 0, 1) := by decide +kernel
theorem d_Mo_row_162 : decode (yB Y_Mo_row) 162 = .ok (.dup, 1) := by decide +kernel
theorem d_Mo_row_163 : decode (yB Y_Mo_row) 163 = .ok (.getfield 247, 3) := by decide +kernel
theorem d_Mo_row_166 : decode (yB Y_Mo_row) 166 = .ok (.iconst 1, 1) := by decide +kernel
theorem d_Mo_row_167 : decode (yB Y_Mo_row) 167 = .ok (.iadd, 1) := by decide +kernel
theorem d_Mo_row_168 : decode (yB Y_Mo_row) 168 = .ok (.putfield 247, 3) := by decide +kernel
theorem d_Mo_row_171 : decode (yB Y_Mo_row) 171 = .ok (.iinc 3 3, 3) := by decide +kernel
theorem d_Mo_row_174 : decode (yB Y_Mo_row) 174 = .ok (.goto (-139), 3) := by decide +kernel
theorem d_Mo_row_177 : decode (yB Y_Mo_row) 177 = .ok (.aload_n 0, 1) := by decide +kernel
theorem d_Mo_row_178 : decode (yB Y_Mo_row) 178 = .ok (.iload_n 2, 1) := by decide +kernel
theorem d_Mo_row_179 : decode (yB Y_Mo_row) 179 = .ok (.invokevirtual 180, 3) := by decide +kernel
theorem d_Mo_row_182 : decode (yB Y_Mo_row) 182 = .ok (.ireturn, 1) := by decide +kernel
def F_Mo_row_b171 (n : Nat) (E : zE) (S : zS) (r35 : Nat × Int32 × Int32 × Int32 × zH → Option (Int32 × zH)) (a0 : Nat) (x1 : Int32) (x2 : Int32) (x3 : Int32) (M : zH) : Option (Int32 × zH) :=
  r35 (a0, x1, x2, x3 + 3, M)
def F_Mo_row_b161 (n : Nat) (E : zE) (S : zS) (r35 : Nat × Int32 × Int32 × Int32 × zH → Option (Int32 × zH)) (a0 : Nat) (x1 : Int32) (x2 : Int32) (x3 : Int32) (M : zH) : Option (Int32 × zH) :=
  (zgI S M a0 11 11).bind fun v_1 =>
  (zpI S M a0 11 11 (v_1 + 1)).bind fun m_2 =>
  F_Mo_row_b171 n E S r35 a0 x1 x2 x3 m_2
def F_Mo_row_L35 (n : Nat) (E : zE) (S : zS) (r35 : Nat × Int32 × Int32 × Int32 × zH → Option (Int32 × zH)) (a0 : Nat) (x1 : Int32) (x2 : Int32) (x3 : Int32) (M : zH) : Option (Int32 × zH) :=
  if x1 ≤ x3 then
    (zck S a0 11).bind fun u_4 =>
    (F_Mo_lasting n E S a0 x2 M).bind fun q_5 =>
    some (q_5.1, q_5.2)
  else
    if x1 ≤ (x3 + 2) then
      F_Mo_row_b161 n E S r35 a0 x1 x2 x3 M
    else
      (zgR S a0 11 12).bind fun b_7 =>
      (zldI S M b_7 x3).bind fun v_8 =>
      (F_Mo_isRing n E S v_8 M).bind fun q_9 =>
      if q_9.1 = true then
        (zldI S q_9.2 b_7 (x3 + 1)).bind fun v_11 =>
        (F_Mo_isField n E S v_11 q_9.2).bind fun q_12 =>
        if q_12.1 = true then
          (zldI S q_12.2 b_7 (x3 + 2)).bind fun v_14 =>
          (F_Mo_in n E S v_14.toInt64 0 9 q_12.2).bind fun q_15 =>
          if q_15.1 = true then
            (zgR S a0 11 3).bind fun b_17 =>
            (zldI S q_15.2 b_7 x3).bind fun v_18 =>
            (zldI S q_15.2 b_7 (x3 + 1)).bind fun v_19 =>
            (zldI S q_15.2 b_7 (x3 + 2)).bind fun v_20 =>
            (zstI S q_15.2 b_17 ((12 + (8 * v_18)) + v_19) v_20).bind fun m_21 =>
            (zldI S m_21 b_7 x3).bind fun v_22 =>
            (zldI S m_21 b_17 (44 + v_22)).bind fun v_23 =>
            (zldI S m_21 b_7 (x3 + 1)).bind fun v_24 =>
            (zstI S m_21 b_17 (44 + v_22) (v_23 &&& (((1 : Int32) <<< (v_24 &&& (31 : Int32))) ^^^ (-1 : Int32)))).bind fun m_25 =>
            F_Mo_row_b171 n E S r35 a0 x1 (x2 + 1) x3 m_25
          else
            F_Mo_row_b161 n E S r35 a0 x1 x2 x3 q_15.2
        else
          F_Mo_row_b161 n E S r35 a0 x1 x2 x3 q_12.2
      else
        F_Mo_row_b161 n E S r35 a0 x1 x2 x3 q_9.2
def F_Mo_row_b35 (n : Nat) (E : zE) (S : zS) : Nat × Int32 × Int32 × Int32 × zH → Option (Int32 × zH) := zfix (fun r35 s => F_Mo_row_L35 n E S r35 s.1 s.2.1 s.2.2.1 s.2.2.2.1 s.2.2.2.2) n
def F_Mo_row (n : Nat) (E : zE) (S : zS) (a0 : Nat) (M : zH) : Option (Int32 × zH) :=
  (zpI S M a0 11 0 0).bind fun m_26 =>
  (zgI S m_26 a0 11 13).bind fun v_27 =>
  (zpI S m_26 a0 11 13 0).bind fun m_28 =>
  if v_27 = 0 then
    (F_Mo_tell n E S a0 (-6) m_28).bind fun q_30 =>
    some (q_30.1, q_30.2)
  else
    (zpI S m_28 a0 11 11 0).bind fun m_31 =>
    F_Mo_row_b35 n E S (a0, v_27, 0, 0, m_31)
theorem K_Mo_row_b171 (n : Nat) (E : zE) (S : zS) (r35 : Nat × Int32 × Int32 × Int32 × zH → Option (Int32 × zH)) (a0 : Nat) (x1 : Int32) (x2 : Int32) (x3 : Int32) (M : zH) (r : Int32) (M' : zH) (hr35 : ∀ (a0 : Nat) (x1 : Int32) (x2 : Int32) (x3 : Int32) (M : zH), r35 (a0, x1, x2, x3, M) = some (r, M') → zG E Y_Mo_row (some (.int r), S, M') 35 [(0, .ref a0), (1, .int x1), (2, .int x2), (3, .int x3)] [] S M 0 0) (h : F_Mo_row_b171 n E S r35 a0 x1 x2 x3 M = some (r, M')) : zG E Y_Mo_row (some (.int r), S, M') 171 [(0, .ref a0), (1, .int x1), (2, .int x2), (3, .int x3)] [] S M 0 0 := by
  unfold F_Mo_row_b171 at h
  refine zi_iinc 3 (x3 + 3) [(3, .int (x3 + 3)), (0, .ref a0), (1, .int x1), (2, .int x2)] d_Mo_row_171 rfl rfl (by decide) rfl ?_
  refine zi_goto (tgt := 35) d_Mo_row_174 rfl ?_
  refine zi_lo [(0, .ref a0), (1, .int x1), (2, .int x2), (3, .int (x3 + 3))] [1, 2, 3, 0] rfl ?_
  exact hr35 a0 x1 x2 (x3 + 3) M h
theorem K_Mo_row_b161 (n : Nat) (E : zE) (S : zS) (r35 : Nat × Int32 × Int32 × Int32 × zH → Option (Int32 × zH)) (a0 : Nat) (x1 : Int32) (x2 : Int32) (x3 : Int32) (M : zH) (r : Int32) (M' : zH) (hr35 : ∀ (a0 : Nat) (x1 : Int32) (x2 : Int32) (x3 : Int32) (M : zH), r35 (a0, x1, x2, x3, M) = some (r, M') → zG E Y_Mo_row (some (.int r), S, M') 35 [(0, .ref a0), (1, .int x1), (2, .int x2), (3, .int x3)] [] S M 0 0) (h : F_Mo_row_b161 n E S r35 a0 x1 x2 x3 M = some (r, M')) : zG E Y_Mo_row (some (.int r), S, M') 161 [(0, .ref a0), (1, .int x1), (2, .int x2), (3, .int x3)] [] S M 0 0 := by
  unfold F_Mo_row_b161 at h
  refine zi_aload_n 0 d_Mo_row_161 rfl ?_
  refine zi_dup d_Mo_row_162 rfl ?_
  obtain ⟨v_1, ev_1, h⟩ := zbind h
  refine zo_getI 166 zkd_11 11 d_Mo_row_163 ev_1 rfl tw_1242 rfl ?_
  refine zi_iconst 1 d_Mo_row_166 rfl ?_
  refine zi_iadd d_Mo_row_167 ?_
  obtain ⟨m_2, em_2, h⟩ := zbind h
  refine zo_putI 171 zkd_11 11 d_Mo_row_168 em_2 rfl rfl rfl tw_1242 rfl ?_
  refine zi_lo [(0, .ref a0), (1, .int x1), (2, .int x2), (3, .int x3)] [0, 1, 2, 3] rfl ?_
  exact K_Mo_row_b171 n E S r35 a0 x1 x2 x3 m_2 r M' hr35 h
theorem K_Mo_row_L35 (n : Nat) (E : zE) (S : zS) (r35 : Nat × Int32 × Int32 × Int32 × zH → Option (Int32 × zH)) (a0 : Nat) (x1 : Int32) (x2 : Int32) (x3 : Int32) (M : zH) (r : Int32) (M' : zH) (hr35 : ∀ (a0 : Nat) (x1 : Int32) (x2 : Int32) (x3 : Int32) (M : zH), r35 (a0, x1, x2, x3, M) = some (r, M') → zG E Y_Mo_row (some (.int r), S, M') 35 [(0, .ref a0), (1, .int x1), (2, .int x2), (3, .int x3)] [] S M 0 0) (h : F_Mo_row_L35 n E S r35 a0 x1 x2 x3 M = some (r, M')) : zG E Y_Mo_row (some (.int r), S, M') 35 [(0, .ref a0), (1, .int x1), (2, .int x2), (3, .int x3)] [] S M 0 0 := by
  unfold F_Mo_row_L35 at h
  refine zi_iload_n 3 d_Mo_row_35 rfl ?_
  refine zi_iload_n 1 d_Mo_row_36 rfl ?_
  refine zi_icmp_ge (tgt := 177) d_Mo_row_37 rfl (fun c_3 => ?_) (fun c_3 => ?_)
  · rw [if_pos c_3] at h
    refine zi_aload_n 0 d_Mo_row_177 rfl ?_
    refine zi_iload_n 2 d_Mo_row_178 rfl ?_
    obtain ⟨u_4, eu_4, h⟩ := zbind h
    obtain ⟨q_5, eq_5, h⟩ := zbind h
    refine zo_virt (k' := 0) (n' := 0) 182 [.int x2] [] [.int q_5.1] zkd_11 (zck_s eu_4) (C_Mo_lasting n E S a0 x2 M q_5.1 q_5.2 eq_5) d_Mo_row_179 tw_1429 tw_1426 tw_1428 ts_38 tw_13 dd_Mo_lasting ⟨Nat.le_of_ble_eq_true rfl, Nat.le_of_ble_eq_true rfl, Nat.le_of_ble_eq_true rfl, Nat.le_of_ble_eq_true rfl⟩ (Nat.le_of_ble_eq_true rfl) rfl rfl rfl rfl ?_
    cases h
    exact zo_ret d_Mo_row_182 (Nat.le_of_ble_eq_true rfl) (Nat.le_of_ble_eq_true rfl) rfl
  · rw [if_neg c_3] at h
    refine zi_iload_n 3 d_Mo_row_40 rfl ?_
    refine zi_iconst 2 d_Mo_row_41 rfl ?_
    refine zi_iadd d_Mo_row_42 ?_
    refine zi_iload_n 1 d_Mo_row_43 rfl ?_
    refine zi_icmp_ge (tgt := 161) d_Mo_row_44 rfl (fun c_6 => ?_) (fun c_6 => ?_)
    · rw [if_pos c_6] at h
      refine zi_lo [(0, .ref a0), (1, .int x1), (2, .int x2), (3, .int x3)] [0, 1, 2, 3] rfl ?_
      exact K_Mo_row_b161 n E S r35 a0 x1 x2 x3 M r M' hr35 h
    · rw [if_neg c_6] at h
      refine zi_aload_n 0 d_Mo_row_47 rfl ?_
      obtain ⟨b_7, eb_7, h⟩ := zbind h
      refine zo_getR 51 zkd_11 12 d_Mo_row_48 eb_7 rfl tw_1243 rfl ?_
      refine zi_iload_n 3 d_Mo_row_51 rfl ?_
      obtain ⟨v_8, ev_8, h⟩ := zbind h
      refine zo_iald 53 d_Mo_row_52 ev_8 rfl ?_
      obtain ⟨q_9, eq_9, h⟩ := zbind h
      refine zo_stat (k' := 0) (n' := 0) 56 [.int v_8] [] [.int (bI q_9.1)] (C_Mo_isRing n E S v_8 M q_9.1 q_9.2 eq_9) d_Mo_row_53 tw_1436 tw_1434 tw_1435 tw_13 dd_Mo_isRing ⟨Nat.le_of_ble_eq_true rfl, Nat.le_of_ble_eq_true rfl, Nat.le_of_ble_eq_true rfl, Nat.le_of_ble_eq_true rfl⟩ (Nat.le_of_ble_eq_true rfl) rfl rfl rfl rfl ?_
      refine zo_ifeqB d_Mo_row_56 rfl 59 rfl (fun c_10 => ?_) (fun c_10 => ?_)
      · rw [if_neg c_10] at h
        refine zi_lo [(0, .ref a0), (1, .int x1), (2, .int x2), (3, .int x3)] [0, 1, 2, 3] rfl ?_
        exact K_Mo_row_b161 n E S r35 a0 x1 x2 x3 q_9.2 r M' hr35 h
      · rw [if_pos c_10] at h
        refine zi_aload_n 0 d_Mo_row_59 rfl ?_
        refine zo_getR 63 zkd_11 12 d_Mo_row_60 eb_7 rfl tw_1243 rfl ?_
        refine zi_iload_n 3 d_Mo_row_63 rfl ?_
        refine zi_iconst 1 d_Mo_row_64 rfl ?_
        refine zi_iadd d_Mo_row_65 ?_
        obtain ⟨v_11, ev_11, h⟩ := zbind h
        refine zo_iald 67 d_Mo_row_66 ev_11 rfl ?_
        obtain ⟨q_12, eq_12, h⟩ := zbind h
        refine zo_stat (k' := 0) (n' := 0) 70 [.int v_11] [] [.int (bI q_12.1)] (C_Mo_isField n E S v_11 q_9.2 q_12.1 q_12.2 eq_12) d_Mo_row_67 tw_1440 tw_1438 tw_1439 tw_13 dd_Mo_isField ⟨Nat.le_of_ble_eq_true rfl, Nat.le_of_ble_eq_true rfl, Nat.le_of_ble_eq_true rfl, Nat.le_of_ble_eq_true rfl⟩ (Nat.le_of_ble_eq_true rfl) rfl rfl rfl rfl ?_
        refine zo_ifeqB d_Mo_row_70 rfl 73 rfl (fun c_13 => ?_) (fun c_13 => ?_)
        · rw [if_neg c_13] at h
          refine zi_lo [(0, .ref a0), (1, .int x1), (2, .int x2), (3, .int x3)] [0, 1, 2, 3] rfl ?_
          exact K_Mo_row_b161 n E S r35 a0 x1 x2 x3 q_12.2 r M' hr35 h
        · rw [if_pos c_13] at h
          refine zi_aload_n 0 d_Mo_row_73 rfl ?_
          refine zo_getR 77 zkd_11 12 d_Mo_row_74 eb_7 rfl tw_1243 rfl ?_
          refine zi_iload_n 3 d_Mo_row_77 rfl ?_
          refine zi_iconst 2 d_Mo_row_78 rfl ?_
          refine zi_iadd d_Mo_row_79 ?_
          obtain ⟨v_14, ev_14, h⟩ := zbind h
          refine zo_iald 81 d_Mo_row_80 ev_14 rfl ?_
          refine zi_i2l d_Mo_row_81 ?_
          refine zi_lconst 0 d_Mo_row_82 rfl ?_
          refine zi_ldc2 d_Mo_row_83 tw_1538 ?_
          obtain ⟨q_15, eq_15, h⟩ := zbind h
          refine zo_stat (k' := 0) (n' := 0) 89 [.long v_14.toInt64, .long 0, .long 9] [] [.int (bI q_15.1)] (C_Mo_in n E S v_14.toInt64 0 9 q_12.2 q_15.1 q_15.2 eq_15) d_Mo_row_86 tw_1421 tw_1419 tw_1420 tw_13 dd_Mo_in ⟨Nat.le_of_ble_eq_true rfl, Nat.le_of_ble_eq_true rfl, Nat.le_of_ble_eq_true rfl, Nat.le_of_ble_eq_true rfl⟩ (Nat.le_of_ble_eq_true rfl) rfl rfl rfl rfl ?_
          refine zo_ifeqB d_Mo_row_89 rfl 92 rfl (fun c_16 => ?_) (fun c_16 => ?_)
          · rw [if_neg c_16] at h
            refine zi_lo [(0, .ref a0), (1, .int x1), (2, .int x2), (3, .int x3)] [0, 1, 2, 3] rfl ?_
            exact K_Mo_row_b161 n E S r35 a0 x1 x2 x3 q_15.2 r M' hr35 h
          · rw [if_pos c_16] at h
            refine zi_aload_n 0 d_Mo_row_92 rfl ?_
            obtain ⟨b_17, eb_17, h⟩ := zbind h
            refine zo_getR 96 zkd_11 3 d_Mo_row_93 eb_17 rfl tw_1234 rfl ?_
            refine zi_bipush 12 d_Mo_row_96 rfl ?_
            refine zi_bipush 8 d_Mo_row_98 rfl ?_
            refine zi_aload_n 0 d_Mo_row_100 rfl ?_
            refine zo_getR 104 zkd_11 12 d_Mo_row_101 eb_7 rfl tw_1243 rfl ?_
            refine zi_iload_n 3 d_Mo_row_104 rfl ?_
            obtain ⟨v_18, ev_18, h⟩ := zbind h
            refine zo_iald 106 d_Mo_row_105 ev_18 rfl ?_
            refine zi_imul d_Mo_row_106 ?_
            refine zi_iadd d_Mo_row_107 ?_
            refine zi_aload_n 0 d_Mo_row_108 rfl ?_
            refine zo_getR 112 zkd_11 12 d_Mo_row_109 eb_7 rfl tw_1243 rfl ?_
            refine zi_iload_n 3 d_Mo_row_112 rfl ?_
            refine zi_iconst 1 d_Mo_row_113 rfl ?_
            refine zi_iadd d_Mo_row_114 ?_
            obtain ⟨v_19, ev_19, h⟩ := zbind h
            refine zo_iald 116 d_Mo_row_115 ev_19 rfl ?_
            refine zi_iadd d_Mo_row_116 ?_
            refine zi_aload_n 0 d_Mo_row_117 rfl ?_
            refine zo_getR 121 zkd_11 12 d_Mo_row_118 eb_7 rfl tw_1243 rfl ?_
            refine zi_iload_n 3 d_Mo_row_121 rfl ?_
            refine zi_iconst 2 d_Mo_row_122 rfl ?_
            refine zi_iadd d_Mo_row_123 ?_
            obtain ⟨v_20, ev_20, h⟩ := zbind h
            refine zo_iald 125 d_Mo_row_124 ev_20 rfl ?_
            obtain ⟨m_21, em_21, h⟩ := zbind h
            refine zo_iast 126 d_Mo_row_125 em_21 rfl ?_
            refine zi_aload_n 0 d_Mo_row_126 rfl ?_
            refine zo_getR 130 zkd_11 3 d_Mo_row_127 eb_17 rfl tw_1234 rfl ?_
            refine zi_bipush 44 d_Mo_row_130 rfl ?_
            refine zi_aload_n 0 d_Mo_row_132 rfl ?_
            refine zo_getR 136 zkd_11 12 d_Mo_row_133 eb_7 rfl tw_1243 rfl ?_
            refine zi_iload_n 3 d_Mo_row_136 rfl ?_
            obtain ⟨v_22, ev_22, h⟩ := zbind h
            refine zo_iald 138 d_Mo_row_137 ev_22 rfl ?_
            refine zi_iadd d_Mo_row_138 ?_
            refine zi_dup2 d_Mo_row_139 rfl rfl ?_
            obtain ⟨v_23, ev_23, h⟩ := zbind h
            refine zo_iald 141 d_Mo_row_140 ev_23 rfl ?_
            refine zi_iconst 1 d_Mo_row_141 rfl ?_
            refine zi_aload_n 0 d_Mo_row_142 rfl ?_
            refine zo_getR 146 zkd_11 12 d_Mo_row_143 eb_7 rfl tw_1243 rfl ?_
            refine zi_iload_n 3 d_Mo_row_146 rfl ?_
            refine zi_iconst 1 d_Mo_row_147 rfl ?_
            refine zi_iadd d_Mo_row_148 ?_
            obtain ⟨v_24, ev_24, h⟩ := zbind h
            refine zo_iald 150 d_Mo_row_149 ev_24 rfl ?_
            refine zi_ishl d_Mo_row_150 ?_
            refine zi_iconst (-1) d_Mo_row_151 rfl ?_
            refine zi_ixor d_Mo_row_152 ?_
            refine zi_iand d_Mo_row_153 ?_
            obtain ⟨m_25, em_25, h⟩ := zbind h
            refine zo_iast 155 d_Mo_row_154 em_25 rfl ?_
            refine zi_iinc 2 (x2 + 1) [(2, .int (x2 + 1)), (0, .ref a0), (1, .int x1), (3, .int x3)] d_Mo_row_155 rfl rfl (by decide) rfl ?_
            refine zi_goto (tgt := 171) d_Mo_row_158 rfl ?_
            refine zi_lo [(0, .ref a0), (1, .int x1), (2, .int (x2 + 1)), (3, .int x3)] [1, 2, 0, 3] rfl ?_
            exact K_Mo_row_b171 n E S r35 a0 x1 (x2 + 1) x3 m_25 r M' hr35 h
theorem K_Mo_row_b35 (n : Nat) (E : zE) (S : zS) (a0 : Nat) (x1 : Int32) (x2 : Int32) (x3 : Int32) (M : zH) (r : Int32) (M' : zH)  (h : F_Mo_row_b35 n E S (a0, x1, x2, x3, M) = some (r, M')) : zG E Y_Mo_row (some (.int r), S, M') 35 [(0, .ref a0), (1, .int x1), (2, .int x2), (3, .int x3)] [] S M 0 0 := by
  have key : ∀ (k : Nat) (a0 : Nat) (x1 : Int32) (x2 : Int32) (x3 : Int32) (M : zH), zfix (fun r35 s => F_Mo_row_L35 n E S r35 s.1 s.2.1 s.2.2.1 s.2.2.2.1 s.2.2.2.2) k (a0, x1, x2, x3, M) = some (r, M') → zG E Y_Mo_row (some (.int r), S, M') 35 [(0, .ref a0), (1, .int x1), (2, .int x2), (3, .int x3)] [] S M 0 0 := by
    intro k
    induction k with
    | zero => intro a0 x1 x2 x3 M h; cases h
    | succ k ih => intro a0 x1 x2 x3 M h; exact K_Mo_row_L35 n E S _ a0 x1 x2 x3 M r M'  (fun a0 x1 x2 x3 M h => ih a0 x1 x2 x3 M h) h
  exact key n a0 x1 x2 x3 M h
theorem K_Mo_row (n : Nat) (E : zE) (S : zS) (a0 : Nat) (M : zH) (r : Int32) (M' : zH)  (h : F_Mo_row n E S a0 M = some (r, M')) : zG E Y_Mo_row (some (.int r), S, M') 0 [(0, .ref a0)] [] S M 0 0 := by
  unfold F_Mo_row at h
  refine zi_aload_n 0 d_Mo_row_0 rfl ?_
  refine zi_iconst 0 d_Mo_row_1 rfl ?_
  obtain ⟨m_26, em_26, h⟩ := zbind h
  refine zo_putI 5 zkd_11 0 d_Mo_row_2 em_26 rfl rfl rfl tw_1231 rfl ?_
  refine zi_aload_n 0 d_Mo_row_5 rfl ?_
  obtain ⟨v_27, ev_27, h⟩ := zbind h
  refine zo_getI 9 zkd_11 13 d_Mo_row_6 ev_27 rfl tw_1244 rfl ?_
  refine zi_istore_n [(1, .int v_27), (0, .ref a0)] d_Mo_row_9 (by decide) rfl ?_
  refine zi_aload_n 1 d_Mo_row_10 rfl ?_
  refine zi_iconst 0 d_Mo_row_11 rfl ?_
  obtain ⟨m_28, em_28, h⟩ := zbind h
  refine zo_putI 15 zkd_11 13 d_Mo_row_12 em_28 rfl rfl rfl tw_1244 rfl ?_
  refine zi_iload_n 0 d_Mo_row_15 rfl ?_
  refine zi_if_ne (tgt := 26) d_Mo_row_16 rfl (fun c_29 => ?_) (fun c_29 => ?_)
  · rw [if_neg c_29] at h
    refine zi_aload_n 1 d_Mo_row_26 rfl ?_
    refine zi_iconst 0 d_Mo_row_27 rfl ?_
    obtain ⟨m_31, em_31, h⟩ := zbind h
    refine zo_putI 31 zkd_11 11 d_Mo_row_28 em_31 rfl rfl rfl tw_1242 rfl ?_
    refine zi_iconst 0 d_Mo_row_31 rfl ?_
    refine zi_istore_n [(2, .int 0), (1, .int v_27), (0, .ref a0)] d_Mo_row_32 (by decide) rfl ?_
    refine zi_iconst 0 d_Mo_row_33 rfl ?_
    refine zi_istore_n [(3, .int 0), (2, .int 0), (1, .int v_27), (0, .ref a0)] d_Mo_row_34 (by decide) rfl ?_
    refine zi_lo [(0, .ref a0), (1, .int v_27), (2, .int 0), (3, .int 0)] [3, 2, 1, 0] rfl ?_
    exact K_Mo_row_b35 n E S a0 v_27 0 0 m_31 r M'  h
  · rw [if_pos c_29] at h
    refine zi_aload_n 1 d_Mo_row_19 rfl ?_
    refine zi_bipush (-6) d_Mo_row_20 rfl ?_
    obtain ⟨q_30, eq_30, h⟩ := zbind h
    refine zo_virt (k' := 0) (n' := 0) 25 [.int (-6)] [] [.int q_30.1] zkd_11 (zgI_s ev_27).1 (C_Mo_tell n E S a0 (-6) m_28 q_30.1 q_30.2 eq_30) d_Mo_row_22 tw_1410 tw_1407 tw_1409 ts_36 tw_13 dd_Mo_tell ⟨Nat.le_of_ble_eq_true rfl, Nat.le_of_ble_eq_true rfl, Nat.le_of_ble_eq_true rfl, Nat.le_of_ble_eq_true rfl⟩ (Nat.le_of_ble_eq_true rfl) rfl rfl rfl rfl ?_
    cases h
    exact zo_ret d_Mo_row_25 (Nat.le_of_ble_eq_true rfl) (Nat.le_of_ble_eq_true rfl) rfl
theorem C_Mo_row (n : Nat) (E : zE) (S : zS) (a0 : Nat) (M : zH) (r : Int32) (M' : zH) (h : F_Mo_row n E S a0 M = some (r, M')) : zC E Y_Mo_row [.ref a0] S M (some (.int r), S, M') :=
  zC.of (Or.inl (show plainName "NightColanderModel" = true by decide)) (Nat.le_of_ble_eq_true rfl) (trivial) (K_Mo_row n E S a0 M r M' h)
theorem d_Mo_peas_0 : decode (yB Y_Mo_peas) 0 = .ok (.aload_n 0, 1) := by decide +kernel
theorem d_Mo_peas_1 : decode (yB Y_Mo_peas) 1 = .ok (.iconst 0, 1) := by decide +kernel
theorem d_Mo_peas_2 : decode (yB Y_Mo_peas) 2 = .ok (.putfield 156, 3) := by decide +kernel
theorem d_Mo_peas_5 : decode (yB Y_Mo_peas) 5 = .ok (.aload_n 0, 1) := by decide +kernel
theorem d_Mo_peas_6 : decode (yB Y_Mo_peas) 6 = .ok (.getfield 247, 3) := by decide +kernel
theorem d_Mo_peas_9 : decode (yB Y_Mo_peas) 9 = .ok (.ireturn, 1) := by decide +kernel
def F_Mo_peas (n : Nat) (E : zE) (S : zS) (a0 : Nat) (M : zH) : Option (Int32 × zH) :=
  (zpI S M a0 11 0 0).bind fun m_1 =>
  (zgI S m_1 a0 11 11).bind fun v_2 =>
  some (v_2, m_1)
theorem K_Mo_peas (n : Nat) (E : zE) (S : zS) (a0 : Nat) (M : zH) (r : Int32) (M' : zH)  (h : F_Mo_peas n E S a0 M = some (r, M')) : zG E Y_Mo_peas (some (.int r), S, M') 0 [(0, .ref a0)] [] S M 0 0 := by
  unfold F_Mo_peas at h
  refine zi_aload_n 0 d_Mo_peas_0 rfl ?_
  refine zi_iconst 0 d_Mo_peas_1 rfl ?_
  obtain ⟨m_1, em_1, h⟩ := zbind h
  refine zo_putI 5 zkd_11 0 d_Mo_peas_2 em_1 rfl rfl rfl tw_1231 rfl ?_
  refine zi_aload_n 0 d_Mo_peas_5 rfl ?_
  obtain ⟨v_2, ev_2, h⟩ := zbind h
  refine zo_getI 9 zkd_11 11 d_Mo_peas_6 ev_2 rfl tw_1242 rfl ?_
  cases h
  exact zo_ret d_Mo_peas_9 (Nat.le_of_ble_eq_true rfl) (Nat.le_of_ble_eq_true rfl) rfl
theorem C_Mo_peas (n : Nat) (E : zE) (S : zS) (a0 : Nat) (M : zH) (r : Int32) (M' : zH) (h : F_Mo_peas n E S a0 M = some (r, M')) : zC E Y_Mo_peas [.ref a0] S M (some (.int r), S, M') :=
  zC.of (Or.inl (show plainName "NightColanderModel" = true by decide)) (Nat.le_of_ble_eq_true rfl) (trivial) (K_Mo_peas n E S a0 M r M' h)
theorem d_Mo_four_0 : decode (yB Y_Mo_four) 0 = .ok (.bipush 24, 2) := by decide +kernel
theorem d_Mo_four_2 : decode (yB Y_Mo_four) 2 = .ok (.istore_n 2, 1) := by decide +kernel
theorem d_Mo_four_3 : decode (yB Y_Mo_four) 3 = .ok (.iload_n 2, 1) := by decide +kernel
theorem d_Mo_four_4 : decode (yB Y_Mo_four) 4 = .ok (.ifCond .lt 35, 3) := by decide +kernel
theorem d_Mo_four_7 : decode (yB Y_Mo_four) 7 = .ok (.aload_n 0, 1) := by decide +kernel
theorem d_Mo_four_8 : decode (yB Y_Mo_four) 8 = .ok (.getfield 35, 3) := by decide +kernel
theorem d_Mo_four_11 : decode (yB Y_Mo_four) 11 = .ok (.aload_n 0, 1) := by decide +kernel
theorem d_Mo_four_12 : decode (yB Y_Mo_four) 12 = .ok (.getfield 244, 3) := by decide +kernel
theorem d_Mo_four_15 : decode (yB Y_Mo_four) 15 = .ok (.iload_n 1, 1) := by decide +kernel
theorem d_Mo_four_16 : decode (yB Y_Mo_four) 16 = .ok (.iload_n 2, 1) := by decide +kernel
theorem d_Mo_four_17 : decode (yB Y_Mo_four) 17 = .ok (.ishr, 1) := by decide +kernel
theorem d_Mo_four_18 : decode (yB Y_Mo_four) 18 = .ok (.sipush 255, 3) := by decide +kernel
theorem d_Mo_four_21 : decode (yB Y_Mo_four) 21 = .ok (.iand, 1) := by decide +kernel
theorem d_Mo_four_22 : decode (yB Y_Mo_four) 22 = .ok (.iastore, 1) := by decide +kernel
theorem d_Mo_four_23 : decode (yB Y_Mo_four) 23 = .ok (.aload_n 0, 1) := by decide +kernel
theorem d_Mo_four_24 : decode (yB Y_Mo_four) 24 = .ok (.dup, 1) := by decide +kernel
theorem d_Mo_four_25 : decode (yB Y_Mo_four) 25 = .ok (.getfield 244, 3) := by decide +kernel
theorem d_Mo_four_28 : decode (yB Y_Mo_four) 28 = .ok (.iconst 1, 1) := by decide +kernel
theorem d_Mo_four_29 : decode (yB Y_Mo_four) 29 = .ok (.iadd, 1) := by decide +kernel
theorem d_Mo_four_30 : decode (yB Y_Mo_four) 30 = .ok (.putfield 244, 3) := by decide +kernel
theorem d_Mo_four_33 : decode (yB Y_Mo_four) 33 = .ok (.iinc 2 (-8), 3) := by decide +kernel
theorem d_Mo_four_36 : decode (yB Y_Mo_four) 36 = .ok (.goto (-33), 3) := by decide +kernel
theorem d_Mo_four_39 : decode (yB Y_Mo_four) 39 = .ok (.return_, 1) := by decide +kernel
def F_Mo_four_L3 (n : Nat) (E : zE) (S : zS) (r3 : Nat × Int32 × Int32 × zH → Option (zH)) (a0 : Nat) (x1 : Int32) (x2 : Int32) (M : zH) : Option (zH) :=
  if x2 < 0 then
    some (M)
  else
    (zgR S a0 11 12).bind fun b_2 =>
    (zgI S M a0 11 13).bind fun v_3 =>
    (zstI S M b_2 v_3 ((x1 >>> (x2 &&& (31 : Int32))) &&& (255 : Int32))).bind fun m_4 =>
    (zgI S m_4 a0 11 13).bind fun v_5 =>
    (zpI S m_4 a0 11 13 (v_5 + 1)).bind fun m_6 =>
    r3 (a0, x1, x2 + (-8), m_6)
def F_Mo_four_b3 (n : Nat) (E : zE) (S : zS) : Nat × Int32 × Int32 × zH → Option (zH) := zfix (fun r3 s => F_Mo_four_L3 n E S r3 s.1 s.2.1 s.2.2.1 s.2.2.2) n
def F_Mo_four (n : Nat) (E : zE) (S : zS) (a0 : Nat) (x1 : Int32) (M : zH) : Option (zH) :=
  F_Mo_four_b3 n E S (a0, x1, 24, M)
theorem K_Mo_four_L3 (n : Nat) (E : zE) (S : zS) (r3 : Nat × Int32 × Int32 × zH → Option (zH)) (a0 : Nat) (x1 : Int32) (x2 : Int32) (M : zH) (M' : zH) (hr3 : ∀ (a0 : Nat) (x1 : Int32) (x2 : Int32) (M : zH), r3 (a0, x1, x2, M) = some M' → zG E Y_Mo_four (none, S, M') 3 [(0, .ref a0), (1, .int x1), (2, .int x2)] [] S M 0 0) (h : F_Mo_four_L3 n E S r3 a0 x1 x2 M = some M') : zG E Y_Mo_four (none, S, M') 3 [(0, .ref a0), (1, .int x1), (2, .int x2)] [] S M 0 0 := by
  unfold F_Mo_four_L3 at h
  refine zi_iload_n 2 d_Mo_four_3 rfl ?_
  refine zi_if_lt (tgt := 39) d_Mo_four_4 rfl (fun c_1 => ?_) (fun c_1 => ?_)
  · rw [if_pos c_1] at h
    cases h
    exact zo_ret d_Mo_four_39 (Nat.le_of_ble_eq_true rfl) (Nat.le_of_ble_eq_true rfl) rfl
  · rw [if_neg c_1] at h
    refine zi_aload_n 0 d_Mo_four_7 rfl ?_
    obtain ⟨b_2, eb_2, h⟩ := zbind h
    refine zo_getR 11 zkd_11 12 d_Mo_four_8 eb_2 rfl tw_1243 rfl ?_
    refine zi_aload_n 0 d_Mo_four_11 rfl ?_
    obtain ⟨v_3, ev_3, h⟩ := zbind h
    refine zo_getI 15 zkd_11 13 d_Mo_four_12 ev_3 rfl tw_1244 rfl ?_
    refine zi_iload_n 1 d_Mo_four_15 rfl ?_
    refine zi_iload_n 2 d_Mo_four_16 rfl ?_
    refine zi_ishr d_Mo_four_17 ?_
    refine zi_sipush 255 d_Mo_four_18 rfl ?_
    refine zi_iand d_Mo_four_21 ?_
    obtain ⟨m_4, em_4, h⟩ := zbind h
    refine zo_iast 23 d_Mo_four_22 em_4 rfl ?_
    refine zi_aload_n 0 d_Mo_four_23 rfl ?_
    refine zi_dup d_Mo_four_24 rfl ?_
    obtain ⟨v_5, ev_5, h⟩ := zbind h
    refine zo_getI 28 zkd_11 13 d_Mo_four_25 ev_5 rfl tw_1244 rfl ?_
    refine zi_iconst 1 d_Mo_four_28 rfl ?_
    refine zi_iadd d_Mo_four_29 ?_
    obtain ⟨m_6, em_6, h⟩ := zbind h
    refine zo_putI 33 zkd_11 13 d_Mo_four_30 em_6 rfl rfl rfl tw_1244 rfl ?_
    refine zi_iinc 2 (x2 + (-8)) [(2, .int (x2 + (-8))), (0, .ref a0), (1, .int x1)] d_Mo_four_33 rfl rfl (by decide) rfl ?_
    refine zi_goto (tgt := 3) d_Mo_four_36 rfl ?_
    refine zi_lo [(0, .ref a0), (1, .int x1), (2, .int (x2 + (-8)))] [1, 2, 0] rfl ?_
    exact hr3 a0 x1 (x2 + (-8)) m_6 h
theorem K_Mo_four_b3 (n : Nat) (E : zE) (S : zS) (a0 : Nat) (x1 : Int32) (x2 : Int32) (M : zH) (M' : zH)  (h : F_Mo_four_b3 n E S (a0, x1, x2, M) = some M') : zG E Y_Mo_four (none, S, M') 3 [(0, .ref a0), (1, .int x1), (2, .int x2)] [] S M 0 0 := by
  have key : ∀ (k : Nat) (a0 : Nat) (x1 : Int32) (x2 : Int32) (M : zH), zfix (fun r3 s => F_Mo_four_L3 n E S r3 s.1 s.2.1 s.2.2.1 s.2.2.2) k (a0, x1, x2, M) = some M' → zG E Y_Mo_four (none, S, M') 3 [(0, .ref a0), (1, .int x1), (2, .int x2)] [] S M 0 0 := by
    intro k
    induction k with
    | zero => intro a0 x1 x2 M h; cases h
    | succ k ih => intro a0 x1 x2 M h; exact K_Mo_four_L3 n E S _ a0 x1 x2 M M'  (fun a0 x1 x2 M h => ih a0 x1 x2 M h) h
  exact key n a0 x1 x2 M h
theorem K_Mo_four (n : Nat) (E : zE) (S : zS) (a0 : Nat) (x1 : Int32) (M : zH) (M' : zH)  (h : F_Mo_four n E S a0 x1 M = some M') : zG E Y_Mo_four (none, S, M') 0 [(0, .ref a0), (1, .int x1)] [] S M 0 0 := by
  unfold F_Mo_four at h
  refine zi_bipush 24 d_Mo_four_0 rfl ?_
  refine zi_istore_n [(2, .int 24), (0, .ref a0), (1, .int x1)] d_Mo_four_2 (by decide) rfl ?_
  refine zi_lo [(0, .ref a0), (1, .int x1), (2, .int 24)] [1, 2, 0] rfl ?_
  exact K_Mo_four_b3 n E S a0 x1 24 M M'  h
theorem C_Mo_four (n : Nat) (E : zE) (S : zS) (a0 : Nat) (x1 : Int32) (M : zH) (M' : zH) (h : F_Mo_four n E S a0 x1 M = some M') : zC E Y_Mo_four [.ref a0, .int x1] S M (none, S, M') :=
  zC.of (Or.inl (show plainName "NightColanderModel" = true by decide)) (Nat.le_of_ble_eq_true rfl) (trivial) (K_Mo_four n E S a0 x1 M M' h)
theorem d_Mo_feed_0 : decode (yB Y_Mo_feed) 0 = .ok (.aload_n 0, 1) := by decide +kernel
theorem d_Mo_feed_1 : decode (yB Y_Mo_feed) 1 = .ok (.iconst 0, 1) := by decide +kernel
theorem d_Mo_feed_2 : decode (yB Y_Mo_feed) 2 = .ok (.putfield 156, 3) := by decide +kernel
theorem d_Mo_feed_5 : decode (yB Y_Mo_feed) 5 = .ok (.aload_n 0, 1) := by decide +kernel
theorem d_Mo_feed_6 : decode (yB Y_Mo_feed) 6 = .ok (.getfield 244, 3) := by decide +kernel
theorem d_Mo_feed_9 : decode (yB Y_Mo_feed) 9 = .ok (.bipush 20, 2) := by decide +kernel
theorem d_Mo_feed_11 : decode (yB Y_Mo_feed) 11 = .ok (.iadd, 1) := by decide +kernel
theorem d_Mo_feed_12 : decode (yB Y_Mo_feed) 12 = .ok (.sipush 400, 3) := by decide +kernel
theorem d_Mo_feed_15 : decode (yB Y_Mo_feed) 15 = .ok (.if_icmp .le 5, 3) := by decide +kernel
theorem d_Mo_feed_18 : decode (yB Y_Mo_feed) 18 = .ok (.iconst (-1), 1) := by decide +kernel
theorem d_Mo_feed_19 : decode (yB Y_Mo_feed) 19 = .ok (.ireturn, 1) := by decide +kernel
theorem d_Mo_feed_20 : decode (yB Y_Mo_feed) 20 = .ok (.aload_n 0, 1) := by decide +kernel
theorem d_Mo_feed_21 : decode (yB Y_Mo_feed) 21 = .ok (.iload_n 1, 1) := by decide +kernel
theorem d_Mo_feed_22 : decode (yB Y_Mo_feed) 22 = .ok (.invokevirtual 250, 3) := by decide +kernel
theorem d_Mo_feed_25 : decode (yB Y_Mo_feed) 25 = .ok (.aload_n 0, 1) := by decide +kernel
theorem d_Mo_feed_26 : decode (yB Y_Mo_feed) 26 = .ok (.iload_n 2, 1) := by decide +kernel
theorem d_Mo_feed_27 : decode (yB Y_Mo_feed) 27 = .ok (.invokevirtual 250, 3) := by decide +kernel
theorem d_Mo_feed_30 : decode (yB Y_Mo_feed) 30 = .ok (.aload_n 0, 1) := by decide +kernel
theorem d_Mo_feed_31 : decode (yB Y_Mo_feed) 31 = .ok (.iload_n 3, 1) := by decide +kernel
theorem d_Mo_feed_32 : decode (yB Y_Mo_feed) 32 = .ok (.invokevirtual 250, 3) := by decide +kernel
theorem d_Mo_feed_35 : decode (yB Y_Mo_feed) 35 = .ok (.aload_n 0, 1) := by decide +kernel
theorem d_Mo_feed_36 : decode (yB Y_Mo_feed) 36 = .ok (.iload 4, 2) := by decide +kernel
theorem d_Mo_feed_38 : decode (yB Y_Mo_feed) 38 = .ok (.invokevirtual 250, 3) := by decide +kernel
theorem d_Mo_feed_41 : decode (yB Y_Mo_feed) 41 = .ok (.aload_n 0, 1) := by decide +kernel
theorem d_Mo_feed_42 : decode (yB Y_Mo_feed) 42 = .ok (.iload 5, 2) := by decide +kernel
theorem d_Mo_feed_44 : decode (yB Y_Mo_feed) 44 = .ok (.invokevirtual 250, 3) := by decide +kernel
theorem d_Mo_feed_47 : decode (yB Y_Mo_feed) 47 = .ok (.aload_n 0, 1) := by decide +kernel
theorem d_Mo_feed_48 : decode (yB Y_Mo_feed) 48 = .ok (.getfield 244, 3) := by decide +kernel
theorem d_Mo_feed_51 : decode (yB Y_Mo_feed) 51 = .ok (.ireturn, 1) := by decide +kernel
def F_Mo_feed (n : Nat) (E : zE) (S : zS) (a0 : Nat) (x1 : Int32) (x2 : Int32) (x3 : Int32) (x4 : Int32) (x5 : Int32) (M : zH) : Option (Int32 × zH) :=
  (zpI S M a0 11 0 0).bind fun m_1 =>
  (zgI S m_1 a0 11 13).bind fun v_2 =>
  if (v_2 + 20) ≤ 400 then
    (F_Mo_four n E S a0 x1 m_1).bind fun q_4 =>
    (F_Mo_four n E S a0 x2 q_4).bind fun q_5 =>
    (F_Mo_four n E S a0 x3 q_5).bind fun q_6 =>
    (F_Mo_four n E S a0 x4 q_6).bind fun q_7 =>
    (F_Mo_four n E S a0 x5 q_7).bind fun q_8 =>
    (zgI S q_8 a0 11 13).bind fun v_9 =>
    some (v_9, q_8)
  else
    some ((-1), m_1)
theorem K_Mo_feed (n : Nat) (E : zE) (S : zS) (a0 : Nat) (x1 : Int32) (x2 : Int32) (x3 : Int32) (x4 : Int32) (x5 : Int32) (M : zH) (r : Int32) (M' : zH)  (h : F_Mo_feed n E S a0 x1 x2 x3 x4 x5 M = some (r, M')) : zG E Y_Mo_feed (some (.int r), S, M') 0 [(0, .ref a0), (1, .int x1), (2, .int x2), (3, .int x3), (4, .int x4), (5, .int x5)] [] S M 0 0 := by
  unfold F_Mo_feed at h
  refine zi_aload_n 0 d_Mo_feed_0 rfl ?_
  refine zi_iconst 0 d_Mo_feed_1 rfl ?_
  obtain ⟨m_1, em_1, h⟩ := zbind h
  refine zo_putI 5 zkd_11 0 d_Mo_feed_2 em_1 rfl rfl rfl tw_1231 rfl ?_
  refine zi_aload_n 0 d_Mo_feed_5 rfl ?_
  obtain ⟨v_2, ev_2, h⟩ := zbind h
  refine zo_getI 9 zkd_11 13 d_Mo_feed_6 ev_2 rfl tw_1244 rfl ?_
  refine zi_bipush 20 d_Mo_feed_9 rfl ?_
  refine zi_iadd d_Mo_feed_11 ?_
  refine zi_sipush 400 d_Mo_feed_12 rfl ?_
  refine zi_icmp_le (tgt := 20) d_Mo_feed_15 rfl (fun c_3 => ?_) (fun c_3 => ?_)
  · rw [if_pos c_3] at h
    refine zi_aload_n 0 d_Mo_feed_20 rfl ?_
    refine zi_iload_n 1 d_Mo_feed_21 rfl ?_
    obtain ⟨q_4, eq_4, h⟩ := zbind h
    refine zo_virt (k' := 0) (n' := 0) 25 [.int x1] [] [] zkd_11 (zgI_s ev_2).1 (C_Mo_four n E S a0 x1 m_1 q_4 eq_4) d_Mo_feed_22 tw_1555 tw_1552 tw_1554 ts_53 tw_13 dd_Mo_four ⟨Nat.le_of_ble_eq_true rfl, Nat.le_of_ble_eq_true rfl, Nat.le_of_ble_eq_true rfl, Nat.le_of_ble_eq_true rfl⟩ (Nat.le_of_ble_eq_true rfl) rfl rfl rfl rfl ?_
    refine zi_aload_n 0 d_Mo_feed_25 rfl ?_
    refine zi_iload_n 2 d_Mo_feed_26 rfl ?_
    obtain ⟨q_5, eq_5, h⟩ := zbind h
    refine zo_virt (k' := 0) (n' := 0) 30 [.int x2] [] [] zkd_11 (zgI_s ev_2).1 (C_Mo_four n E S a0 x2 q_4 q_5 eq_5) d_Mo_feed_27 tw_1555 tw_1552 tw_1554 ts_53 tw_13 dd_Mo_four ⟨Nat.le_of_ble_eq_true rfl, Nat.le_of_ble_eq_true rfl, Nat.le_of_ble_eq_true rfl, Nat.le_of_ble_eq_true rfl⟩ (Nat.le_of_ble_eq_true rfl) rfl rfl rfl rfl ?_
    refine zi_aload_n 0 d_Mo_feed_30 rfl ?_
    refine zi_iload_n 3 d_Mo_feed_31 rfl ?_
    obtain ⟨q_6, eq_6, h⟩ := zbind h
    refine zo_virt (k' := 0) (n' := 0) 35 [.int x3] [] [] zkd_11 (zgI_s ev_2).1 (C_Mo_four n E S a0 x3 q_5 q_6 eq_6) d_Mo_feed_32 tw_1555 tw_1552 tw_1554 ts_53 tw_13 dd_Mo_four ⟨Nat.le_of_ble_eq_true rfl, Nat.le_of_ble_eq_true rfl, Nat.le_of_ble_eq_true rfl, Nat.le_of_ble_eq_true rfl⟩ (Nat.le_of_ble_eq_true rfl) rfl rfl rfl rfl ?_
    refine zi_aload_n 0 d_Mo_feed_35 rfl ?_
    refine zi_iload 4 d_Mo_feed_36 rfl ?_
    obtain ⟨q_7, eq_7, h⟩ := zbind h
    refine zo_virt (k' := 0) (n' := 0) 41 [.int x4] [] [] zkd_11 (zgI_s ev_2).1 (C_Mo_four n E S a0 x4 q_6 q_7 eq_7) d_Mo_feed_38 tw_1555 tw_1552 tw_1554 ts_53 tw_13 dd_Mo_four ⟨Nat.le_of_ble_eq_true rfl, Nat.le_of_ble_eq_true rfl, Nat.le_of_ble_eq_true rfl, Nat.le_of_ble_eq_true rfl⟩ (Nat.le_of_ble_eq_true rfl) rfl rfl rfl rfl ?_
    refine zi_aload_n 0 d_Mo_feed_41 rfl ?_
    refine zi_iload 5 d_Mo_feed_42 rfl ?_
    obtain ⟨q_8, eq_8, h⟩ := zbind h
    refine zo_virt (k' := 0) (n' := 0) 47 [.int x5] [] [] zkd_11 (zgI_s ev_2).1 (C_Mo_four n E S a0 x5 q_7 q_8 eq_8) d_Mo_feed_44 tw_1555 tw_1552 tw_1554 ts_53 tw_13 dd_Mo_four ⟨Nat.le_of_ble_eq_true rfl, Nat.le_of_ble_eq_true rfl, Nat.le_of_ble_eq_true rfl, Nat.le_of_ble_eq_true rfl⟩ (Nat.le_of_ble_eq_true rfl) rfl rfl rfl rfl ?_
    refine zi_aload_n 0 d_Mo_feed_47 rfl ?_
    obtain ⟨v_9, ev_9, h⟩ := zbind h
    refine zo_getI 51 zkd_11 13 d_Mo_feed_48 ev_9 rfl tw_1244 rfl ?_
    cases h
    exact zo_ret d_Mo_feed_51 (Nat.le_of_ble_eq_true rfl) (Nat.le_of_ble_eq_true rfl) rfl
  · rw [if_neg c_3] at h
    refine zi_iconst (-1) d_Mo_feed_18 rfl ?_
    cases h
    exact zo_ret d_Mo_feed_19 (Nat.le_of_ble_eq_true rfl) (Nat.le_of_ble_eq_true rfl) rfl
theorem C_Mo_feed (n : Nat) (E : zE) (S : zS) (a0 : Nat) (x1 : Int32) (x2 : Int32) (x3 : Int32) (x4 : Int32) (x5 : Int32) (M : zH) (r : Int32) (M' : zH) (h : F_Mo_feed n E S a0 x1 x2 x3 x4 x5 M = some (r, M')) : zC E Y_Mo_feed [.ref a0, .int x1, .int x2, .int x3, .int x4, .int x5] S M (some (.int r), S, M') :=
  zC.of (Or.inl (show plainName "NightColanderModel" = true by decide)) (Nat.le_of_ble_eq_true rfl) (trivial) (K_Mo_feed n E S a0 x1 x2 x3 x4 x5 M r M' h)
theorem d_Mo_end_0 : decode (yB Y_Mo_end) 0 = .ok (.aload_n 0, 1) := by decide +kernel
theorem d_Mo_end_1 : decode (yB Y_Mo_end) 1 = .ok (.iconst 0, 1) := by decide +kernel
theorem d_Mo_end_2 : decode (yB Y_Mo_end) 2 = .ok (.putfield 156, 3) := by decide +kernel
theorem d_Mo_end_5 : decode (yB Y_Mo_end) 5 = .ok (.iload_n 1, 1) := by decide +kernel
theorem d_Mo_end_6 : decode (yB Y_Mo_end) 6 = .ok (.ifCond .lt 11, 3) := by decide +kernel
theorem d_Mo_end_9 : decode (yB Y_Mo_end) 9 = .ok (.iload_n 1, 1) := by decide +kernel
theorem d_Mo_end_10 : decode (yB Y_Mo_end) 10 = .ok (.aload_n 0, 1) := by decide +kernel
theorem d_Mo_end_11 : decode (yB Y_Mo_end) 11 = .ok (.getfield 244, 3) := by decide +kernel
theorem d_Mo_end_14 : decode (yB Y_Mo_end) 14 = .ok (.if_icmp .le 5, 3) := by decide +kernel
theorem d_Mo_end_17 : decode (yB Y_Mo_end) 17 = .ok (.iconst (-1), 1) := by decide +kernel
theorem d_Mo_end_18 : decode (yB Y_Mo_end) 18 = .ok (.ireturn, 1) := by decide +kernel
theorem d_Mo_end_19 : decode (yB Y_Mo_end) 19 = .ok (.aload_n 0, 1) := by decide +kernel
theorem d_Mo_end_20 : decode (yB Y_Mo_end) 20 = .ok (.iload_n 1, 1) := by decide +kernel
theorem d_Mo_end_21 : decode (yB Y_Mo_end) 21 = .ok (.putfield 244, 3) := by decide +kernel
theorem d_Mo_end_24 : decode (yB Y_Mo_end) 24 = .ok (.iload_n 1, 1) := by decide +kernel
theorem d_Mo_end_25 : decode (yB Y_Mo_end) 25 = .ok (.ireturn, 1) := by decide +kernel
def F_Mo_end (n : Nat) (E : zE) (S : zS) (a0 : Nat) (x1 : Int32) (M : zH) : Option (Int32 × zH) :=
  (zpI S M a0 11 0 0).bind fun m_1 =>
  if x1 < 0 then
    some ((-1), m_1)
  else
    (zgI S m_1 a0 11 13).bind fun v_3 =>
    if x1 ≤ v_3 then
      (zpI S m_1 a0 11 13 x1).bind fun m_5 =>
      some (x1, m_5)
    else
      some ((-1), m_1)
theorem K_Mo_end (n : Nat) (E : zE) (S : zS) (a0 : Nat) (x1 : Int32) (M : zH) (r : Int32) (M' : zH)  (h : F_Mo_end n E S a0 x1 M = some (r, M')) : zG E Y_Mo_end (some (.int r), S, M') 0 [(0, .ref a0), (1, .int x1)] [] S M 0 0 := by
  unfold F_Mo_end at h
  refine zi_aload_n 0 d_Mo_end_0 rfl ?_
  refine zi_iconst 0 d_Mo_end_1 rfl ?_
  obtain ⟨m_1, em_1, h⟩ := zbind h
  refine zo_putI 5 zkd_11 0 d_Mo_end_2 em_1 rfl rfl rfl tw_1231 rfl ?_
  refine zi_iload_n 1 d_Mo_end_5 rfl ?_
  refine zi_if_lt (tgt := 17) d_Mo_end_6 rfl (fun c_2 => ?_) (fun c_2 => ?_)
  · rw [if_pos c_2] at h
    refine zi_iconst (-1) d_Mo_end_17 rfl ?_
    cases h
    exact zo_ret d_Mo_end_18 (Nat.le_of_ble_eq_true rfl) (Nat.le_of_ble_eq_true rfl) rfl
  · rw [if_neg c_2] at h
    refine zi_iload_n 1 d_Mo_end_9 rfl ?_
    refine zi_aload_n 0 d_Mo_end_10 rfl ?_
    obtain ⟨v_3, ev_3, h⟩ := zbind h
    refine zo_getI 14 zkd_11 13 d_Mo_end_11 ev_3 rfl tw_1244 rfl ?_
    refine zi_icmp_le (tgt := 19) d_Mo_end_14 rfl (fun c_4 => ?_) (fun c_4 => ?_)
    · rw [if_pos c_4] at h
      refine zi_aload_n 0 d_Mo_end_19 rfl ?_
      refine zi_iload_n 1 d_Mo_end_20 rfl ?_
      obtain ⟨m_5, em_5, h⟩ := zbind h
      refine zo_putI 24 zkd_11 13 d_Mo_end_21 em_5 rfl rfl rfl tw_1244 rfl ?_
      refine zi_iload_n 1 d_Mo_end_24 rfl ?_
      cases h
      exact zo_ret d_Mo_end_25 (Nat.le_of_ble_eq_true rfl) (Nat.le_of_ble_eq_true rfl) rfl
    · rw [if_neg c_4] at h
      refine zi_iconst (-1) d_Mo_end_17 rfl ?_
      cases h
      exact zo_ret d_Mo_end_18 (Nat.le_of_ble_eq_true rfl) (Nat.le_of_ble_eq_true rfl) rfl
theorem C_Mo_end (n : Nat) (E : zE) (S : zS) (a0 : Nat) (x1 : Int32) (M : zH) (r : Int32) (M' : zH) (h : F_Mo_end n E S a0 x1 M = some (r, M')) : zC E Y_Mo_end [.ref a0, .int x1] S M (some (.int r), S, M') :=
  zC.of (Or.inl (show plainName "NightColanderModel" = true by decide)) (Nat.le_of_ble_eq_true rfl) (trivial) (K_Mo_end n E S a0 x1 M r M' h)
theorem d_Mo_fault_0 : decode (yB Y_Mo_fault) 0 = .ok (.aload_n 0, 1) := by decide +kernel
theorem d_Mo_fault_1 : decode (yB Y_Mo_fault) 1 = .ok (.iconst 0, 1) := by decide +kernel
theorem d_Mo_fault_2 : decode (yB Y_Mo_fault) 2 = .ok (.putfield 156, 3) := by decide +kernel
theorem d_Mo_fault_5 : decode (yB Y_Mo_fault) 5 = .ok (.aload_n 0, 1) := by decide +kernel
theorem d_Mo_fault_6 : decode (yB Y_Mo_fault) 6 = .ok (.getfield 38, 3) := by decide +kernel
theorem d_Mo_fault_9 : decode (yB Y_Mo_fault) 9 = .ok (.ireturn, 1) := by decide +kernel
def F_Mo_fault (n : Nat) (E : zE) (S : zS) (a0 : Nat) (M : zH) : Option (Int32 × zH) :=
  (zpI S M a0 11 0 0).bind fun m_1 =>
  (zgI S m_1 a0 11 18).bind fun v_2 =>
  some (v_2, m_1)
theorem K_Mo_fault (n : Nat) (E : zE) (S : zS) (a0 : Nat) (M : zH) (r : Int32) (M' : zH)  (h : F_Mo_fault n E S a0 M = some (r, M')) : zG E Y_Mo_fault (some (.int r), S, M') 0 [(0, .ref a0)] [] S M 0 0 := by
  unfold F_Mo_fault at h
  refine zi_aload_n 0 d_Mo_fault_0 rfl ?_
  refine zi_iconst 0 d_Mo_fault_1 rfl ?_
  obtain ⟨m_1, em_1, h⟩ := zbind h
  refine zo_putI 5 zkd_11 0 d_Mo_fault_2 em_1 rfl rfl rfl tw_1231 rfl ?_
  refine zi_aload_n 0 d_Mo_fault_5 rfl ?_
  obtain ⟨v_2, ev_2, h⟩ := zbind h
  refine zo_getI 9 zkd_11 18 d_Mo_fault_6 ev_2 rfl tw_1249 rfl ?_
  cases h
  exact zo_ret d_Mo_fault_9 (Nat.le_of_ble_eq_true rfl) (Nat.le_of_ble_eq_true rfl) rfl
theorem C_Mo_fault (n : Nat) (E : zE) (S : zS) (a0 : Nat) (M : zH) (r : Int32) (M' : zH) (h : F_Mo_fault n E S a0 M = some (r, M')) : zC E Y_Mo_fault [.ref a0] S M (some (.int r), S, M') :=
  zC.of (Or.inl (show plainName "NightColanderModel" = true by decide)) (Nat.le_of_ble_eq_true rfl) (trivial) (K_Mo_fault n E S a0 M r M' h)
theorem d_Mo_isDigit_0 : decode (yB Y_Mo_isDigit) 0 = .ok (.iload_n 0, 1) := by decide +kernel
theorem d_Mo_isDigit_1 : decode (yB Y_Mo_isDigit) 1 = .ok (.bipush 48, 2) := by decide +kernel
theorem d_Mo_isDigit_3 : decode (yB Y_Mo_isDigit) 3 = .ok (.if_icmp .lt 13, 3) := by decide +kernel
theorem d_Mo_isDigit_6 : decode (yB Y_Mo_isDigit) 6 = .ok (.iload_n 0, 1) := by decide +kernel
theorem d_Mo_isDigit_7 : decode (yB Y_Mo_isDigit) 7 = .ok (.bipush 57, 2) := by decide +kernel
theorem d_Mo_isDigit_9 : decode (yB Y_Mo_isDigit) 9 = .ok (.if_icmp .gt 7, 3) := by decide +kernel
theorem d_Mo_isDigit_12 : decode (yB Y_Mo_isDigit) 12 = .ok (.iconst 1, 1) := by decide +kernel
theorem d_Mo_isDigit_13 : decode (yB Y_Mo_isDigit) 13 = .ok (.goto 4, 3) := by decide +kernel
theorem d_Mo_isDigit_16 : decode (yB Y_Mo_isDigit) 16 = .ok (.iconst 0, 1) := by decide +kernel
theorem d_Mo_isDigit_17 : decode (yB Y_Mo_isDigit) 17 = .ok (.ireturn, 1) := by decide +kernel
def F_Mo_isDigit (n : Nat) (E : zE) (S : zS) (x0 : Int32) (M : zH) : Option (Bool × zH) :=
  if x0 < 48 then
    some (false, M)
  else
    if 57 < x0 then
      some (false, M)
    else
      some (true, M)
theorem K_Mo_isDigit (n : Nat) (E : zE) (S : zS) (x0 : Int32) (M : zH) (r : Bool) (M' : zH)  (h : F_Mo_isDigit n E S x0 M = some (r, M')) : zG E Y_Mo_isDigit (some (.int (bI r)), S, M') 0 [(0, .int x0)] [] S M 0 0 := by
  unfold F_Mo_isDigit at h
  refine zi_iload_n 0 d_Mo_isDigit_0 rfl ?_
  refine zi_bipush 48 d_Mo_isDigit_1 rfl ?_
  refine zi_icmp_lt (tgt := 16) d_Mo_isDigit_3 rfl (fun c_1 => ?_) (fun c_1 => ?_)
  · rw [if_pos c_1] at h
    refine zi_iconst 0 d_Mo_isDigit_16 rfl ?_
    cases h
    exact zo_retB d_Mo_isDigit_17 (Nat.le_of_ble_eq_true rfl) (Nat.le_of_ble_eq_true rfl) rfl
  · rw [if_neg c_1] at h
    refine zi_iload_n 0 d_Mo_isDigit_6 rfl ?_
    refine zi_bipush 57 d_Mo_isDigit_7 rfl ?_
    refine zi_icmp_gt (tgt := 16) d_Mo_isDigit_9 rfl (fun c_2 => ?_) (fun c_2 => ?_)
    · rw [if_pos c_2] at h
      refine zi_iconst 0 d_Mo_isDigit_16 rfl ?_
      cases h
      exact zo_retB d_Mo_isDigit_17 (Nat.le_of_ble_eq_true rfl) (Nat.le_of_ble_eq_true rfl) rfl
    · rw [if_neg c_2] at h
      refine zi_iconst 1 d_Mo_isDigit_12 rfl ?_
      refine zi_goto (tgt := 17) d_Mo_isDigit_13 rfl ?_
      cases h
      exact zo_retB d_Mo_isDigit_17 (Nat.le_of_ble_eq_true rfl) (Nat.le_of_ble_eq_true rfl) rfl
theorem C_Mo_isDigit (n : Nat) (E : zE) (S : zS) (x0 : Int32) (M : zH) (r : Bool) (M' : zH) (h : F_Mo_isDigit n E S x0 M = some (r, M')) : zC E Y_Mo_isDigit [.int x0] S M (some (.int (bI r)), S, M') :=
  zC.of (Or.inl (show plainName "NightColanderModel" = true by decide)) (Nat.le_of_ble_eq_true rfl) (bI_nar r) (K_Mo_isDigit n E S x0 M r M' h)
theorem d_Mo_isSmall_0 : decode (yB Y_Mo_isSmall) 0 = .ok (.iload_n 0, 1) := by decide +kernel
theorem d_Mo_isSmall_1 : decode (yB Y_Mo_isSmall) 1 = .ok (.bipush 97, 2) := by decide +kernel
theorem d_Mo_isSmall_3 : decode (yB Y_Mo_isSmall) 3 = .ok (.if_icmp .lt 13, 3) := by decide +kernel
theorem d_Mo_isSmall_6 : decode (yB Y_Mo_isSmall) 6 = .ok (.iload_n 0, 1) := by decide +kernel
theorem d_Mo_isSmall_7 : decode (yB Y_Mo_isSmall) 7 = .ok (.bipush 122, 2) := by decide +kernel
theorem d_Mo_isSmall_9 : decode (yB Y_Mo_isSmall) 9 = .ok (.if_icmp .gt 7, 3) := by decide +kernel
theorem d_Mo_isSmall_12 : decode (yB Y_Mo_isSmall) 12 = .ok (.iconst 1, 1) := by decide +kernel
theorem d_Mo_isSmall_13 : decode (yB Y_Mo_isSmall) 13 = .ok (.goto 4, 3) := by decide +kernel
theorem d_Mo_isSmall_16 : decode (yB Y_Mo_isSmall) 16 = .ok (.iconst 0, 1) := by decide +kernel
theorem d_Mo_isSmall_17 : decode (yB Y_Mo_isSmall) 17 = .ok (.ireturn, 1) := by decide +kernel
def F_Mo_isSmall (n : Nat) (E : zE) (S : zS) (x0 : Int32) (M : zH) : Option (Bool × zH) :=
  if x0 < 97 then
    some (false, M)
  else
    if 122 < x0 then
      some (false, M)
    else
      some (true, M)
theorem K_Mo_isSmall (n : Nat) (E : zE) (S : zS) (x0 : Int32) (M : zH) (r : Bool) (M' : zH)  (h : F_Mo_isSmall n E S x0 M = some (r, M')) : zG E Y_Mo_isSmall (some (.int (bI r)), S, M') 0 [(0, .int x0)] [] S M 0 0 := by
  unfold F_Mo_isSmall at h
  refine zi_iload_n 0 d_Mo_isSmall_0 rfl ?_
  refine zi_bipush 97 d_Mo_isSmall_1 rfl ?_
  refine zi_icmp_lt (tgt := 16) d_Mo_isSmall_3 rfl (fun c_1 => ?_) (fun c_1 => ?_)
  · rw [if_pos c_1] at h
    refine zi_iconst 0 d_Mo_isSmall_16 rfl ?_
    cases h
    exact zo_retB d_Mo_isSmall_17 (Nat.le_of_ble_eq_true rfl) (Nat.le_of_ble_eq_true rfl) rfl
  · rw [if_neg c_1] at h
    refine zi_iload_n 0 d_Mo_isSmall_6 rfl ?_
    refine zi_bipush 122 d_Mo_isSmall_7 rfl ?_
    refine zi_icmp_gt (tgt := 16) d_Mo_isSmall_9 rfl (fun c_2 => ?_) (fun c_2 => ?_)
    · rw [if_pos c_2] at h
      refine zi_iconst 0 d_Mo_isSmall_16 rfl ?_
      cases h
      exact zo_retB d_Mo_isSmall_17 (Nat.le_of_ble_eq_true rfl) (Nat.le_of_ble_eq_true rfl) rfl
    · rw [if_neg c_2] at h
      refine zi_iconst 1 d_Mo_isSmall_12 rfl ?_
      refine zi_goto (tgt := 17) d_Mo_isSmall_13 rfl ?_
      cases h
      exact zo_retB d_Mo_isSmall_17 (Nat.le_of_ble_eq_true rfl) (Nat.le_of_ble_eq_true rfl) rfl
theorem C_Mo_isSmall (n : Nat) (E : zE) (S : zS) (x0 : Int32) (M : zH) (r : Bool) (M' : zH) (h : F_Mo_isSmall n E S x0 M = some (r, M')) : zC E Y_Mo_isSmall [.int x0] S M (some (.int (bI r)), S, M') :=
  zC.of (Or.inl (show plainName "NightColanderModel" = true by decide)) (Nat.le_of_ble_eq_true rfl) (bI_nar r) (K_Mo_isSmall n E S x0 M r M' h)
theorem d_Mo_next_0 : decode (yB Y_Mo_next) 0 = .ok (.aload_n 0, 1) := by decide +kernel
theorem d_Mo_next_1 : decode (yB Y_Mo_next) 1 = .ok (.aload_n 0, 1) := by decide +kernel
theorem d_Mo_next_2 : decode (yB Y_Mo_next) 2 = .ok (.getfield 253, 3) := by decide +kernel
theorem d_Mo_next_5 : decode (yB Y_Mo_next) 5 = .ok (.putfield 263, 3) := by decide +kernel
theorem d_Mo_next_8 : decode (yB Y_Mo_next) 8 = .ok (.aload_n 0, 1) := by decide +kernel
theorem d_Mo_next_9 : decode (yB Y_Mo_next) 9 = .ok (.getfield 263, 3) := by decide +kernel
theorem d_Mo_next_12 : decode (yB Y_Mo_next) 12 = .ok (.aload_n 0, 1) := by decide +kernel
theorem d_Mo_next_13 : decode (yB Y_Mo_next) 13 = .ok (.getfield 244, 3) := by decide +kernel
theorem d_Mo_next_16 : decode (yB Y_Mo_next) 16 = .ok (.if_icmp .ge 30, 3) := by decide +kernel
theorem d_Mo_next_19 : decode (yB Y_Mo_next) 19 = .ok (.aload_n 0, 1) := by decide +kernel
theorem d_Mo_next_20 : decode (yB Y_Mo_next) 20 = .ok (.getfield 35, 3) := by decide +kernel
theorem d_Mo_next_23 : decode (yB Y_Mo_next) 23 = .ok (.aload_n 0, 1) := by decide +kernel
theorem d_Mo_next_24 : decode (yB Y_Mo_next) 24 = .ok (.getfield 263, 3) := by decide +kernel
theorem d_Mo_next_27 : decode (yB Y_Mo_next) 27 = .ok (.iaload, 1) := by decide +kernel
theorem d_Mo_next_28 : decode (yB Y_Mo_next) 28 = .ok (.bipush 32, 2) := by decide +kernel
theorem d_Mo_next_30 : decode (yB Y_Mo_next) 30 = .ok (.if_icmp .ne 16, 3) := by decide +kernel
theorem d_Mo_next_33 : decode (yB Y_Mo_next) 33 = .ok (.aload_n 0, 1) := by decide +kernel
theorem d_Mo_next_34 : decode (yB Y_Mo_next) 34 = .ok (.dup, 1) := by decide +kernel
theorem d_Mo_next_35 : decode (yB Y_Mo_next) 35 = .ok (.getfield 263, 3) := by decide +kernel
theorem d_Mo_next_38 : decode (yB Y_Mo_next) 38 = .ok (.iconst 1, 1) := by decide +kernel
theorem d_Mo_next_39 : decode (yB Y_Mo_next) 39 = .ok (.iadd, 1) := by decide +kernel
theorem d_Mo_next_40 : decode (yB Y_Mo_next) 40 = .ok (.putfield 263, 3) := by decide +kernel
theorem d_Mo_next_43 : decode (yB Y_Mo_next) 43 = .ok (.goto (-35), 3) := by decide +kernel
theorem d_Mo_next_46 : decode (yB Y_Mo_next) 46 = .ok (.aload_n 0, 1) := by decide +kernel
theorem d_Mo_next_47 : decode (yB Y_Mo_next) 47 = .ok (.aload_n 0, 1) := by decide +kernel
theorem d_Mo_next_48 : decode (yB Y_Mo_next) 48 = .ok (.getfield 263, 3) := by decide +kernel
theorem d_Mo_next_51 : decode (yB Y_Mo_next) 51 = .ok (.putfield 253, 3) := by decide +kernel
theorem d_Mo_next_54 : decode (yB Y_Mo_next) 54 = .ok (.aload_n 0, 1) := by decide +kernel
theorem d_Mo_next_55 : decode (yB Y_Mo_next) 55 = .ok (.lconst 0, 1) := by decide +kernel
theorem d_Mo_next_56 : decode (yB Y_Mo_next) 56 = .ok (.putfield 266, 3) := by decide +kernel
theorem d_Mo_next_59 : decode (yB Y_Mo_next) 59 = .ok (.aload_n 0, 1) := by decide +kernel
theorem d_Mo_next_60 : decode (yB Y_Mo_next) 60 = .ok (.aload_n 0, 1) := by decide +kernel
theorem d_Mo_next_61 : decode (yB Y_Mo_next) 61 = .ok (.getfield 263, 3) := by decide +kernel
theorem d_Mo_next_64 : decode (yB Y_Mo_next) 64 = .ok (.aload_n 0, 1) := by decide +kernel
theorem d_Mo_next_65 : decode (yB Y_Mo_next) 65 = .ok (.getfield 244, 3) := by decide +kernel
theorem d_Mo_next_68 : decode (yB Y_Mo_next) 68 = .ok (.if_icmp .ne 7, 3) := by decide +kernel
theorem d_Mo_next_71 : decode (yB Y_Mo_next) 71 = .ok (.iconst 0, 1) := by decide +kernel
theorem d_Mo_next_72 : decode (yB Y_Mo_next) 72 = .ok (.goto 42, 3) := by decide +kernel
theorem d_Mo_next_75 : decode (yB Y_Mo_next) 75 = .ok (.aload_n 0, 1) := by decide +kernel
theorem d_Mo_next_76 : decode (yB Y_Mo_next) 76 = .ok (.getfield 35, 3) := by decide +kernel
theorem d_Mo_next_79 : decode (yB Y_Mo_next) 79 = .ok (.aload_n 0, 1) := by decide +kernel
theorem d_Mo_next_80 : decode (yB Y_Mo_next) 80 = .ok (.getfield 263, 3) := by decide +kernel
theorem d_Mo_next_83 : decode (yB Y_Mo_next) 83 = .ok (.iaload, 1) := by decide +kernel
theorem d_Mo_next_84 : decode (yB Y_Mo_next) 84 = .ok (.invokestatic 270, 3) := by decide +kernel
theorem d_Mo_next_87 : decode (yB Y_Mo_next) 87 = .ok (.ifCond .eq 7, 3) := by decide +kernel
theorem d_Mo_next_90 : decode (yB Y_Mo_next) 90 = .ok (.iconst 1, 1) := by decide +kernel
theorem d_Mo_next_91 : decode (yB Y_Mo_next) 91 = .ok (.goto 23, 3) := by decide +kernel
theorem d_Mo_next_94 : decode (yB Y_Mo_next) 94 = .ok (.aload_n 0, 1) := by decide +kernel
theorem d_Mo_next_95 : decode (yB Y_Mo_next) 95 = .ok (.getfield 35, 3) := by decide +kernel
theorem d_Mo_next_98 : decode (yB Y_Mo_next) 98 = .ok (.aload_n 0, 1) := by decide +kernel
theorem d_Mo_next_99 : decode (yB Y_Mo_next) 99 = .ok (.getfield 263, 3) := by decide +kernel
theorem d_Mo_next_102 : decode (yB Y_Mo_next) 102 = .ok (.iaload, 1) := by decide +kernel
theorem d_Mo_next_103 : decode (yB Y_Mo_next) 103 = .ok (.invokestatic 273, 3) := by decide +kernel
theorem d_Mo_next_106 : decode (yB Y_Mo_next) 106 = .ok (.ifCond .eq 7, 3) := by decide +kernel
theorem d_Mo_next_109 : decode (yB Y_Mo_next) 109 = .ok (.iconst 2, 1) := by decide +kernel
theorem d_Mo_next_110 : decode (yB Y_Mo_next) 110 = .ok (.goto 4, 3) := by decide +kernel
theorem d_Mo_next_113 : decode (yB Y_Mo_next) 113 = .ok (.iconst 3, 1) := by decide +kernel
theorem d_Mo_next_114 : decode (yB Y_Mo_next) 114 = .ok (.putfield 276, 3) := by decide +kernel
theorem d_Mo_next_117 : decode (yB Y_Mo_next) 117 = .ok (.aload_n 0, 1) := by decide +kernel
theorem d_Mo_next_118 : decode (yB Y_Mo_next) 118 = .ok (.getfield 276, 3) := by decide +kernel
theorem d_Mo_next_121 : decode (yB Y_Mo_next) 121 = .ok (.iconst 3, 1) := by decide +kernel
theorem d_Mo_next_122 : decode (yB Y_Mo_next) 122 = .ok (.if_icmp .ne 27, 3) := by decide +kernel
theorem d_Mo_next_125 : decode (yB Y_Mo_next) 125 = .ok (.aload_n 0, 1) := by decide +kernel
theorem d_Mo_next_126 : decode (yB Y_Mo_next) 126 = .ok (.aload_n 0, 1) := by decide +kernel
theorem d_Mo_next_127 : decode (yB Y_Mo_next) 127 = .ok (.getfield 35, 3) := by decide +kernel
theorem d_Mo_next_130 : decode (yB Y_Mo_next) 130 = .ok (.aload_n 0, 1) := by decide +kernel
theorem d_Mo_next_131 : decode (yB Y_Mo_next) 131 = .ok (.getfield 263, 3) := by decide +kernel
theorem d_Mo_next_134 : decode (yB Y_Mo_next) 134 = .ok (.iaload, 1) := by decide +kernel
theorem d_Mo_next_135 : decode (yB Y_Mo_next) 135 = .ok (.i2l, 1) := by decide +kernel
theorem d_Mo_next_136 : decode (yB Y_Mo_next) 136 = .ok (.putfield 266, 3) := by decide +kernel
theorem d_Mo_next_139 : decode (yB Y_Mo_next) 139 = .ok (.aload_n 0, 1) := by decide +kernel
theorem d_Mo_next_140 : decode (yB Y_Mo_next) 140 = .ok (.dup, 1) := by decide +kernel
theorem d_Mo_next_141 : decode (yB Y_Mo_next) 141 = .ok (.getfield 253, 3) := by decide +kernel
theorem d_Mo_next_144 : decode (yB Y_Mo_next) 144 = .ok (.iconst 1, 1) := by decide +kernel
theorem d_Mo_next_145 : decode (yB Y_Mo_next) 145 = .ok (.iadd, 1) := by decide +kernel
theorem d_Mo_next_146 : decode (yB Y_Mo_next) 146 = .ok (.putfield 253, 3) := by decide +kernel
theorem d_Mo_next_149 : decode (yB Y_Mo_next) 149 = .ok (.aload_n 0, 1) := by decide +kernel
theorem d_Mo_next_150 : decode (yB Y_Mo_next) 150 = .ok (.getfield 276, 3) := by decide +kernel
theorem d_Mo_next_153 : decode (yB Y_Mo_next) 153 = .ok (.iconst 1, 1) := by decide +kernel
theorem d_Mo_next_154 : decode (yB Y_Mo_next) 154 = .ok (.if_icmp .ne 89, 3) := by decide +kernel
theorem d_Mo_next_157 : decode (yB Y_Mo_next) 157 = .ok (.aload_n 0, 1) := by decide +kernel
theorem d_Mo_next_158 : decode (yB Y_Mo_next) 158 = .ok (.getfield 253, 3) := by decide +kernel
theorem d_Mo_next_161 : decode (yB Y_Mo_next) 161 = .ok (.aload_n 0, 1) := by decide +kernel
theorem d_Mo_next_162 : decode (yB Y_Mo_next) 162 = .ok (.getfield 244, 3) := by decide +kernel
theorem d_Mo_next_165 : decode (yB Y_Mo_next) 165 = .ok (.if_icmp .ge 78, 3) := by decide +kernel
theorem d_Mo_next_168 : decode (yB Y_Mo_next) 168 = .ok (.aload_n 0, 1) := by decide +kernel
theorem d_Mo_next_169 : decode (yB Y_Mo_next) 169 = .ok (.getfield 35, 3) := by decide +kernel
theorem d_Mo_next_172 : decode (yB Y_Mo_next) 172 = .ok (.aload_n 0, 1) := by decide +kernel
theorem d_Mo_next_173 : decode (yB Y_Mo_next) 173 = .ok (.getfield 253, 3) := by decide +kernel
theorem d_Mo_next_176 : decode (yB Y_Mo_next) 176 = .ok (.iaload, 1) := by decide +kernel
theorem d_Mo_next_177 : decode (yB Y_Mo_next) 177 = .ok (.invokestatic 270, 3) := by decide +kernel
theorem d_Mo_next_180 : decode (yB Y_Mo_next) 180 = .ok (.ifCond .eq 63, 3) := by decide +kernel
theorem d_Mo_next_183 : decode (yB Y_Mo_next) 183 = .ok (.aload_n 0, 1) := by decide +kernel
theorem d_Mo_next_184 : decode (yB Y_Mo_next) 184 = .ok (.aload_n 0, 1) := by decide +kernel
theorem d_Mo_next_185 : decode (yB Y_Mo_next) 185 = .ok (.getfield 253, 3) := by decide +kernel
theorem d_Mo_next_188 : decode (yB Y_Mo_next) 188 = .ok (.aload_n 0, 1) := by decide +kernel
theorem d_Mo_next_189 : decode (yB Y_Mo_next) 189 = .ok (.getfield 263, 3) := by decide +kernel
theorem d_Mo_next_192 : decode (yB Y_Mo_next) 192 = .ok (.isub, 1) := by decide +kernel
theorem d_Mo_next_193 : decode (yB Y_Mo_next) 193 = .ok (.bipush 10, 2) := by decide +kernel
theorem d_Mo_next_195 : decode (yB Y_Mo_next) 195 = .ok (.if_icmp .ge 29, 3) := by decide +kernel
theorem d_Mo_next_198 : decode (yB Y_Mo_next) 198 = .ok (.aload_n 0, 1) := by decide +kernel
theorem d_Mo_next_199 : decode (yB Y_Mo_next) 199 = .ok (.getfield 266, 3) := by decide +kernel
theorem d_Mo_next_202 : decode (yB Y_Mo_next) 202 = .ok (.ldc2_w 279, 3) := by decide +kernel
theorem d_Mo_next_205 : decode (yB Y_Mo_next) 205 = .ok (.lmul, 1) := by decide +kernel
theorem d_Mo_next_206 : decode (yB Y_Mo_next) 206 = .ok (.aload_n 0, 1) := by decide +kernel
theorem d_Mo_next_207 : decode (yB Y_Mo_next) 207 = .ok (.getfield 35, 3) := by decide +kernel
theorem d_Mo_next_210 : decode (yB Y_Mo_next) 210 = .ok (.aload_n 0, 1) := by decide +kernel
theorem d_Mo_next_211 : decode (yB Y_Mo_next) 211 = .ok (.getfield 253, 3) := by decide +kernel
theorem d_Mo_next_214 : decode (yB Y_Mo_next) 214 = .ok (.iaload, 1) := by decide +kernel
theorem d_Mo_next_215 : decode (yB Y_Mo_next) 215 = .ok (.i2l, 1) := by decide +kernel
theorem d_Mo_next_216 : decode (yB Y_Mo_next) 216 = .ok (.ladd, 1) := by decide +kernel
theorem d_Mo_next_217 : decode (yB Y_Mo_next) 217 = .ok (.ldc2_w 281, 3) := by decide +kernel
theorem d_Mo_next_220 : decode (yB Y_Mo_next) 220 = .ok (.lsub, 1) := by decide +kernel
theorem d_Mo_next_221 : decode (yB Y_Mo_next) 221 = .ok (.goto 6, 3) := by decide +kernel
theorem d_Mo_next_224 : decode (yB Y_Mo_next) 224 = .ok (.ldc2_w 228, 3) := by decide +kernel
theorem d_Mo_next_227 : decode (yB Y_Mo_next) 227 = .ok (.putfield 266, 3) := by decide +kernel
theorem d_Mo_next_230 : decode (yB Y_Mo_next) 230 = .ok (.aload_n 0, 1) := by decide +kernel
theorem d_Mo_next_231 : decode (yB Y_Mo_next) 231 = .ok (.dup, 1) := by decide +kernel
theorem d_Mo_next_232 : decode (yB Y_Mo_next) 232 = .ok (.getfield 253, 3) := by decide +kernel
theorem d_Mo_next_235 : decode (yB Y_Mo_next) 235 = .ok (.iconst 1, 1) := by decide +kernel
theorem d_Mo_next_236 : decode (yB Y_Mo_next) 236 = .ok (.iadd, 1) := by decide +kernel
theorem d_Mo_next_237 : decode (yB Y_Mo_next) 237 = .ok (.putfield 253, 3) := by decide +kernel
theorem d_Mo_next_240 : decode (yB Y_Mo_next) 240 = .ok (.goto (-91), 3) := by decide +kernel
theorem d_Mo_next_243 : decode (yB Y_Mo_next) 243 = .ok (.aload_n 0, 1) := by decide +kernel
theorem d_Mo_next_244 : decode (yB Y_Mo_next) 244 = .ok (.getfield 276, 3) := by decide +kernel
theorem d_Mo_next_247 : decode (yB Y_Mo_next) 247 = .ok (.iconst 2, 1) := by decide +kernel
theorem d_Mo_next_248 : decode (yB Y_Mo_next) 248 = .ok (.if_icmp .ne 87, 3) := by decide +kernel
theorem d_Mo_next_251 : decode (yB Y_Mo_next) 251 = .ok (.aload_n 0, 1) := by decide +kernel
theorem d_Mo_next_252 : decode (yB Y_Mo_next) 252 = .ok (.getfield 253, 3) := by decide +kernel
theorem d_Mo_next_255 : decode (yB Y_Mo_next) 255 = .ok (.aload_n 0, 1) := by decide +kernel
theorem d_Mo_next_256 : decode (yB Y_Mo_next) 256 = .ok (.getfield 244, 3) := by decide +kernel
theorem d_Mo_next_259 : decode (yB Y_Mo_next) 259 = .ok (.if_icmp .ge 76, 3) := by decide +kernel
theorem d_Mo_next_262 : decode (yB Y_Mo_next) 262 = .ok (.aload_n 0, 1) := by decide +kernel
theorem d_Mo_next_263 : decode (yB Y_Mo_next) 263 = .ok (.getfield 35, 3) := by decide +kernel
theorem d_Mo_next_266 : decode (yB Y_Mo_next) 266 = .ok (.aload_n 0, 1) := by decide +kernel
theorem d_Mo_next_267 : decode (yB Y_Mo_next) 267 = .ok (.getfield 253, 3) := by decide +kernel
theorem d_Mo_next_270 : decode (yB Y_Mo_next) 270 = .ok (.iaload, 1) := by decide +kernel
theorem d_Mo_next_271 : decode (yB Y_Mo_next) 271 = .ok (.invokestatic 273, 3) := by decide +kernel
theorem d_Mo_next_274 : decode (yB Y_Mo_next) 274 = .ok (.ifCond .eq 61, 3) := by decide +kernel
theorem d_Mo_next_277 : decode (yB Y_Mo_next) 277 = .ok (.aload_n 0, 1) := by decide +kernel
theorem d_Mo_next_278 : decode (yB Y_Mo_next) 278 = .ok (.aload_n 0, 1) := by decide +kernel
theorem d_Mo_next_279 : decode (yB Y_Mo_next) 279 = .ok (.getfield 266, 3) := by decide +kernel
theorem d_Mo_next_282 : decode (yB Y_Mo_next) 282 = .ok (.ldc2_w 283, 3) := by decide +kernel
theorem d_Mo_next_285 : decode (yB Y_Mo_next) 285 = .ok (.lcmp, 1) := by decide +kernel
theorem d_Mo_next_286 : decode (yB Y_Mo_next) 286 = .ok (.ifCond .le 10, 3) := by decide +kernel
theorem d_Mo_next_289 : decode (yB Y_Mo_next) 289 = .ok (.aload_n 0, 1) := by decide +kernel
theorem d_Mo_next_290 : decode (yB Y_Mo_next) 290 = .ok (.getfield 266, 3) := by decide +kernel
theorem d_Mo_next_293 : decode (yB Y_Mo_next) 293 = .ok (.goto 26, 3) := by decide +kernel
theorem d_Mo_next_296 : decode (yB Y_Mo_next) 296 = .ok (.aload_n 0, 1) := by decide +kernel
theorem d_Mo_next_297 : decode (yB Y_Mo_next) 297 = .ok (.getfield 266, 3) := by decide +kernel
theorem d_Mo_next_300 : decode (yB Y_Mo_next) 300 = .ok (.ldc2_w 239, 3) := by decide +kernel
theorem d_Mo_next_303 : decode (yB Y_Mo_next) 303 = .ok (.lmul, 1) := by decide +kernel
theorem d_Mo_next_304 : decode (yB Y_Mo_next) 304 = .ok (.aload_n 0, 1) := by decide +kernel
theorem d_Mo_next_305 : decode (yB Y_Mo_next) 305 = .ok (.getfield 35, 3) := by decide +kernel
theorem d_Mo_next_308 : decode (yB Y_Mo_next) 308 = .ok (.aload_n 0, 1) := by decide +kernel
theorem d_Mo_next_309 : decode (yB Y_Mo_next) 309 = .ok (.getfield 253, 3) := by decide +kernel
theorem d_Mo_next_312 : decode (yB Y_Mo_next) 312 = .ok (.iaload, 1) := by decide +kernel
theorem d_Mo_next_313 : decode (yB Y_Mo_next) 313 = .ok (.i2l, 1) := by decide +kernel
theorem d_Mo_next_314 : decode (yB Y_Mo_next) 314 = .ok (.ladd, 1) := by decide +kernel
theorem d_Mo_next_315 : decode (yB Y_Mo_next) 315 = .ok (.ldc2_w 285, 3) := by decide +kernel
theorem d_Mo_next_318 : decode (yB Y_Mo_next) 318 = .ok (.lsub, 1) := by decide +kernel
theorem d_Mo_next_319 : decode (yB Y_Mo_next) 319 = .ok (.putfield 266, 3) := by decide +kernel
theorem d_Mo_next_322 : decode (yB Y_Mo_next) 322 = .ok (.aload_n 0, 1) := by decide +kernel
theorem d_Mo_next_323 : decode (yB Y_Mo_next) 323 = .ok (.dup, 1) := by decide +kernel
theorem d_Mo_next_324 : decode (yB Y_Mo_next) 324 = .ok (.getfield 253, 3) := by decide +kernel
theorem d_Mo_next_327 : decode (yB Y_Mo_next) 327 = .ok (.iconst 1, 1) := by decide +kernel
theorem d_Mo_next_328 : decode (yB Y_Mo_next) 328 = .ok (.iadd, 1) := by decide +kernel
theorem d_Mo_next_329 : decode (yB Y_Mo_next) 329 = .ok (.putfield 253, 3) := by decide +kernel
theorem d_Mo_next_332 : decode (yB Y_Mo_next) 332 = .ok (.goto (-89), 3) := by decide +kernel
theorem d_Mo_next_335 : decode (yB Y_Mo_next) 335 = .ok (.return_, 1) := by decide +kernel
def F_Mo_next_b227 (n : Nat) (E : zE) (S : zS) (r149 : Nat × zH → Option (zH)) (a0 : Nat) (t0 : Int64) (u1 : Nat) (M : zH) : Option (zH) :=
  (zpJ S M u1 11 17 t0).bind fun m_1 =>
  (zgI S m_1 a0 11 15).bind fun v_2 =>
  (zpI S m_1 a0 11 15 (v_2 + 1)).bind fun m_3 =>
  r149 (a0, m_3)
def F_Mo_next_b319 (n : Nat) (E : zE) (S : zS) (r243 : Nat × zH → Option (zH)) (a0 : Nat) (t0 : Int64) (u1 : Nat) (M : zH) : Option (zH) :=
  (zpJ S M u1 11 17 t0).bind fun m_4 =>
  (zgI S m_4 a0 11 15).bind fun v_5 =>
  (zpI S m_4 a0 11 15 (v_5 + 1)).bind fun m_6 =>
  r243 (a0, m_6)
def F_Mo_next_L243 (n : Nat) (E : zE) (S : zS) (r243 : Nat × zH → Option (zH)) (a0 : Nat) (M : zH) : Option (zH) :=
  (zgI S M a0 11 16).bind fun v_7 =>
  if v_7 = 2 then
    (zgI S M a0 11 15).bind fun v_9 =>
    (zgI S M a0 11 13).bind fun v_10 =>
    if v_10 ≤ v_9 then
      some (M)
    else
      (zgR S a0 11 12).bind fun b_12 =>
      (zgI S M a0 11 15).bind fun v_13 =>
      (zldI S M b_12 v_13).bind fun v_14 =>
      (F_Mo_isDigit n E S v_14 M).bind fun q_15 =>
      if q_15.1 = true then
        (zgJ S q_15.2 a0 11 17).bind fun v_17 =>
        if v_17 ≤ 1000000 then
          (zgJ S q_15.2 a0 11 17).bind fun v_19 =>
          (zgI S q_15.2 a0 11 15).bind fun v_20 =>
          (zldI S q_15.2 b_12 v_20).bind fun v_21 =>
          F_Mo_next_b319 n E S r243 a0 (((v_19 * 10) + v_21.toInt64) - 48) a0 q_15.2
        else
          (zgJ S q_15.2 a0 11 17).bind fun v_22 =>
          F_Mo_next_b319 n E S r243 a0 v_22 a0 q_15.2
      else
        some (q_15.2)
  else
    some (M)
def F_Mo_next_b243 (n : Nat) (E : zE) (S : zS) : Nat × zH → Option (zH) := zfix (fun r243 s => F_Mo_next_L243 n E S r243 s.1 s.2) n
def F_Mo_next_L149 (n : Nat) (E : zE) (S : zS) (r149 : Nat × zH → Option (zH)) (a0 : Nat) (M : zH) : Option (zH) :=
  (zgI S M a0 11 16).bind fun v_23 =>
  if v_23 = 1 then
    (zgI S M a0 11 15).bind fun v_25 =>
    (zgI S M a0 11 13).bind fun v_26 =>
    if v_26 ≤ v_25 then
      F_Mo_next_b243 n E S (a0, M)
    else
      (zgR S a0 11 12).bind fun b_28 =>
      (zgI S M a0 11 15).bind fun v_29 =>
      (zldI S M b_28 v_29).bind fun v_30 =>
      (F_Mo_isSmall n E S v_30 M).bind fun q_31 =>
      if q_31.1 = true then
        (zgI S q_31.2 a0 11 15).bind fun v_33 =>
        (zgI S q_31.2 a0 11 14).bind fun v_34 =>
        if 10 ≤ (v_33 - v_34) then
          F_Mo_next_b227 n E S r149 a0 (-1) a0 q_31.2
        else
          (zgJ S q_31.2 a0 11 17).bind fun v_36 =>
          (zgI S q_31.2 a0 11 15).bind fun v_37 =>
          (zldI S q_31.2 b_28 v_37).bind fun v_38 =>
          F_Mo_next_b227 n E S r149 a0 (((v_36 * 32) + v_38.toInt64) - 96) a0 q_31.2
      else
        F_Mo_next_b243 n E S (a0, q_31.2)
  else
    F_Mo_next_b243 n E S (a0, M)
def F_Mo_next_b149 (n : Nat) (E : zE) (S : zS) : Nat × zH → Option (zH) := zfix (fun r149 s => F_Mo_next_L149 n E S r149 s.1 s.2) n
def F_Mo_next_b114 (n : Nat) (E : zE) (S : zS) (a0 : Nat) (s0 : Int32) (u1 : Nat) (M : zH) : Option (zH) :=
  (zpI S M u1 11 16 s0).bind fun m_39 =>
  (zgI S m_39 a0 11 16).bind fun v_40 =>
  if v_40 = 3 then
    (zgR S a0 11 12).bind fun b_42 =>
    (zgI S m_39 a0 11 14).bind fun v_43 =>
    (zldI S m_39 b_42 v_43).bind fun v_44 =>
    (zpJ S m_39 a0 11 17 v_44.toInt64).bind fun m_45 =>
    (zgI S m_45 a0 11 15).bind fun v_46 =>
    (zpI S m_45 a0 11 15 (v_46 + 1)).bind fun m_47 =>
    F_Mo_next_b149 n E S (a0, m_47)
  else
    F_Mo_next_b149 n E S (a0, m_39)
def F_Mo_next_b46 (n : Nat) (E : zE) (S : zS) (a0 : Nat) (M : zH) : Option (zH) :=
  (zgI S M a0 11 14).bind fun v_48 =>
  (zpI S M a0 11 15 v_48).bind fun m_49 =>
  (zpJ S m_49 a0 11 17 0).bind fun m_50 =>
  (zgI S m_50 a0 11 14).bind fun v_51 =>
  (zgI S m_50 a0 11 13).bind fun v_52 =>
  if v_51 = v_52 then
    F_Mo_next_b114 n E S a0 0 a0 m_50
  else
    (zgR S a0 11 12).bind fun b_54 =>
    (zgI S m_50 a0 11 14).bind fun v_55 =>
    (zldI S m_50 b_54 v_55).bind fun v_56 =>
    (F_Mo_isSmall n E S v_56 m_50).bind fun q_57 =>
    if q_57.1 = true then
      F_Mo_next_b114 n E S a0 1 a0 q_57.2
    else
      (zgI S q_57.2 a0 11 14).bind fun v_59 =>
      (zldI S q_57.2 b_54 v_59).bind fun v_60 =>
      (F_Mo_isDigit n E S v_60 q_57.2).bind fun q_61 =>
      if q_61.1 = true then
        F_Mo_next_b114 n E S a0 2 a0 q_61.2
      else
        F_Mo_next_b114 n E S a0 3 a0 q_61.2
def F_Mo_next_L8 (n : Nat) (E : zE) (S : zS) (r8 : Nat × zH → Option (zH)) (a0 : Nat) (M : zH) : Option (zH) :=
  (zgI S M a0 11 14).bind fun v_63 =>
  (zgI S M a0 11 13).bind fun v_64 =>
  if v_64 ≤ v_63 then
    F_Mo_next_b46 n E S a0 M
  else
    (zgR S a0 11 12).bind fun b_66 =>
    (zgI S M a0 11 14).bind fun v_67 =>
    (zldI S M b_66 v_67).bind fun v_68 =>
    if v_68 = 32 then
      (zgI S M a0 11 14).bind fun v_70 =>
      (zpI S M a0 11 14 (v_70 + 1)).bind fun m_71 =>
      r8 (a0, m_71)
    else
      F_Mo_next_b46 n E S a0 M
def F_Mo_next_b8 (n : Nat) (E : zE) (S : zS) : Nat × zH → Option (zH) := zfix (fun r8 s => F_Mo_next_L8 n E S r8 s.1 s.2) n
def F_Mo_next (n : Nat) (E : zE) (S : zS) (a0 : Nat) (M : zH) : Option (zH) :=
  (zgI S M a0 11 15).bind fun v_72 =>
  (zpI S M a0 11 14 v_72).bind fun m_73 =>
  F_Mo_next_b8 n E S (a0, m_73)
theorem K_Mo_next_b227 (n : Nat) (E : zE) (S : zS) (r149 : Nat × zH → Option (zH)) (a0 : Nat) (t0 : Int64) (u1 : Nat) (M : zH) (M' : zH) (hr149 : ∀ (a0 : Nat) (M : zH), r149 (a0, M) = some M' → zG E Y_Mo_next (none, S, M') 149 [(0, .ref a0)] [] S M 0 0) (h : F_Mo_next_b227 n E S r149 a0 t0 u1 M = some M') : zG E Y_Mo_next (none, S, M') 227 [(0, .ref a0)] [.long t0, .ref u1] S M 0 0 := by
  unfold F_Mo_next_b227 at h
  obtain ⟨m_1, em_1, h⟩ := zbind h
  refine zo_putJ 230 zkd_11 17 d_Mo_next_227 em_1 rfl rfl rfl tw_1248 rfl ?_
  refine zi_aload_n 0 d_Mo_next_230 rfl ?_
  refine zi_dup d_Mo_next_231 rfl ?_
  obtain ⟨v_2, ev_2, h⟩ := zbind h
  refine zo_getI 235 zkd_11 15 d_Mo_next_232 ev_2 rfl tw_1246 rfl ?_
  refine zi_iconst 1 d_Mo_next_235 rfl ?_
  refine zi_iadd d_Mo_next_236 ?_
  obtain ⟨m_3, em_3, h⟩ := zbind h
  refine zo_putI 240 zkd_11 15 d_Mo_next_237 em_3 rfl rfl rfl tw_1246 rfl ?_
  refine zi_goto (tgt := 149) d_Mo_next_240 rfl ?_
  refine zi_lo [(0, .ref a0)] [0] rfl ?_
  exact hr149 a0 m_3 h
theorem K_Mo_next_b319 (n : Nat) (E : zE) (S : zS) (r243 : Nat × zH → Option (zH)) (a0 : Nat) (t0 : Int64) (u1 : Nat) (M : zH) (M' : zH) (hr243 : ∀ (a0 : Nat) (M : zH), r243 (a0, M) = some M' → zG E Y_Mo_next (none, S, M') 243 [(0, .ref a0)] [] S M 0 0) (h : F_Mo_next_b319 n E S r243 a0 t0 u1 M = some M') : zG E Y_Mo_next (none, S, M') 319 [(0, .ref a0)] [.long t0, .ref u1] S M 0 0 := by
  unfold F_Mo_next_b319 at h
  obtain ⟨m_4, em_4, h⟩ := zbind h
  refine zo_putJ 322 zkd_11 17 d_Mo_next_319 em_4 rfl rfl rfl tw_1248 rfl ?_
  refine zi_aload_n 0 d_Mo_next_322 rfl ?_
  refine zi_dup d_Mo_next_323 rfl ?_
  obtain ⟨v_5, ev_5, h⟩ := zbind h
  refine zo_getI 327 zkd_11 15 d_Mo_next_324 ev_5 rfl tw_1246 rfl ?_
  refine zi_iconst 1 d_Mo_next_327 rfl ?_
  refine zi_iadd d_Mo_next_328 ?_
  obtain ⟨m_6, em_6, h⟩ := zbind h
  refine zo_putI 332 zkd_11 15 d_Mo_next_329 em_6 rfl rfl rfl tw_1246 rfl ?_
  refine zi_goto (tgt := 243) d_Mo_next_332 rfl ?_
  refine zi_lo [(0, .ref a0)] [0] rfl ?_
  exact hr243 a0 m_6 h
theorem K_Mo_next_L243 (n : Nat) (E : zE) (S : zS) (r243 : Nat × zH → Option (zH)) (a0 : Nat) (M : zH) (M' : zH) (hr243 : ∀ (a0 : Nat) (M : zH), r243 (a0, M) = some M' → zG E Y_Mo_next (none, S, M') 243 [(0, .ref a0)] [] S M 0 0) (h : F_Mo_next_L243 n E S r243 a0 M = some M') : zG E Y_Mo_next (none, S, M') 243 [(0, .ref a0)] [] S M 0 0 := by
  unfold F_Mo_next_L243 at h
  refine zi_aload_n 0 d_Mo_next_243 rfl ?_
  obtain ⟨v_7, ev_7, h⟩ := zbind h
  refine zo_getI 247 zkd_11 16 d_Mo_next_244 ev_7 rfl tw_1247 rfl ?_
  refine zi_iconst 2 d_Mo_next_247 rfl ?_
  refine zi_icmp_ne (tgt := 335) d_Mo_next_248 rfl (fun c_8 => ?_) (fun c_8 => ?_)
  · rw [if_neg c_8] at h
    cases h
    exact zo_ret d_Mo_next_335 (Nat.le_of_ble_eq_true rfl) (Nat.le_of_ble_eq_true rfl) rfl
  · rw [if_pos c_8] at h
    refine zi_aload_n 0 d_Mo_next_251 rfl ?_
    obtain ⟨v_9, ev_9, h⟩ := zbind h
    refine zo_getI 255 zkd_11 15 d_Mo_next_252 ev_9 rfl tw_1246 rfl ?_
    refine zi_aload_n 0 d_Mo_next_255 rfl ?_
    obtain ⟨v_10, ev_10, h⟩ := zbind h
    refine zo_getI 259 zkd_11 13 d_Mo_next_256 ev_10 rfl tw_1244 rfl ?_
    refine zi_icmp_ge (tgt := 335) d_Mo_next_259 rfl (fun c_11 => ?_) (fun c_11 => ?_)
    · rw [if_pos c_11] at h
      cases h
      exact zo_ret d_Mo_next_335 (Nat.le_of_ble_eq_true rfl) (Nat.le_of_ble_eq_true rfl) rfl
    · rw [if_neg c_11] at h
      refine zi_aload_n 0 d_Mo_next_262 rfl ?_
      obtain ⟨b_12, eb_12, h⟩ := zbind h
      refine zo_getR 266 zkd_11 12 d_Mo_next_263 eb_12 rfl tw_1243 rfl ?_
      refine zi_aload_n 0 d_Mo_next_266 rfl ?_
      obtain ⟨v_13, ev_13, h⟩ := zbind h
      refine zo_getI 270 zkd_11 15 d_Mo_next_267 ev_13 rfl tw_1246 rfl ?_
      obtain ⟨v_14, ev_14, h⟩ := zbind h
      refine zo_iald 271 d_Mo_next_270 ev_14 rfl ?_
      obtain ⟨q_15, eq_15, h⟩ := zbind h
      refine zo_stat (k' := 0) (n' := 0) 274 [.int v_14] [] [.int (bI q_15.1)] (C_Mo_isDigit n E S v_14 M q_15.1 q_15.2 eq_15) d_Mo_next_271 tw_1585 tw_1583 tw_1584 tw_13 dd_Mo_isDigit ⟨Nat.le_of_ble_eq_true rfl, Nat.le_of_ble_eq_true rfl, Nat.le_of_ble_eq_true rfl, Nat.le_of_ble_eq_true rfl⟩ (Nat.le_of_ble_eq_true rfl) rfl rfl rfl rfl ?_
      refine zo_ifeqB d_Mo_next_274 rfl 277 rfl (fun c_16 => ?_) (fun c_16 => ?_)
      · rw [if_neg c_16] at h
        cases h
        exact zo_ret d_Mo_next_335 (Nat.le_of_ble_eq_true rfl) (Nat.le_of_ble_eq_true rfl) rfl
      · rw [if_pos c_16] at h
        refine zi_aload_n 0 d_Mo_next_277 rfl ?_
        refine zi_aload_n 0 d_Mo_next_278 rfl ?_
        obtain ⟨v_17, ev_17, h⟩ := zbind h
        refine zo_getJ 282 zkd_11 17 d_Mo_next_279 ev_17 rfl tw_1248 rfl ?_
        refine zi_ldc2 d_Mo_next_282 tw_1588 ?_
        refine zo_lc_le d_Mo_next_285 d_Mo_next_286 rfl 289 rfl (fun c_18 => ?_) (fun c_18 => ?_)
        · rw [if_pos c_18] at h
          refine zi_aload_n 0 d_Mo_next_296 rfl ?_
          obtain ⟨v_19, ev_19, h⟩ := zbind h
          refine zo_getJ 300 zkd_11 17 d_Mo_next_297 ev_19 rfl tw_1248 rfl ?_
          refine zi_ldc2 d_Mo_next_300 tw_1539 ?_
          refine zi_lmul d_Mo_next_303 ?_
          refine zi_aload_n 0 d_Mo_next_304 rfl ?_
          refine zo_getR 308 zkd_11 12 d_Mo_next_305 eb_12 rfl tw_1243 rfl ?_
          refine zi_aload_n 0 d_Mo_next_308 rfl ?_
          obtain ⟨v_20, ev_20, h⟩ := zbind h
          refine zo_getI 312 zkd_11 15 d_Mo_next_309 ev_20 rfl tw_1246 rfl ?_
          obtain ⟨v_21, ev_21, h⟩ := zbind h
          refine zo_iald 313 d_Mo_next_312 ev_21 rfl ?_
          refine zi_i2l d_Mo_next_313 ?_
          refine zi_ladd d_Mo_next_314 ?_
          refine zi_ldc2 d_Mo_next_315 tw_1589 ?_
          refine zi_lsub d_Mo_next_318 ?_
          refine zi_lo [(0, .ref a0)] [0] rfl ?_
          exact K_Mo_next_b319 n E S r243 a0 (((v_19 * 10) + v_21.toInt64) - 48) a0 q_15.2 M' hr243 h
        · rw [if_neg c_18] at h
          refine zi_aload_n 0 d_Mo_next_289 rfl ?_
          obtain ⟨v_22, ev_22, h⟩ := zbind h
          refine zo_getJ 293 zkd_11 17 d_Mo_next_290 ev_22 rfl tw_1248 rfl ?_
          refine zi_goto (tgt := 319) d_Mo_next_293 rfl ?_
          refine zi_lo [(0, .ref a0)] [0] rfl ?_
          exact K_Mo_next_b319 n E S r243 a0 v_22 a0 q_15.2 M' hr243 h
theorem K_Mo_next_b243 (n : Nat) (E : zE) (S : zS) (a0 : Nat) (M : zH) (M' : zH)  (h : F_Mo_next_b243 n E S (a0, M) = some M') : zG E Y_Mo_next (none, S, M') 243 [(0, .ref a0)] [] S M 0 0 := by
  have key : ∀ (k : Nat) (a0 : Nat) (M : zH), zfix (fun r243 s => F_Mo_next_L243 n E S r243 s.1 s.2) k (a0, M) = some M' → zG E Y_Mo_next (none, S, M') 243 [(0, .ref a0)] [] S M 0 0 := by
    intro k
    induction k with
    | zero => intro a0 M h; cases h
    | succ k ih => intro a0 M h; exact K_Mo_next_L243 n E S _ a0 M M'  (fun a0 M h => ih a0 M h) h
  exact key n a0 M h
theorem K_Mo_next_L149 (n : Nat) (E : zE) (S : zS) (r149 : Nat × zH → Option (zH)) (a0 : Nat) (M : zH) (M' : zH) (hr149 : ∀ (a0 : Nat) (M : zH), r149 (a0, M) = some M' → zG E Y_Mo_next (none, S, M') 149 [(0, .ref a0)] [] S M 0 0) (h : F_Mo_next_L149 n E S r149 a0 M = some M') : zG E Y_Mo_next (none, S, M') 149 [(0, .ref a0)] [] S M 0 0 := by
  unfold F_Mo_next_L149 at h
  refine zi_aload_n 0 d_Mo_next_149 rfl ?_
  obtain ⟨v_23, ev_23, h⟩ := zbind h
  refine zo_getI 153 zkd_11 16 d_Mo_next_150 ev_23 rfl tw_1247 rfl ?_
  refine zi_iconst 1 d_Mo_next_153 rfl ?_
  refine zi_icmp_ne (tgt := 243) d_Mo_next_154 rfl (fun c_24 => ?_) (fun c_24 => ?_)
  · rw [if_neg c_24] at h
    refine zi_lo [(0, .ref a0)] [0] rfl ?_
    exact K_Mo_next_b243 n E S a0 M M'  h
  · rw [if_pos c_24] at h
    refine zi_aload_n 0 d_Mo_next_157 rfl ?_
    obtain ⟨v_25, ev_25, h⟩ := zbind h
    refine zo_getI 161 zkd_11 15 d_Mo_next_158 ev_25 rfl tw_1246 rfl ?_
    refine zi_aload_n 0 d_Mo_next_161 rfl ?_
    obtain ⟨v_26, ev_26, h⟩ := zbind h
    refine zo_getI 165 zkd_11 13 d_Mo_next_162 ev_26 rfl tw_1244 rfl ?_
    refine zi_icmp_ge (tgt := 243) d_Mo_next_165 rfl (fun c_27 => ?_) (fun c_27 => ?_)
    · rw [if_pos c_27] at h
      refine zi_lo [(0, .ref a0)] [0] rfl ?_
      exact K_Mo_next_b243 n E S a0 M M'  h
    · rw [if_neg c_27] at h
      refine zi_aload_n 0 d_Mo_next_168 rfl ?_
      obtain ⟨b_28, eb_28, h⟩ := zbind h
      refine zo_getR 172 zkd_11 12 d_Mo_next_169 eb_28 rfl tw_1243 rfl ?_
      refine zi_aload_n 0 d_Mo_next_172 rfl ?_
      obtain ⟨v_29, ev_29, h⟩ := zbind h
      refine zo_getI 176 zkd_11 15 d_Mo_next_173 ev_29 rfl tw_1246 rfl ?_
      obtain ⟨v_30, ev_30, h⟩ := zbind h
      refine zo_iald 177 d_Mo_next_176 ev_30 rfl ?_
      obtain ⟨q_31, eq_31, h⟩ := zbind h
      refine zo_stat (k' := 0) (n' := 0) 180 [.int v_30] [] [.int (bI q_31.1)] (C_Mo_isSmall n E S v_30 M q_31.1 q_31.2 eq_31) d_Mo_next_177 tw_1582 tw_1580 tw_1581 tw_13 dd_Mo_isSmall ⟨Nat.le_of_ble_eq_true rfl, Nat.le_of_ble_eq_true rfl, Nat.le_of_ble_eq_true rfl, Nat.le_of_ble_eq_true rfl⟩ (Nat.le_of_ble_eq_true rfl) rfl rfl rfl rfl ?_
      refine zo_ifeqB d_Mo_next_180 rfl 183 rfl (fun c_32 => ?_) (fun c_32 => ?_)
      · rw [if_neg c_32] at h
        refine zi_lo [(0, .ref a0)] [0] rfl ?_
        exact K_Mo_next_b243 n E S a0 q_31.2 M'  h
      · rw [if_pos c_32] at h
        refine zi_aload_n 0 d_Mo_next_183 rfl ?_
        refine zi_aload_n 0 d_Mo_next_184 rfl ?_
        obtain ⟨v_33, ev_33, h⟩ := zbind h
        refine zo_getI 188 zkd_11 15 d_Mo_next_185 ev_33 rfl tw_1246 rfl ?_
        refine zi_aload_n 0 d_Mo_next_188 rfl ?_
        obtain ⟨v_34, ev_34, h⟩ := zbind h
        refine zo_getI 192 zkd_11 14 d_Mo_next_189 ev_34 rfl tw_1245 rfl ?_
        refine zi_isub d_Mo_next_192 ?_
        refine zi_bipush 10 d_Mo_next_193 rfl ?_
        refine zi_icmp_ge (tgt := 224) d_Mo_next_195 rfl (fun c_35 => ?_) (fun c_35 => ?_)
        · rw [if_pos c_35] at h
          refine zi_ldc2 d_Mo_next_224 tw_1449 ?_
          refine zi_lo [(0, .ref a0)] [0] rfl ?_
          exact K_Mo_next_b227 n E S r149 a0 (-1) a0 q_31.2 M' hr149 h
        · rw [if_neg c_35] at h
          refine zi_aload_n 0 d_Mo_next_198 rfl ?_
          obtain ⟨v_36, ev_36, h⟩ := zbind h
          refine zo_getJ 202 zkd_11 17 d_Mo_next_199 ev_36 rfl tw_1248 rfl ?_
          refine zi_ldc2 d_Mo_next_202 tw_1586 ?_
          refine zi_lmul d_Mo_next_205 ?_
          refine zi_aload_n 0 d_Mo_next_206 rfl ?_
          refine zo_getR 210 zkd_11 12 d_Mo_next_207 eb_28 rfl tw_1243 rfl ?_
          refine zi_aload_n 0 d_Mo_next_210 rfl ?_
          obtain ⟨v_37, ev_37, h⟩ := zbind h
          refine zo_getI 214 zkd_11 15 d_Mo_next_211 ev_37 rfl tw_1246 rfl ?_
          obtain ⟨v_38, ev_38, h⟩ := zbind h
          refine zo_iald 215 d_Mo_next_214 ev_38 rfl ?_
          refine zi_i2l d_Mo_next_215 ?_
          refine zi_ladd d_Mo_next_216 ?_
          refine zi_ldc2 d_Mo_next_217 tw_1587 ?_
          refine zi_lsub d_Mo_next_220 ?_
          refine zi_goto (tgt := 227) d_Mo_next_221 rfl ?_
          refine zi_lo [(0, .ref a0)] [0] rfl ?_
          exact K_Mo_next_b227 n E S r149 a0 (((v_36 * 32) + v_38.toInt64) - 96) a0 q_31.2 M' hr149 h
theorem K_Mo_next_b149 (n : Nat) (E : zE) (S : zS) (a0 : Nat) (M : zH) (M' : zH)  (h : F_Mo_next_b149 n E S (a0, M) = some M') : zG E Y_Mo_next (none, S, M') 149 [(0, .ref a0)] [] S M 0 0 := by
  have key : ∀ (k : Nat) (a0 : Nat) (M : zH), zfix (fun r149 s => F_Mo_next_L149 n E S r149 s.1 s.2) k (a0, M) = some M' → zG E Y_Mo_next (none, S, M') 149 [(0, .ref a0)] [] S M 0 0 := by
    intro k
    induction k with
    | zero => intro a0 M h; cases h
    | succ k ih => intro a0 M h; exact K_Mo_next_L149 n E S _ a0 M M'  (fun a0 M h => ih a0 M h) h
  exact key n a0 M h
theorem K_Mo_next_b114 (n : Nat) (E : zE) (S : zS) (a0 : Nat) (s0 : Int32) (u1 : Nat) (M : zH) (M' : zH)  (h : F_Mo_next_b114 n E S a0 s0 u1 M = some M') : zG E Y_Mo_next (none, S, M') 114 [(0, .ref a0)] [.int s0, .ref u1] S M 0 0 := by
  unfold F_Mo_next_b114 at h
  obtain ⟨m_39, em_39, h⟩ := zbind h
  refine zo_putI 117 zkd_11 16 d_Mo_next_114 em_39 rfl rfl rfl tw_1247 rfl ?_
  refine zi_aload_n 0 d_Mo_next_117 rfl ?_
  obtain ⟨v_40, ev_40, h⟩ := zbind h
  refine zo_getI 121 zkd_11 16 d_Mo_next_118 ev_40 rfl tw_1247 rfl ?_
  refine zi_iconst 3 d_Mo_next_121 rfl ?_
  refine zi_icmp_ne (tgt := 149) d_Mo_next_122 rfl (fun c_41 => ?_) (fun c_41 => ?_)
  · rw [if_neg c_41] at h
    refine zi_lo [(0, .ref a0)] [0] rfl ?_
    exact K_Mo_next_b149 n E S a0 m_39 M'  h
  · rw [if_pos c_41] at h
    refine zi_aload_n 0 d_Mo_next_125 rfl ?_
    refine zi_aload_n 0 d_Mo_next_126 rfl ?_
    obtain ⟨b_42, eb_42, h⟩ := zbind h
    refine zo_getR 130 zkd_11 12 d_Mo_next_127 eb_42 rfl tw_1243 rfl ?_
    refine zi_aload_n 0 d_Mo_next_130 rfl ?_
    obtain ⟨v_43, ev_43, h⟩ := zbind h
    refine zo_getI 134 zkd_11 14 d_Mo_next_131 ev_43 rfl tw_1245 rfl ?_
    obtain ⟨v_44, ev_44, h⟩ := zbind h
    refine zo_iald 135 d_Mo_next_134 ev_44 rfl ?_
    refine zi_i2l d_Mo_next_135 ?_
    obtain ⟨m_45, em_45, h⟩ := zbind h
    refine zo_putJ 139 zkd_11 17 d_Mo_next_136 em_45 rfl rfl rfl tw_1248 rfl ?_
    refine zi_aload_n 0 d_Mo_next_139 rfl ?_
    refine zi_dup d_Mo_next_140 rfl ?_
    obtain ⟨v_46, ev_46, h⟩ := zbind h
    refine zo_getI 144 zkd_11 15 d_Mo_next_141 ev_46 rfl tw_1246 rfl ?_
    refine zi_iconst 1 d_Mo_next_144 rfl ?_
    refine zi_iadd d_Mo_next_145 ?_
    obtain ⟨m_47, em_47, h⟩ := zbind h
    refine zo_putI 149 zkd_11 15 d_Mo_next_146 em_47 rfl rfl rfl tw_1246 rfl ?_
    refine zi_lo [(0, .ref a0)] [0] rfl ?_
    exact K_Mo_next_b149 n E S a0 m_47 M'  h
theorem K_Mo_next_b46 (n : Nat) (E : zE) (S : zS) (a0 : Nat) (M : zH) (M' : zH)  (h : F_Mo_next_b46 n E S a0 M = some M') : zG E Y_Mo_next (none, S, M') 46 [(0, .ref a0)] [] S M 0 0 := by
  unfold F_Mo_next_b46 at h
  refine zi_aload_n 0 d_Mo_next_46 rfl ?_
  refine zi_aload_n 0 d_Mo_next_47 rfl ?_
  obtain ⟨v_48, ev_48, h⟩ := zbind h
  refine zo_getI 51 zkd_11 14 d_Mo_next_48 ev_48 rfl tw_1245 rfl ?_
  obtain ⟨m_49, em_49, h⟩ := zbind h
  refine zo_putI 54 zkd_11 15 d_Mo_next_51 em_49 rfl rfl rfl tw_1246 rfl ?_
  refine zi_aload_n 0 d_Mo_next_54 rfl ?_
  refine zi_lconst 0 d_Mo_next_55 rfl ?_
  obtain ⟨m_50, em_50, h⟩ := zbind h
  refine zo_putJ 59 zkd_11 17 d_Mo_next_56 em_50 rfl rfl rfl tw_1248 rfl ?_
  refine zi_aload_n 0 d_Mo_next_59 rfl ?_
  refine zi_aload_n 0 d_Mo_next_60 rfl ?_
  obtain ⟨v_51, ev_51, h⟩ := zbind h
  refine zo_getI 64 zkd_11 14 d_Mo_next_61 ev_51 rfl tw_1245 rfl ?_
  refine zi_aload_n 0 d_Mo_next_64 rfl ?_
  obtain ⟨v_52, ev_52, h⟩ := zbind h
  refine zo_getI 68 zkd_11 13 d_Mo_next_65 ev_52 rfl tw_1244 rfl ?_
  refine zi_icmp_ne (tgt := 75) d_Mo_next_68 rfl (fun c_53 => ?_) (fun c_53 => ?_)
  · rw [if_neg c_53] at h
    refine zi_aload_n 0 d_Mo_next_75 rfl ?_
    obtain ⟨b_54, eb_54, h⟩ := zbind h
    refine zo_getR 79 zkd_11 12 d_Mo_next_76 eb_54 rfl tw_1243 rfl ?_
    refine zi_aload_n 0 d_Mo_next_79 rfl ?_
    obtain ⟨v_55, ev_55, h⟩ := zbind h
    refine zo_getI 83 zkd_11 14 d_Mo_next_80 ev_55 rfl tw_1245 rfl ?_
    obtain ⟨v_56, ev_56, h⟩ := zbind h
    refine zo_iald 84 d_Mo_next_83 ev_56 rfl ?_
    obtain ⟨q_57, eq_57, h⟩ := zbind h
    refine zo_stat (k' := 0) (n' := 0) 87 [.int v_56] [.ref a0] [.int (bI q_57.1), .ref a0] (C_Mo_isSmall n E S v_56 m_50 q_57.1 q_57.2 eq_57) d_Mo_next_84 tw_1582 tw_1580 tw_1581 tw_13 dd_Mo_isSmall ⟨Nat.le_of_ble_eq_true rfl, Nat.le_of_ble_eq_true rfl, Nat.le_of_ble_eq_true rfl, Nat.le_of_ble_eq_true rfl⟩ (Nat.le_of_ble_eq_true rfl) rfl rfl rfl rfl ?_
    refine zo_ifeqB d_Mo_next_87 rfl 90 rfl (fun c_58 => ?_) (fun c_58 => ?_)
    · rw [if_neg c_58] at h
      refine zi_aload_n 0 d_Mo_next_94 rfl ?_
      refine zo_getR 98 zkd_11 12 d_Mo_next_95 eb_54 rfl tw_1243 rfl ?_
      refine zi_aload_n 0 d_Mo_next_98 rfl ?_
      obtain ⟨v_59, ev_59, h⟩ := zbind h
      refine zo_getI 102 zkd_11 14 d_Mo_next_99 ev_59 rfl tw_1245 rfl ?_
      obtain ⟨v_60, ev_60, h⟩ := zbind h
      refine zo_iald 103 d_Mo_next_102 ev_60 rfl ?_
      obtain ⟨q_61, eq_61, h⟩ := zbind h
      refine zo_stat (k' := 0) (n' := 0) 106 [.int v_60] [.ref a0] [.int (bI q_61.1), .ref a0] (C_Mo_isDigit n E S v_60 q_57.2 q_61.1 q_61.2 eq_61) d_Mo_next_103 tw_1585 tw_1583 tw_1584 tw_13 dd_Mo_isDigit ⟨Nat.le_of_ble_eq_true rfl, Nat.le_of_ble_eq_true rfl, Nat.le_of_ble_eq_true rfl, Nat.le_of_ble_eq_true rfl⟩ (Nat.le_of_ble_eq_true rfl) rfl rfl rfl rfl ?_
      refine zo_ifeqB d_Mo_next_106 rfl 109 rfl (fun c_62 => ?_) (fun c_62 => ?_)
      · rw [if_neg c_62] at h
        refine zi_iconst 3 d_Mo_next_113 rfl ?_
        refine zi_lo [(0, .ref a0)] [0] rfl ?_
        exact K_Mo_next_b114 n E S a0 3 a0 q_61.2 M'  h
      · rw [if_pos c_62] at h
        refine zi_iconst 2 d_Mo_next_109 rfl ?_
        refine zi_goto (tgt := 114) d_Mo_next_110 rfl ?_
        refine zi_lo [(0, .ref a0)] [0] rfl ?_
        exact K_Mo_next_b114 n E S a0 2 a0 q_61.2 M'  h
    · rw [if_pos c_58] at h
      refine zi_iconst 1 d_Mo_next_90 rfl ?_
      refine zi_goto (tgt := 114) d_Mo_next_91 rfl ?_
      refine zi_lo [(0, .ref a0)] [0] rfl ?_
      exact K_Mo_next_b114 n E S a0 1 a0 q_57.2 M'  h
  · rw [if_pos c_53] at h
    refine zi_iconst 0 d_Mo_next_71 rfl ?_
    refine zi_goto (tgt := 114) d_Mo_next_72 rfl ?_
    refine zi_lo [(0, .ref a0)] [0] rfl ?_
    exact K_Mo_next_b114 n E S a0 0 a0 m_50 M'  h
theorem K_Mo_next_L8 (n : Nat) (E : zE) (S : zS) (r8 : Nat × zH → Option (zH)) (a0 : Nat) (M : zH) (M' : zH) (hr8 : ∀ (a0 : Nat) (M : zH), r8 (a0, M) = some M' → zG E Y_Mo_next (none, S, M') 8 [(0, .ref a0)] [] S M 0 0) (h : F_Mo_next_L8 n E S r8 a0 M = some M') : zG E Y_Mo_next (none, S, M') 8 [(0, .ref a0)] [] S M 0 0 := by
  unfold F_Mo_next_L8 at h
  refine zi_aload_n 0 d_Mo_next_8 rfl ?_
  obtain ⟨v_63, ev_63, h⟩ := zbind h
  refine zo_getI 12 zkd_11 14 d_Mo_next_9 ev_63 rfl tw_1245 rfl ?_
  refine zi_aload_n 0 d_Mo_next_12 rfl ?_
  obtain ⟨v_64, ev_64, h⟩ := zbind h
  refine zo_getI 16 zkd_11 13 d_Mo_next_13 ev_64 rfl tw_1244 rfl ?_
  refine zi_icmp_ge (tgt := 46) d_Mo_next_16 rfl (fun c_65 => ?_) (fun c_65 => ?_)
  · rw [if_pos c_65] at h
    refine zi_lo [(0, .ref a0)] [0] rfl ?_
    exact K_Mo_next_b46 n E S a0 M M'  h
  · rw [if_neg c_65] at h
    refine zi_aload_n 0 d_Mo_next_19 rfl ?_
    obtain ⟨b_66, eb_66, h⟩ := zbind h
    refine zo_getR 23 zkd_11 12 d_Mo_next_20 eb_66 rfl tw_1243 rfl ?_
    refine zi_aload_n 0 d_Mo_next_23 rfl ?_
    obtain ⟨v_67, ev_67, h⟩ := zbind h
    refine zo_getI 27 zkd_11 14 d_Mo_next_24 ev_67 rfl tw_1245 rfl ?_
    obtain ⟨v_68, ev_68, h⟩ := zbind h
    refine zo_iald 28 d_Mo_next_27 ev_68 rfl ?_
    refine zi_bipush 32 d_Mo_next_28 rfl ?_
    refine zi_icmp_ne (tgt := 46) d_Mo_next_30 rfl (fun c_69 => ?_) (fun c_69 => ?_)
    · rw [if_neg c_69] at h
      refine zi_lo [(0, .ref a0)] [0] rfl ?_
      exact K_Mo_next_b46 n E S a0 M M'  h
    · rw [if_pos c_69] at h
      refine zi_aload_n 0 d_Mo_next_33 rfl ?_
      refine zi_dup d_Mo_next_34 rfl ?_
      obtain ⟨v_70, ev_70, h⟩ := zbind h
      refine zo_getI 38 zkd_11 14 d_Mo_next_35 ev_70 rfl tw_1245 rfl ?_
      refine zi_iconst 1 d_Mo_next_38 rfl ?_
      refine zi_iadd d_Mo_next_39 ?_
      obtain ⟨m_71, em_71, h⟩ := zbind h
      refine zo_putI 43 zkd_11 14 d_Mo_next_40 em_71 rfl rfl rfl tw_1245 rfl ?_
      refine zi_goto (tgt := 8) d_Mo_next_43 rfl ?_
      refine zi_lo [(0, .ref a0)] [0] rfl ?_
      exact hr8 a0 m_71 h
theorem K_Mo_next_b8 (n : Nat) (E : zE) (S : zS) (a0 : Nat) (M : zH) (M' : zH)  (h : F_Mo_next_b8 n E S (a0, M) = some M') : zG E Y_Mo_next (none, S, M') 8 [(0, .ref a0)] [] S M 0 0 := by
  have key : ∀ (k : Nat) (a0 : Nat) (M : zH), zfix (fun r8 s => F_Mo_next_L8 n E S r8 s.1 s.2) k (a0, M) = some M' → zG E Y_Mo_next (none, S, M') 8 [(0, .ref a0)] [] S M 0 0 := by
    intro k
    induction k with
    | zero => intro a0 M h; cases h
    | succ k ih => intro a0 M h; exact K_Mo_next_L8 n E S _ a0 M M'  (fun a0 M h => ih a0 M h) h
  exact key n a0 M h
theorem K_Mo_next (n : Nat) (E : zE) (S : zS) (a0 : Nat) (M : zH) (M' : zH)  (h : F_Mo_next n E S a0 M = some M') : zG E Y_Mo_next (none, S, M') 0 [(0, .ref a0)] [] S M 0 0 := by
  unfold F_Mo_next at h
  refine zi_aload_n 0 d_Mo_next_0 rfl ?_
  refine zi_aload_n 0 d_Mo_next_1 rfl ?_
  obtain ⟨v_72, ev_72, h⟩ := zbind h
  refine zo_getI 5 zkd_11 15 d_Mo_next_2 ev_72 rfl tw_1246 rfl ?_
  obtain ⟨m_73, em_73, h⟩ := zbind h
  refine zo_putI 8 zkd_11 14 d_Mo_next_5 em_73 rfl rfl rfl tw_1245 rfl ?_
  refine zi_lo [(0, .ref a0)] [0] rfl ?_
  exact K_Mo_next_b8 n E S a0 m_73 M'  h
theorem C_Mo_next (n : Nat) (E : zE) (S : zS) (a0 : Nat) (M : zH) (M' : zH) (h : F_Mo_next n E S a0 M = some M') : zC E Y_Mo_next [.ref a0] S M (none, S, M') :=
  zC.of (Or.inl (show plainName "NightColanderModel" = true by decide)) (Nat.le_of_ble_eq_true rfl) (trivial) (K_Mo_next n E S a0 M M' h)
