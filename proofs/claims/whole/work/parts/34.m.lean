/-! METHODS (printed by gen/build.py): Mo_isSo Mo_tells Mo_within Mo_runsOf Mo_hole Mo_change Mo_turn Mo_bucketAt Mo_bucket Mo_setBucket Mo_isBarred Mo_leaksOf Mo_paysOf -/
theorem d_Mo_isSo_0 : decode (yB Y_Mo_isSo) 0 = .ok (.aload_n 0, 1) := by decide +kernel
theorem d_Mo_isSo_1 : decode (yB Y_Mo_isSo) 1 = .ok (.getfield 13, 3) := by decide +kernel
theorem d_Mo_isSo_4 : decode (yB Y_Mo_isSo) 4 = .ok (.iload_n 1, 1) := by decide +kernel
theorem d_Mo_isSo_5 : decode (yB Y_Mo_isSo) 5 = .ok (.iconst 5, 1) := by decide +kernel
theorem d_Mo_isSo_6 : decode (yB Y_Mo_isSo) 6 = .ok (.iadd, 1) := by decide +kernel
theorem d_Mo_isSo_7 : decode (yB Y_Mo_isSo) 7 = .ok (.iaload, 1) := by decide +kernel
theorem d_Mo_isSo_8 : decode (yB Y_Mo_isSo) 8 = .ok (.aload_n 0, 1) := by decide +kernel
theorem d_Mo_isSo_9 : decode (yB Y_Mo_isSo) 9 = .ok (.getfield 13, 3) := by decide +kernel
theorem d_Mo_isSo_12 : decode (yB Y_Mo_isSo) 12 = .ok (.iload_n 1, 1) := by decide +kernel
theorem d_Mo_isSo_13 : decode (yB Y_Mo_isSo) 13 = .ok (.bipush 6, 2) := by decide +kernel
theorem d_Mo_isSo_15 : decode (yB Y_Mo_isSo) 15 = .ok (.iadd, 1) := by decide +kernel
theorem d_Mo_isSo_16 : decode (yB Y_Mo_isSo) 16 = .ok (.iaload, 1) := by decide +kernel
theorem d_Mo_isSo_17 : decode (yB Y_Mo_isSo) 17 = .ok (.if_icmp .ge 42, 3) := by decide +kernel
theorem d_Mo_isSo_20 : decode (yB Y_Mo_isSo) 20 = .ok (.aload_n 0, 1) := by decide +kernel
theorem d_Mo_isSo_21 : decode (yB Y_Mo_isSo) 21 = .ok (.aload_n 0, 1) := by decide +kernel
theorem d_Mo_isSo_22 : decode (yB Y_Mo_isSo) 22 = .ok (.getfield 13, 3) := by decide +kernel
theorem d_Mo_isSo_25 : decode (yB Y_Mo_isSo) 25 = .ok (.iload_n 1, 1) := by decide +kernel
theorem d_Mo_isSo_26 : decode (yB Y_Mo_isSo) 26 = .ok (.iconst 5, 1) := by decide +kernel
theorem d_Mo_isSo_27 : decode (yB Y_Mo_isSo) 27 = .ok (.iadd, 1) := by decide +kernel
theorem d_Mo_isSo_28 : decode (yB Y_Mo_isSo) 28 = .ok (.iaload, 1) := by decide +kernel
theorem d_Mo_isSo_29 : decode (yB Y_Mo_isSo) 29 = .ok (.aload_n 0, 1) := by decide +kernel
theorem d_Mo_isSo_30 : decode (yB Y_Mo_isSo) 30 = .ok (.getfield 13, 3) := by decide +kernel
theorem d_Mo_isSo_33 : decode (yB Y_Mo_isSo) 33 = .ok (.iload_n 1, 1) := by decide +kernel
theorem d_Mo_isSo_34 : decode (yB Y_Mo_isSo) 34 = .ok (.bipush 6, 2) := by decide +kernel
theorem d_Mo_isSo_36 : decode (yB Y_Mo_isSo) 36 = .ok (.iadd, 1) := by decide +kernel
theorem d_Mo_isSo_37 : decode (yB Y_Mo_isSo) 37 = .ok (.iaload, 1) := by decide +kernel
theorem d_Mo_isSo_38 : decode (yB Y_Mo_isSo) 38 = .ok (.invokevirtual 422, 3) := by decide +kernel
theorem d_Mo_isSo_41 : decode (yB Y_Mo_isSo) 41 = .ok (.aload_n 0, 1) := by decide +kernel
theorem d_Mo_isSo_42 : decode (yB Y_Mo_isSo) 42 = .ok (.getfield 405, 3) := by decide +kernel
theorem d_Mo_isSo_45 : decode (yB Y_Mo_isSo) 45 = .ok (.ifCond .ne 12, 3) := by decide +kernel
theorem d_Mo_isSo_48 : decode (yB Y_Mo_isSo) 48 = .ok (.aload_n 0, 1) := by decide +kernel
theorem d_Mo_isSo_49 : decode (yB Y_Mo_isSo) 49 = .ok (.getfield 419, 3) := by decide +kernel
theorem d_Mo_isSo_52 : decode (yB Y_Mo_isSo) 52 = .ok (.lconst 0, 1) := by decide +kernel
theorem d_Mo_isSo_53 : decode (yB Y_Mo_isSo) 53 = .ok (.lcmp, 1) := by decide +kernel
theorem d_Mo_isSo_54 : decode (yB Y_Mo_isSo) 54 = .ok (.ifCond .ne 5, 3) := by decide +kernel
theorem d_Mo_isSo_57 : decode (yB Y_Mo_isSo) 57 = .ok (.iconst 0, 1) := by decide +kernel
theorem d_Mo_isSo_58 : decode (yB Y_Mo_isSo) 58 = .ok (.ireturn, 1) := by decide +kernel
theorem d_Mo_isSo_59 : decode (yB Y_Mo_isSo) 59 = .ok (.aload_n 0, 1) := by decide +kernel
theorem d_Mo_isSo_60 : decode (yB Y_Mo_isSo) 60 = .ok (.getfield 13, 3) := by decide +kernel
theorem d_Mo_isSo_63 : decode (yB Y_Mo_isSo) 63 = .ok (.iload_n 1, 1) := by decide +kernel
theorem d_Mo_isSo_64 : decode (yB Y_Mo_isSo) 64 = .ok (.iaload, 1) := by decide +kernel
theorem d_Mo_isSo_65 : decode (yB Y_Mo_isSo) 65 = .ok (.iconst 3, 1) := by decide +kernel
theorem d_Mo_isSo_66 : decode (yB Y_Mo_isSo) 66 = .ok (.if_icmp .eq 44, 3) := by decide +kernel
theorem d_Mo_isSo_69 : decode (yB Y_Mo_isSo) 69 = .ok (.aload_n 0, 1) := by decide +kernel
theorem d_Mo_isSo_70 : decode (yB Y_Mo_isSo) 70 = .ok (.aload_n 0, 1) := by decide +kernel
theorem d_Mo_isSo_71 : decode (yB Y_Mo_isSo) 71 = .ok (.getfield 13, 3) := by decide +kernel
theorem d_Mo_isSo_74 : decode (yB Y_Mo_isSo) 74 = .ok (.iload_n 1, 1) := by decide +kernel
theorem d_Mo_isSo_75 : decode (yB Y_Mo_isSo) 75 = .ok (.iconst 3, 1) := by decide +kernel
theorem d_Mo_isSo_76 : decode (yB Y_Mo_isSo) 76 = .ok (.iadd, 1) := by decide +kernel
theorem d_Mo_isSo_77 : decode (yB Y_Mo_isSo) 77 = .ok (.iaload, 1) := by decide +kernel
theorem d_Mo_isSo_78 : decode (yB Y_Mo_isSo) 78 = .ok (.aload_n 0, 1) := by decide +kernel
theorem d_Mo_isSo_79 : decode (yB Y_Mo_isSo) 79 = .ok (.getfield 13, 3) := by decide +kernel
theorem d_Mo_isSo_82 : decode (yB Y_Mo_isSo) 82 = .ok (.iload_n 1, 1) := by decide +kernel
theorem d_Mo_isSo_83 : decode (yB Y_Mo_isSo) 83 = .ok (.iconst 4, 1) := by decide +kernel
theorem d_Mo_isSo_84 : decode (yB Y_Mo_isSo) 84 = .ok (.iadd, 1) := by decide +kernel
theorem d_Mo_isSo_85 : decode (yB Y_Mo_isSo) 85 = .ok (.iaload, 1) := by decide +kernel
theorem d_Mo_isSo_86 : decode (yB Y_Mo_isSo) 86 = .ok (.invokevirtual 422, 3) := by decide +kernel
theorem d_Mo_isSo_89 : decode (yB Y_Mo_isSo) 89 = .ok (.aload_n 0, 1) := by decide +kernel
theorem d_Mo_isSo_90 : decode (yB Y_Mo_isSo) 90 = .ok (.aload_n 0, 1) := by decide +kernel
theorem d_Mo_isSo_91 : decode (yB Y_Mo_isSo) 91 = .ok (.getfield 419, 3) := by decide +kernel
theorem d_Mo_isSo_94 : decode (yB Y_Mo_isSo) 94 = .ok (.putfield 425, 3) := by decide +kernel
theorem d_Mo_isSo_97 : decode (yB Y_Mo_isSo) 97 = .ok (.aload_n 0, 1) := by decide +kernel
theorem d_Mo_isSo_98 : decode (yB Y_Mo_isSo) 98 = .ok (.getfield 405, 3) := by decide +kernel
theorem d_Mo_isSo_101 : decode (yB Y_Mo_isSo) 101 = .ok (.ifCond .ne 7, 3) := by decide +kernel
theorem d_Mo_isSo_104 : decode (yB Y_Mo_isSo) 104 = .ok (.iconst 1, 1) := by decide +kernel
theorem d_Mo_isSo_105 : decode (yB Y_Mo_isSo) 105 = .ok (.goto 4, 3) := by decide +kernel
theorem d_Mo_isSo_108 : decode (yB Y_Mo_isSo) 108 = .ok (.iconst 0, 1) := by decide +kernel
theorem d_Mo_isSo_109 : decode (yB Y_Mo_isSo) 109 = .ok (.ireturn, 1) := by decide +kernel
theorem d_Mo_isSo_110 : decode (yB Y_Mo_isSo) 110 = .ok (.iconst 1, 1) := by decide +kernel
theorem d_Mo_isSo_111 : decode (yB Y_Mo_isSo) 111 = .ok (.ireturn, 1) := by decide +kernel
def F_Mo_isSo_b59 (n : Nat) (E : zE) (S : zS) (a0 : Nat) (x1 : Int32) (M : zH) : Option (Bool × zH) :=
  (zgR S a0 11 3).bind fun b_1 =>
  (zldI S M b_1 x1).bind fun v_2 =>
  if v_2 = 3 then
    some (true, M)
  else
    (zldI S M b_1 (x1 + 3)).bind fun v_4 =>
    (zldI S M b_1 (x1 + 4)).bind fun v_5 =>
    (F_Mo_reckonAll n E S a0 v_4 v_5 M).bind fun q_6 =>
    (zgJ S q_6 a0 11 39).bind fun v_7 =>
    (zpJ S q_6 a0 11 40 v_7).bind fun m_8 =>
    (zgI S m_8 a0 11 38).bind fun v_9 =>
    if v_9 = 0 then
      some (true, m_8)
    else
      some (false, m_8)
def F_Mo_isSo (n : Nat) (E : zE) (S : zS) (a0 : Nat) (x1 : Int32) (M : zH) : Option (Bool × zH) :=
  (zgR S a0 11 3).bind fun b_11 =>
  (zldI S M b_11 (x1 + 5)).bind fun v_12 =>
  (zldI S M b_11 (x1 + 6)).bind fun v_13 =>
  if v_13 ≤ v_12 then
    F_Mo_isSo_b59 n E S a0 x1 M
  else
    (zldI S M b_11 (x1 + 5)).bind fun v_15 =>
    (zldI S M b_11 (x1 + 6)).bind fun v_16 =>
    (F_Mo_reckonAll n E S a0 v_15 v_16 M).bind fun q_17 =>
    (zgI S q_17 a0 11 38).bind fun v_18 =>
    if v_18 = 0 then
      (zgJ S q_17 a0 11 39).bind fun v_20 =>
      if v_20 = 0 then
        some (false, q_17)
      else
        F_Mo_isSo_b59 n E S a0 x1 q_17
    else
      some (false, q_17)
theorem K_Mo_isSo_b59 (n : Nat) (E : zE) (S : zS) (a0 : Nat) (x1 : Int32) (M : zH) (r : Bool) (M' : zH)  (h : F_Mo_isSo_b59 n E S a0 x1 M = some (r, M')) : zG E Y_Mo_isSo (some (.int (bI r)), S, M') 59 [(0, .ref a0), (1, .int x1)] [] S M 0 0 := by
  unfold F_Mo_isSo_b59 at h
  refine zi_aload_n 0 d_Mo_isSo_59 rfl ?_
  obtain ⟨b_1, eb_1, h⟩ := zbind h
  refine zo_getR 63 zkd_11 3 d_Mo_isSo_60 eb_1 rfl tw_1234 rfl ?_
  refine zi_iload_n 1 d_Mo_isSo_63 rfl ?_
  obtain ⟨v_2, ev_2, h⟩ := zbind h
  refine zo_iald 65 d_Mo_isSo_64 ev_2 rfl ?_
  refine zi_iconst 3 d_Mo_isSo_65 rfl ?_
  refine zi_icmp_eq (tgt := 110) d_Mo_isSo_66 rfl (fun c_3 => ?_) (fun c_3 => ?_)
  · rw [if_pos c_3] at h
    refine zi_iconst 1 d_Mo_isSo_110 rfl ?_
    cases h
    exact zo_retB d_Mo_isSo_111 (Nat.le_of_ble_eq_true rfl) (Nat.le_of_ble_eq_true rfl) rfl
  · rw [if_neg c_3] at h
    refine zi_aload_n 0 d_Mo_isSo_69 rfl ?_
    refine zi_aload_n 0 d_Mo_isSo_70 rfl ?_
    refine zo_getR 74 zkd_11 3 d_Mo_isSo_71 eb_1 rfl tw_1234 rfl ?_
    refine zi_iload_n 1 d_Mo_isSo_74 rfl ?_
    refine zi_iconst 3 d_Mo_isSo_75 rfl ?_
    refine zi_iadd d_Mo_isSo_76 ?_
    obtain ⟨v_4, ev_4, h⟩ := zbind h
    refine zo_iald 78 d_Mo_isSo_77 ev_4 rfl ?_
    refine zi_aload_n 0 d_Mo_isSo_78 rfl ?_
    refine zo_getR 82 zkd_11 3 d_Mo_isSo_79 eb_1 rfl tw_1234 rfl ?_
    refine zi_iload_n 1 d_Mo_isSo_82 rfl ?_
    refine zi_iconst 4 d_Mo_isSo_83 rfl ?_
    refine zi_iadd d_Mo_isSo_84 ?_
    obtain ⟨v_5, ev_5, h⟩ := zbind h
    refine zo_iald 86 d_Mo_isSo_85 ev_5 rfl ?_
    obtain ⟨q_6, eq_6, h⟩ := zbind h
    refine zo_virt (k' := 0) (n' := 0) 89 [.int v_4, .int v_5] [] [] zkd_11 (zgR_s eb_1).1 (C_Mo_reckonAll n E S a0 v_4 v_5 M q_6 eq_6) d_Mo_isSo_86 tw_1461 tw_1458 tw_1460 ts_42 tw_13 dd_Mo_reckonAll ⟨Nat.le_of_ble_eq_true rfl, Nat.le_of_ble_eq_true rfl, Nat.le_of_ble_eq_true rfl, Nat.le_of_ble_eq_true rfl⟩ (Nat.le_of_ble_eq_true rfl) rfl rfl rfl rfl ?_
    refine zi_aload_n 0 d_Mo_isSo_89 rfl ?_
    refine zi_aload_n 0 d_Mo_isSo_90 rfl ?_
    obtain ⟨v_7, ev_7, h⟩ := zbind h
    refine zo_getJ 94 zkd_11 39 d_Mo_isSo_91 ev_7 rfl tw_1270 rfl ?_
    obtain ⟨m_8, em_8, h⟩ := zbind h
    refine zo_putJ 97 zkd_11 40 d_Mo_isSo_94 em_8 rfl rfl rfl tw_1271 rfl ?_
    refine zi_aload_n 0 d_Mo_isSo_97 rfl ?_
    obtain ⟨v_9, ev_9, h⟩ := zbind h
    refine zo_getI 101 zkd_11 38 d_Mo_isSo_98 ev_9 rfl tw_1269 rfl ?_
    refine zi_if_ne (tgt := 108) d_Mo_isSo_101 rfl (fun c_10 => ?_) (fun c_10 => ?_)
    · rw [if_neg c_10] at h
      refine zi_iconst 0 d_Mo_isSo_108 rfl ?_
      cases h
      exact zo_retB d_Mo_isSo_109 (Nat.le_of_ble_eq_true rfl) (Nat.le_of_ble_eq_true rfl) rfl
    · rw [if_pos c_10] at h
      refine zi_iconst 1 d_Mo_isSo_104 rfl ?_
      refine zi_goto (tgt := 109) d_Mo_isSo_105 rfl ?_
      cases h
      exact zo_retB d_Mo_isSo_109 (Nat.le_of_ble_eq_true rfl) (Nat.le_of_ble_eq_true rfl) rfl
theorem K_Mo_isSo (n : Nat) (E : zE) (S : zS) (a0 : Nat) (x1 : Int32) (M : zH) (r : Bool) (M' : zH)  (h : F_Mo_isSo n E S a0 x1 M = some (r, M')) : zG E Y_Mo_isSo (some (.int (bI r)), S, M') 0 [(0, .ref a0), (1, .int x1)] [] S M 0 0 := by
  unfold F_Mo_isSo at h
  refine zi_aload_n 0 d_Mo_isSo_0 rfl ?_
  obtain ⟨b_11, eb_11, h⟩ := zbind h
  refine zo_getR 4 zkd_11 3 d_Mo_isSo_1 eb_11 rfl tw_1234 rfl ?_
  refine zi_iload_n 1 d_Mo_isSo_4 rfl ?_
  refine zi_iconst 5 d_Mo_isSo_5 rfl ?_
  refine zi_iadd d_Mo_isSo_6 ?_
  obtain ⟨v_12, ev_12, h⟩ := zbind h
  refine zo_iald 8 d_Mo_isSo_7 ev_12 rfl ?_
  refine zi_aload_n 0 d_Mo_isSo_8 rfl ?_
  refine zo_getR 12 zkd_11 3 d_Mo_isSo_9 eb_11 rfl tw_1234 rfl ?_
  refine zi_iload_n 1 d_Mo_isSo_12 rfl ?_
  refine zi_bipush 6 d_Mo_isSo_13 rfl ?_
  refine zi_iadd d_Mo_isSo_15 ?_
  obtain ⟨v_13, ev_13, h⟩ := zbind h
  refine zo_iald 17 d_Mo_isSo_16 ev_13 rfl ?_
  refine zi_icmp_ge (tgt := 59) d_Mo_isSo_17 rfl (fun c_14 => ?_) (fun c_14 => ?_)
  · rw [if_pos c_14] at h
    refine zi_lo [(0, .ref a0), (1, .int x1)] [0, 1] rfl ?_
    exact K_Mo_isSo_b59 n E S a0 x1 M r M'  h
  · rw [if_neg c_14] at h
    refine zi_aload_n 0 d_Mo_isSo_20 rfl ?_
    refine zi_aload_n 0 d_Mo_isSo_21 rfl ?_
    refine zo_getR 25 zkd_11 3 d_Mo_isSo_22 eb_11 rfl tw_1234 rfl ?_
    refine zi_iload_n 1 d_Mo_isSo_25 rfl ?_
    refine zi_iconst 5 d_Mo_isSo_26 rfl ?_
    refine zi_iadd d_Mo_isSo_27 ?_
    obtain ⟨v_15, ev_15, h⟩ := zbind h
    refine zo_iald 29 d_Mo_isSo_28 ev_15 rfl ?_
    refine zi_aload_n 0 d_Mo_isSo_29 rfl ?_
    refine zo_getR 33 zkd_11 3 d_Mo_isSo_30 eb_11 rfl tw_1234 rfl ?_
    refine zi_iload_n 1 d_Mo_isSo_33 rfl ?_
    refine zi_bipush 6 d_Mo_isSo_34 rfl ?_
    refine zi_iadd d_Mo_isSo_36 ?_
    obtain ⟨v_16, ev_16, h⟩ := zbind h
    refine zo_iald 38 d_Mo_isSo_37 ev_16 rfl ?_
    obtain ⟨q_17, eq_17, h⟩ := zbind h
    refine zo_virt (k' := 0) (n' := 0) 41 [.int v_15, .int v_16] [] [] zkd_11 (zgR_s eb_11).1 (C_Mo_reckonAll n E S a0 v_15 v_16 M q_17 eq_17) d_Mo_isSo_38 tw_1461 tw_1458 tw_1460 ts_42 tw_13 dd_Mo_reckonAll ⟨Nat.le_of_ble_eq_true rfl, Nat.le_of_ble_eq_true rfl, Nat.le_of_ble_eq_true rfl, Nat.le_of_ble_eq_true rfl⟩ (Nat.le_of_ble_eq_true rfl) rfl rfl rfl rfl ?_
    refine zi_aload_n 0 d_Mo_isSo_41 rfl ?_
    obtain ⟨v_18, ev_18, h⟩ := zbind h
    refine zo_getI 45 zkd_11 38 d_Mo_isSo_42 ev_18 rfl tw_1269 rfl ?_
    refine zi_if_ne (tgt := 57) d_Mo_isSo_45 rfl (fun c_19 => ?_) (fun c_19 => ?_)
    · rw [if_neg c_19] at h
      refine zi_iconst 0 d_Mo_isSo_57 rfl ?_
      cases h
      exact zo_retB d_Mo_isSo_58 (Nat.le_of_ble_eq_true rfl) (Nat.le_of_ble_eq_true rfl) rfl
    · rw [if_pos c_19] at h
      refine zi_aload_n 0 d_Mo_isSo_48 rfl ?_
      obtain ⟨v_20, ev_20, h⟩ := zbind h
      refine zo_getJ 52 zkd_11 39 d_Mo_isSo_49 ev_20 rfl tw_1270 rfl ?_
      refine zi_lconst 0 d_Mo_isSo_52 rfl ?_
      refine zo_lc_ne d_Mo_isSo_53 d_Mo_isSo_54 rfl 57 rfl (fun c_21 => ?_) (fun c_21 => ?_)
      · rw [if_neg c_21] at h
        refine zi_lo [(0, .ref a0), (1, .int x1)] [0, 1] rfl ?_
        exact K_Mo_isSo_b59 n E S a0 x1 q_17 r M'  h
      · rw [if_pos c_21] at h
        refine zi_iconst 0 d_Mo_isSo_57 rfl ?_
        cases h
        exact zo_retB d_Mo_isSo_58 (Nat.le_of_ble_eq_true rfl) (Nat.le_of_ble_eq_true rfl) rfl
theorem C_Mo_isSo (n : Nat) (E : zE) (S : zS) (a0 : Nat) (x1 : Int32) (M : zH) (r : Bool) (M' : zH) (h : F_Mo_isSo n E S a0 x1 M = some (r, M')) : zC E Y_Mo_isSo [.ref a0, .int x1] S M (some (.int (bI r)), S, M') :=
  zC.of (Or.inl (show plainName "NightColanderModel" = true by decide)) (Nat.le_of_ble_eq_true rfl) (bI_nar r) (K_Mo_isSo n E S a0 x1 M r M' h)
theorem d_Mo_tells_0 : decode (yB Y_Mo_tells) 0 = .ok (.aload_n 0, 1) := by decide +kernel
theorem d_Mo_tells_1 : decode (yB Y_Mo_tells) 1 = .ok (.getfield 13, 3) := by decide +kernel
theorem d_Mo_tells_4 : decode (yB Y_Mo_tells) 4 = .ok (.iconst 3, 1) := by decide +kernel
theorem d_Mo_tells_5 : decode (yB Y_Mo_tells) 5 = .ok (.iaload, 1) := by decide +kernel
theorem d_Mo_tells_6 : decode (yB Y_Mo_tells) 6 = .ok (.iconst (-1), 1) := by decide +kernel
theorem d_Mo_tells_7 : decode (yB Y_Mo_tells) 7 = .ok (.if_icmp .ne 5, 3) := by decide +kernel
theorem d_Mo_tells_10 : decode (yB Y_Mo_tells) 10 = .ok (.lload_n 3, 1) := by decide +kernel
theorem d_Mo_tells_11 : decode (yB Y_Mo_tells) 11 = .ok (.lreturn, 1) := by decide +kernel
theorem d_Mo_tells_12 : decode (yB Y_Mo_tells) 12 = .ok (.aload_n 0, 1) := by decide +kernel
theorem d_Mo_tells_13 : decode (yB Y_Mo_tells) 13 = .ok (.bipush 80, 2) := by decide +kernel
theorem d_Mo_tells_15 : decode (yB Y_Mo_tells) 15 = .ok (.sipush 900, 3) := by decide +kernel
theorem d_Mo_tells_18 : decode (yB Y_Mo_tells) 18 = .ok (.aload_n 0, 1) := by decide +kernel
theorem d_Mo_tells_19 : decode (yB Y_Mo_tells) 19 = .ok (.getfield 13, 3) := by decide +kernel
theorem d_Mo_tells_22 : decode (yB Y_Mo_tells) 22 = .ok (.iconst 3, 1) := by decide +kernel
theorem d_Mo_tells_23 : decode (yB Y_Mo_tells) 23 = .ok (.iaload, 1) := by decide +kernel
theorem d_Mo_tells_24 : decode (yB Y_Mo_tells) 24 = .ok (.imul, 1) := by decide +kernel
theorem d_Mo_tells_25 : decode (yB Y_Mo_tells) 25 = .ok (.iadd, 1) := by decide +kernel
theorem d_Mo_tells_26 : decode (yB Y_Mo_tells) 26 = .ok (.putfield 408, 3) := by decide +kernel
theorem d_Mo_tells_29 : decode (yB Y_Mo_tells) 29 = .ok (.aload_n 0, 1) := by decide +kernel
theorem d_Mo_tells_30 : decode (yB Y_Mo_tells) 30 = .ok (.getfield 103, 3) := by decide +kernel
theorem d_Mo_tells_33 : decode (yB Y_Mo_tells) 33 = .ok (.iconst 4, 1) := by decide +kernel
theorem d_Mo_tells_34 : decode (yB Y_Mo_tells) 34 = .ok (.iload_n 2, 1) := by decide +kernel
theorem d_Mo_tells_35 : decode (yB Y_Mo_tells) 35 = .ok (.i2l, 1) := by decide +kernel
theorem d_Mo_tells_36 : decode (yB Y_Mo_tells) 36 = .ok (.lastore, 1) := by decide +kernel
theorem d_Mo_tells_37 : decode (yB Y_Mo_tells) 37 = .ok (.aload_n 0, 1) := by decide +kernel
theorem d_Mo_tells_38 : decode (yB Y_Mo_tells) 38 = .ok (.getfield 103, 3) := by decide +kernel
theorem d_Mo_tells_41 : decode (yB Y_Mo_tells) 41 = .ok (.bipush 7, 2) := by decide +kernel
theorem d_Mo_tells_43 : decode (yB Y_Mo_tells) 43 = .ok (.aload_n 0, 1) := by decide +kernel
theorem d_Mo_tells_44 : decode (yB Y_Mo_tells) 44 = .ok (.getfield 13, 3) := by decide +kernel
theorem d_Mo_tells_47 : decode (yB Y_Mo_tells) 47 = .ok (.iconst 4, 1) := by decide +kernel
theorem d_Mo_tells_48 : decode (yB Y_Mo_tells) 48 = .ok (.iaload, 1) := by decide +kernel
theorem d_Mo_tells_49 : decode (yB Y_Mo_tells) 49 = .ok (.i2l, 1) := by decide +kernel
theorem d_Mo_tells_50 : decode (yB Y_Mo_tells) 50 = .ok (.lastore, 1) := by decide +kernel
theorem d_Mo_tells_51 : decode (yB Y_Mo_tells) 51 = .ok (.aload_n 0, 1) := by decide +kernel
theorem d_Mo_tells_52 : decode (yB Y_Mo_tells) 52 = .ok (.getfield 103, 3) := by decide +kernel
theorem d_Mo_tells_55 : decode (yB Y_Mo_tells) 55 = .ok (.bipush 8, 2) := by decide +kernel
theorem d_Mo_tells_57 : decode (yB Y_Mo_tells) 57 = .ok (.aload_n 0, 1) := by decide +kernel
theorem d_Mo_tells_58 : decode (yB Y_Mo_tells) 58 = .ok (.getfield 13, 3) := by decide +kernel
theorem d_Mo_tells_61 : decode (yB Y_Mo_tells) 61 = .ok (.iconst 5, 1) := by decide +kernel
theorem d_Mo_tells_62 : decode (yB Y_Mo_tells) 62 = .ok (.iaload, 1) := by decide +kernel
theorem d_Mo_tells_63 : decode (yB Y_Mo_tells) 63 = .ok (.i2l, 1) := by decide +kernel
theorem d_Mo_tells_64 : decode (yB Y_Mo_tells) 64 = .ok (.lastore, 1) := by decide +kernel
theorem d_Mo_tells_65 : decode (yB Y_Mo_tells) 65 = .ok (.aload_n 0, 1) := by decide +kernel
theorem d_Mo_tells_66 : decode (yB Y_Mo_tells) 66 = .ok (.getfield 103, 3) := by decide +kernel
theorem d_Mo_tells_69 : decode (yB Y_Mo_tells) 69 = .ok (.bipush 9, 2) := by decide +kernel
theorem d_Mo_tells_71 : decode (yB Y_Mo_tells) 71 = .ok (.aload_n 0, 1) := by decide +kernel
theorem d_Mo_tells_72 : decode (yB Y_Mo_tells) 72 = .ok (.getfield 13, 3) := by decide +kernel
theorem d_Mo_tells_75 : decode (yB Y_Mo_tells) 75 = .ok (.bipush 6, 2) := by decide +kernel
theorem d_Mo_tells_77 : decode (yB Y_Mo_tells) 77 = .ok (.iaload, 1) := by decide +kernel
theorem d_Mo_tells_78 : decode (yB Y_Mo_tells) 78 = .ok (.i2l, 1) := by decide +kernel
theorem d_Mo_tells_79 : decode (yB Y_Mo_tells) 79 = .ok (.lastore, 1) := by decide +kernel
theorem d_Mo_tells_80 : decode (yB Y_Mo_tells) 80 = .ok (.lload_n 3, 1) := by decide +kernel
theorem d_Mo_tells_81 : decode (yB Y_Mo_tells) 81 = .ok (.lstore 5, 2) := by decide +kernel
theorem d_Mo_tells_83 : decode (yB Y_Mo_tells) 83 = .ok (.iconst 0, 1) := by decide +kernel
theorem d_Mo_tells_84 : decode (yB Y_Mo_tells) 84 = .ok (.istore 7, 2) := by decide +kernel
theorem d_Mo_tells_86 : decode (yB Y_Mo_tells) 86 = .ok (.iload 7, 2) := by decide +kernel
theorem d_Mo_tells_88 : decode (yB Y_Mo_tells) 88 = .ok (.aload_n 0, 1) := by decide +kernel
theorem d_Mo_tells_89 : decode (yB Y_Mo_tells) 89 = .ok (.getfield 13, 3) := by decide +kernel
theorem d_Mo_tells_92 : decode (yB Y_Mo_tells) 92 = .ok (.aload_n 0, 1) := by decide +kernel
theorem d_Mo_tells_93 : decode (yB Y_Mo_tells) 93 = .ok (.getfield 408, 3) := by decide +kernel
theorem d_Mo_tells_96 : decode (yB Y_Mo_tells) 96 = .ok (.iconst 1, 1) := by decide +kernel
theorem d_Mo_tells_97 : decode (yB Y_Mo_tells) 97 = .ok (.iadd, 1) := by decide +kernel
theorem d_Mo_tells_98 : decode (yB Y_Mo_tells) 98 = .ok (.iaload, 1) := by decide +kernel
theorem d_Mo_tells_99 : decode (yB Y_Mo_tells) 99 = .ok (.if_icmp .ge 58, 3) := by decide +kernel
theorem d_Mo_tells_102 : decode (yB Y_Mo_tells) 102 = .ok (.aload_n 0, 1) := by decide +kernel
theorem d_Mo_tells_103 : decode (yB Y_Mo_tells) 103 = .ok (.getfield 408, 3) := by decide +kernel
theorem d_Mo_tells_106 : decode (yB Y_Mo_tells) 106 = .ok (.iconst 2, 1) := by decide +kernel
theorem d_Mo_tells_107 : decode (yB Y_Mo_tells) 107 = .ok (.iadd, 1) := by decide +kernel
theorem d_Mo_tells_108 : decode (yB Y_Mo_tells) 108 = .ok (.bipush 8, 2) := by decide +kernel
theorem d_Mo_tells_110 : decode (yB Y_Mo_tells) 110 = .ok (.iload 7, 2) := by decide +kernel
theorem d_Mo_tells_112 : decode (yB Y_Mo_tells) 112 = .ok (.imul, 1) := by decide +kernel
theorem d_Mo_tells_113 : decode (yB Y_Mo_tells) 113 = .ok (.iadd, 1) := by decide +kernel
theorem d_Mo_tells_114 : decode (yB Y_Mo_tells) 114 = .ok (.istore 8, 2) := by decide +kernel
theorem d_Mo_tells_116 : decode (yB Y_Mo_tells) 116 = .ok (.aload_n 0, 1) := by decide +kernel
theorem d_Mo_tells_117 : decode (yB Y_Mo_tells) 117 = .ok (.getfield 13, 3) := by decide +kernel
theorem d_Mo_tells_120 : decode (yB Y_Mo_tells) 120 = .ok (.iload 8, 2) := by decide +kernel
theorem d_Mo_tells_122 : decode (yB Y_Mo_tells) 122 = .ok (.iaload, 1) := by decide +kernel
theorem d_Mo_tells_123 : decode (yB Y_Mo_tells) 123 = .ok (.iload_n 1, 1) := by decide +kernel
theorem d_Mo_tells_124 : decode (yB Y_Mo_tells) 124 = .ok (.if_icmp .ne 27, 3) := by decide +kernel
theorem d_Mo_tells_127 : decode (yB Y_Mo_tells) 127 = .ok (.aload_n 0, 1) := by decide +kernel
theorem d_Mo_tells_128 : decode (yB Y_Mo_tells) 128 = .ok (.iload 8, 2) := by decide +kernel
theorem d_Mo_tells_130 : decode (yB Y_Mo_tells) 130 = .ok (.invokevirtual 428, 3) := by decide +kernel
theorem d_Mo_tells_133 : decode (yB Y_Mo_tells) 133 = .ok (.ifCond .eq 18, 3) := by decide +kernel
theorem d_Mo_tells_136 : decode (yB Y_Mo_tells) 136 = .ok (.iload_n 1, 1) := by decide +kernel
theorem d_Mo_tells_137 : decode (yB Y_Mo_tells) 137 = .ok (.iconst 3, 1) := by decide +kernel
theorem d_Mo_tells_138 : decode (yB Y_Mo_tells) 138 = .ok (.if_icmp .ne 7, 3) := by decide +kernel
theorem d_Mo_tells_141 : decode (yB Y_Mo_tells) 141 = .ok (.lconst 1, 1) := by decide +kernel
theorem d_Mo_tells_142 : decode (yB Y_Mo_tells) 142 = .ok (.goto 7, 3) := by decide +kernel
theorem d_Mo_tells_145 : decode (yB Y_Mo_tells) 145 = .ok (.aload_n 0, 1) := by decide +kernel
theorem d_Mo_tells_146 : decode (yB Y_Mo_tells) 146 = .ok (.getfield 425, 3) := by decide +kernel
theorem d_Mo_tells_149 : decode (yB Y_Mo_tells) 149 = .ok (.lstore 5, 2) := by decide +kernel
theorem d_Mo_tells_151 : decode (yB Y_Mo_tells) 151 = .ok (.iinc 7 1, 3) := by decide +kernel
theorem d_Mo_tells_154 : decode (yB Y_Mo_tells) 154 = .ok (.goto (-68), 3) := by decide +kernel
theorem d_Mo_tells_157 : decode (yB Y_Mo_tells) 157 = .ok (.lload 5, 2) := by decide +kernel
theorem d_Mo_tells_159 : decode (yB Y_Mo_tells) 159 = .ok (.lreturn, 1) := by decide +kernel
def F_Mo_tells_b151 (n : Nat) (E : zE) (S : zS) (r86 : Nat × Int32 × Int64 × Int32 × zH → Option (Int64 × zH)) (a0 : Nat) (x1 : Int32) (y5 : Int64) (x7 : Int32) (M : zH) : Option (Int64 × zH) :=
  r86 (a0, x1, y5, x7 + 1, M)
def F_Mo_tells_b149 (n : Nat) (E : zE) (S : zS) (r86 : Nat × Int32 × Int64 × Int32 × zH → Option (Int64 × zH)) (a0 : Nat) (x1 : Int32) (x7 : Int32) (t0 : Int64) (M : zH) : Option (Int64 × zH) :=
  F_Mo_tells_b151 n E S r86 a0 x1 t0 x7 M
def F_Mo_tells_L86 (n : Nat) (E : zE) (S : zS) (r86 : Nat × Int32 × Int64 × Int32 × zH → Option (Int64 × zH)) (a0 : Nat) (x1 : Int32) (y5 : Int64) (x7 : Int32) (M : zH) : Option (Int64 × zH) :=
  (zgR S a0 11 3).bind fun b_1 =>
  (zgI S M a0 11 34).bind fun v_2 =>
  (zldI S M b_1 (v_2 + 1)).bind fun v_3 =>
  if v_3 ≤ x7 then
    some (y5, M)
  else
    (zgI S M a0 11 34).bind fun v_5 =>
    (zldI S M b_1 ((v_5 + 2) + (8 * x7))).bind fun v_6 =>
    if v_6 = x1 then
      (F_Mo_isSo n E S a0 ((v_5 + 2) + (8 * x7)) M).bind fun q_8 =>
      if q_8.1 = true then
        if x1 = 3 then
          F_Mo_tells_b149 n E S r86 a0 x1 x7 1 q_8.2
        else
          (zgJ S q_8.2 a0 11 40).bind fun v_11 =>
          F_Mo_tells_b149 n E S r86 a0 x1 x7 v_11 q_8.2
      else
        F_Mo_tells_b151 n E S r86 a0 x1 y5 x7 q_8.2
    else
      F_Mo_tells_b151 n E S r86 a0 x1 y5 x7 M
def F_Mo_tells_b86 (n : Nat) (E : zE) (S : zS) : Nat × Int32 × Int64 × Int32 × zH → Option (Int64 × zH) := zfix (fun r86 s => F_Mo_tells_L86 n E S r86 s.1 s.2.1 s.2.2.1 s.2.2.2.1 s.2.2.2.2) n
def F_Mo_tells (n : Nat) (E : zE) (S : zS) (a0 : Nat) (x1 : Int32) (x2 : Int32) (y3 : Int64) (M : zH) : Option (Int64 × zH) :=
  (zgR S a0 11 3).bind fun b_12 =>
  (zldI S M b_12 3).bind fun v_13 =>
  if v_13 = (-1) then
    some (y3, M)
  else
    (zldI S M b_12 3).bind fun v_15 =>
    (zpI S M a0 11 34 (80 + (900 * v_15))).bind fun m_16 =>
    (zgR S a0 11 35).bind fun b_17 =>
    (zstJ S m_16 b_17 4 x2.toInt64).bind fun m_18 =>
    (zldI S m_18 b_12 4).bind fun v_19 =>
    (zstJ S m_18 b_17 7 v_19.toInt64).bind fun m_20 =>
    (zldI S m_20 b_12 5).bind fun v_21 =>
    (zstJ S m_20 b_17 8 v_21.toInt64).bind fun m_22 =>
    (zldI S m_22 b_12 6).bind fun v_23 =>
    (zstJ S m_22 b_17 9 v_23.toInt64).bind fun m_24 =>
    F_Mo_tells_b86 n E S (a0, x1, y3, 0, m_24)
theorem K_Mo_tells_b151 (n : Nat) (E : zE) (S : zS) (r86 : Nat × Int32 × Int64 × Int32 × zH → Option (Int64 × zH)) (a0 : Nat) (x1 : Int32) (y5 : Int64) (x7 : Int32) (M : zH) (r : Int64) (M' : zH) (hr86 : ∀ (a0 : Nat) (x1 : Int32) (y5 : Int64) (x7 : Int32) (M : zH), r86 (a0, x1, y5, x7, M) = some (r, M') → zG E Y_Mo_tells (some (.long r), S, M') 86 [(0, .ref a0), (1, .int x1), (5, .long y5), (7, .int x7)] [] S M 0 0) (h : F_Mo_tells_b151 n E S r86 a0 x1 y5 x7 M = some (r, M')) : zG E Y_Mo_tells (some (.long r), S, M') 151 [(0, .ref a0), (1, .int x1), (5, .long y5), (7, .int x7)] [] S M 0 0 := by
  unfold F_Mo_tells_b151 at h
  refine zi_iinc 3 (x7 + 1) [(7, .int (x7 + 1)), (0, .ref a0), (1, .int x1), (5, .long y5)] d_Mo_tells_151 rfl rfl (by decide) rfl ?_
  refine zi_goto (tgt := 86) d_Mo_tells_154 rfl ?_
  refine zi_lo [(0, .ref a0), (1, .int x1), (5, .long y5), (7, .int (x7 + 1))] [1, 2, 3, 0] rfl ?_
  exact hr86 a0 x1 y5 (x7 + 1) M h
theorem K_Mo_tells_b149 (n : Nat) (E : zE) (S : zS) (r86 : Nat × Int32 × Int64 × Int32 × zH → Option (Int64 × zH)) (a0 : Nat) (x1 : Int32) (x7 : Int32) (t0 : Int64) (M : zH) (r : Int64) (M' : zH) (hr86 : ∀ (a0 : Nat) (x1 : Int32) (y5 : Int64) (x7 : Int32) (M : zH), r86 (a0, x1, y5, x7, M) = some (r, M') → zG E Y_Mo_tells (some (.long r), S, M') 86 [(0, .ref a0), (1, .int x1), (5, .long y5), (7, .int x7)] [] S M 0 0) (h : F_Mo_tells_b149 n E S r86 a0 x1 x7 t0 M = some (r, M')) : zG E Y_Mo_tells (some (.long r), S, M') 149 [(0, .ref a0), (1, .int x1), (7, .int x7)] [.long t0] S M 0 0 := by
  unfold F_Mo_tells_b149 at h
  refine zi_lstore [(5, .long t0), (0, .ref a0), (1, .int x1), (7, .int x7)] d_Mo_tells_149 (by decide) rfl ?_
  refine zi_lo [(0, .ref a0), (1, .int x1), (5, .long t0), (7, .int x7)] [1, 2, 0, 3] rfl ?_
  exact K_Mo_tells_b151 n E S r86 a0 x1 t0 x7 M r M' hr86 h
theorem K_Mo_tells_L86 (n : Nat) (E : zE) (S : zS) (r86 : Nat × Int32 × Int64 × Int32 × zH → Option (Int64 × zH)) (a0 : Nat) (x1 : Int32) (y5 : Int64) (x7 : Int32) (M : zH) (r : Int64) (M' : zH) (hr86 : ∀ (a0 : Nat) (x1 : Int32) (y5 : Int64) (x7 : Int32) (M : zH), r86 (a0, x1, y5, x7, M) = some (r, M') → zG E Y_Mo_tells (some (.long r), S, M') 86 [(0, .ref a0), (1, .int x1), (5, .long y5), (7, .int x7)] [] S M 0 0) (h : F_Mo_tells_L86 n E S r86 a0 x1 y5 x7 M = some (r, M')) : zG E Y_Mo_tells (some (.long r), S, M') 86 [(0, .ref a0), (1, .int x1), (5, .long y5), (7, .int x7)] [] S M 0 0 := by
  unfold F_Mo_tells_L86 at h
  refine zi_iload 3 d_Mo_tells_86 rfl ?_
  refine zi_aload_n 0 d_Mo_tells_88 rfl ?_
  obtain ⟨b_1, eb_1, h⟩ := zbind h
  refine zo_getR 92 zkd_11 3 d_Mo_tells_89 eb_1 rfl tw_1234 rfl ?_
  refine zi_aload_n 0 d_Mo_tells_92 rfl ?_
  obtain ⟨v_2, ev_2, h⟩ := zbind h
  refine zo_getI 96 zkd_11 34 d_Mo_tells_93 ev_2 rfl tw_1265 rfl ?_
  refine zi_iconst 1 d_Mo_tells_96 rfl ?_
  refine zi_iadd d_Mo_tells_97 ?_
  obtain ⟨v_3, ev_3, h⟩ := zbind h
  refine zo_iald 99 d_Mo_tells_98 ev_3 rfl ?_
  refine zi_icmp_ge (tgt := 157) d_Mo_tells_99 rfl (fun c_4 => ?_) (fun c_4 => ?_)
  · rw [if_pos c_4] at h
    refine zi_lload 2 d_Mo_tells_157 rfl ?_
    cases h
    exact zo_ret d_Mo_tells_159 (Nat.le_of_ble_eq_true rfl) (Nat.le_of_ble_eq_true rfl) rfl
  · rw [if_neg c_4] at h
    refine zi_aload_n 0 d_Mo_tells_102 rfl ?_
    obtain ⟨v_5, ev_5, h⟩ := zbind h
    refine zo_getI 106 zkd_11 34 d_Mo_tells_103 ev_5 rfl tw_1265 rfl ?_
    refine zi_iconst 2 d_Mo_tells_106 rfl ?_
    refine zi_iadd d_Mo_tells_107 ?_
    refine zi_bipush 8 d_Mo_tells_108 rfl ?_
    refine zi_iload 3 d_Mo_tells_110 rfl ?_
    refine zi_imul d_Mo_tells_112 ?_
    refine zi_iadd d_Mo_tells_113 ?_
    refine zi_istore [(8, .int ((v_5 + 2) + (8 * x7))), (0, .ref a0), (1, .int x1), (5, .long y5), (7, .int x7)] d_Mo_tells_114 (by decide) rfl ?_
    refine zi_aload_n 1 d_Mo_tells_116 rfl ?_
    refine zo_getR 120 zkd_11 3 d_Mo_tells_117 eb_1 rfl tw_1234 rfl ?_
    refine zi_iload 0 d_Mo_tells_120 rfl ?_
    obtain ⟨v_6, ev_6, h⟩ := zbind h
    refine zo_iald 123 d_Mo_tells_122 ev_6 rfl ?_
    refine zi_iload_n 2 d_Mo_tells_123 rfl ?_
    refine zi_icmp_ne (tgt := 151) d_Mo_tells_124 rfl (fun c_7 => ?_) (fun c_7 => ?_)
    · rw [if_neg c_7] at h
      refine zi_lo [(0, .ref a0), (1, .int x1), (5, .long y5), (7, .int x7)] [1, 2, 3, 4] rfl ?_
      exact K_Mo_tells_b151 n E S r86 a0 x1 y5 x7 M r M' hr86 h
    · rw [if_pos c_7] at h
      refine zi_aload_n 1 d_Mo_tells_127 rfl ?_
      refine zi_iload 0 d_Mo_tells_128 rfl ?_
      obtain ⟨q_8, eq_8, h⟩ := zbind h
      refine zo_virt (k' := 0) (n' := 0) 133 [.int ((v_5 + 2) + (8 * x7))] [] [.int (bI q_8.1)] zkd_11 (zgR_s eb_1).1 (C_Mo_isSo n E S a0 ((v_5 + 2) + (8 * x7)) M q_8.1 q_8.2 eq_8) d_Mo_tells_130 tw_1457 tw_1454 tw_1456 ts_41 tw_13 dd_Mo_isSo ⟨Nat.le_of_ble_eq_true rfl, Nat.le_of_ble_eq_true rfl, Nat.le_of_ble_eq_true rfl, Nat.le_of_ble_eq_true rfl⟩ (Nat.le_of_ble_eq_true rfl) rfl rfl rfl rfl ?_
      refine zo_ifeqB d_Mo_tells_133 rfl 136 rfl (fun c_9 => ?_) (fun c_9 => ?_)
      · rw [if_neg c_9] at h
        refine zi_lo [(0, .ref a0), (1, .int x1), (5, .long y5), (7, .int x7)] [1, 2, 3, 4] rfl ?_
        exact K_Mo_tells_b151 n E S r86 a0 x1 y5 x7 q_8.2 r M' hr86 h
      · rw [if_pos c_9] at h
        refine zi_iload_n 2 d_Mo_tells_136 rfl ?_
        refine zi_iconst 3 d_Mo_tells_137 rfl ?_
        refine zi_icmp_ne (tgt := 145) d_Mo_tells_138 rfl (fun c_10 => ?_) (fun c_10 => ?_)
        · rw [if_neg c_10] at h
          refine zi_aload_n 1 d_Mo_tells_145 rfl ?_
          obtain ⟨v_11, ev_11, h⟩ := zbind h
          refine zo_getJ 149 zkd_11 40 d_Mo_tells_146 ev_11 rfl tw_1271 rfl ?_
          refine zi_lo [(0, .ref a0), (1, .int x1), (7, .int x7)] [1, 2, 4] rfl ?_
          exact K_Mo_tells_b149 n E S r86 a0 x1 x7 v_11 q_8.2 r M' hr86 h
        · rw [if_pos c_10] at h
          refine zi_lconst 1 d_Mo_tells_141 rfl ?_
          refine zi_goto (tgt := 149) d_Mo_tells_142 rfl ?_
          refine zi_lo [(0, .ref a0), (1, .int x1), (7, .int x7)] [1, 2, 4] rfl ?_
          exact K_Mo_tells_b149 n E S r86 a0 x1 x7 1 q_8.2 r M' hr86 h
theorem K_Mo_tells_b86 (n : Nat) (E : zE) (S : zS) (a0 : Nat) (x1 : Int32) (y5 : Int64) (x7 : Int32) (M : zH) (r : Int64) (M' : zH)  (h : F_Mo_tells_b86 n E S (a0, x1, y5, x7, M) = some (r, M')) : zG E Y_Mo_tells (some (.long r), S, M') 86 [(0, .ref a0), (1, .int x1), (5, .long y5), (7, .int x7)] [] S M 0 0 := by
  have key : ∀ (k : Nat) (a0 : Nat) (x1 : Int32) (y5 : Int64) (x7 : Int32) (M : zH), zfix (fun r86 s => F_Mo_tells_L86 n E S r86 s.1 s.2.1 s.2.2.1 s.2.2.2.1 s.2.2.2.2) k (a0, x1, y5, x7, M) = some (r, M') → zG E Y_Mo_tells (some (.long r), S, M') 86 [(0, .ref a0), (1, .int x1), (5, .long y5), (7, .int x7)] [] S M 0 0 := by
    intro k
    induction k with
    | zero => intro a0 x1 y5 x7 M h; cases h
    | succ k ih => intro a0 x1 y5 x7 M h; exact K_Mo_tells_L86 n E S _ a0 x1 y5 x7 M r M'  (fun a0 x1 y5 x7 M h => ih a0 x1 y5 x7 M h) h
  exact key n a0 x1 y5 x7 M h
theorem K_Mo_tells (n : Nat) (E : zE) (S : zS) (a0 : Nat) (x1 : Int32) (x2 : Int32) (y3 : Int64) (M : zH) (r : Int64) (M' : zH)  (h : F_Mo_tells n E S a0 x1 x2 y3 M = some (r, M')) : zG E Y_Mo_tells (some (.long r), S, M') 0 [(0, .ref a0), (1, .int x1), (2, .int x2), (3, .long y3)] [] S M 0 0 := by
  unfold F_Mo_tells at h
  refine zi_aload_n 0 d_Mo_tells_0 rfl ?_
  obtain ⟨b_12, eb_12, h⟩ := zbind h
  refine zo_getR 4 zkd_11 3 d_Mo_tells_1 eb_12 rfl tw_1234 rfl ?_
  refine zi_iconst 3 d_Mo_tells_4 rfl ?_
  obtain ⟨v_13, ev_13, h⟩ := zbind h
  refine zo_iald 6 d_Mo_tells_5 ev_13 rfl ?_
  refine zi_iconst (-1) d_Mo_tells_6 rfl ?_
  refine zi_icmp_ne (tgt := 12) d_Mo_tells_7 rfl (fun c_14 => ?_) (fun c_14 => ?_)
  · rw [if_neg c_14] at h
    refine zi_aload_n 0 d_Mo_tells_12 rfl ?_
    refine zi_bipush 80 d_Mo_tells_13 rfl ?_
    refine zi_sipush 900 d_Mo_tells_15 rfl ?_
    refine zi_aload_n 0 d_Mo_tells_18 rfl ?_
    refine zo_getR 22 zkd_11 3 d_Mo_tells_19 eb_12 rfl tw_1234 rfl ?_
    refine zi_iconst 3 d_Mo_tells_22 rfl ?_
    obtain ⟨v_15, ev_15, h⟩ := zbind h
    refine zo_iald 24 d_Mo_tells_23 ev_15 rfl ?_
    refine zi_imul d_Mo_tells_24 ?_
    refine zi_iadd d_Mo_tells_25 ?_
    obtain ⟨m_16, em_16, h⟩ := zbind h
    refine zo_putI 29 zkd_11 34 d_Mo_tells_26 em_16 rfl rfl rfl tw_1265 rfl ?_
    refine zi_aload_n 0 d_Mo_tells_29 rfl ?_
    obtain ⟨b_17, eb_17, h⟩ := zbind h
    refine zo_getR 33 zkd_11 35 d_Mo_tells_30 eb_17 rfl tw_1266 rfl ?_
    refine zi_iconst 4 d_Mo_tells_33 rfl ?_
    refine zi_iload_n 2 d_Mo_tells_34 rfl ?_
    refine zi_i2l d_Mo_tells_35 ?_
    obtain ⟨m_18, em_18, h⟩ := zbind h
    refine zo_last 37 d_Mo_tells_36 em_18 rfl ?_
    refine zi_aload_n 0 d_Mo_tells_37 rfl ?_
    refine zo_getR 41 zkd_11 35 d_Mo_tells_38 eb_17 rfl tw_1266 rfl ?_
    refine zi_bipush 7 d_Mo_tells_41 rfl ?_
    refine zi_aload_n 0 d_Mo_tells_43 rfl ?_
    refine zo_getR 47 zkd_11 3 d_Mo_tells_44 eb_12 rfl tw_1234 rfl ?_
    refine zi_iconst 4 d_Mo_tells_47 rfl ?_
    obtain ⟨v_19, ev_19, h⟩ := zbind h
    refine zo_iald 49 d_Mo_tells_48 ev_19 rfl ?_
    refine zi_i2l d_Mo_tells_49 ?_
    obtain ⟨m_20, em_20, h⟩ := zbind h
    refine zo_last 51 d_Mo_tells_50 em_20 rfl ?_
    refine zi_aload_n 0 d_Mo_tells_51 rfl ?_
    refine zo_getR 55 zkd_11 35 d_Mo_tells_52 eb_17 rfl tw_1266 rfl ?_
    refine zi_bipush 8 d_Mo_tells_55 rfl ?_
    refine zi_aload_n 0 d_Mo_tells_57 rfl ?_
    refine zo_getR 61 zkd_11 3 d_Mo_tells_58 eb_12 rfl tw_1234 rfl ?_
    refine zi_iconst 5 d_Mo_tells_61 rfl ?_
    obtain ⟨v_21, ev_21, h⟩ := zbind h
    refine zo_iald 63 d_Mo_tells_62 ev_21 rfl ?_
    refine zi_i2l d_Mo_tells_63 ?_
    obtain ⟨m_22, em_22, h⟩ := zbind h
    refine zo_last 65 d_Mo_tells_64 em_22 rfl ?_
    refine zi_aload_n 0 d_Mo_tells_65 rfl ?_
    refine zo_getR 69 zkd_11 35 d_Mo_tells_66 eb_17 rfl tw_1266 rfl ?_
    refine zi_bipush 9 d_Mo_tells_69 rfl ?_
    refine zi_aload_n 0 d_Mo_tells_71 rfl ?_
    refine zo_getR 75 zkd_11 3 d_Mo_tells_72 eb_12 rfl tw_1234 rfl ?_
    refine zi_bipush 6 d_Mo_tells_75 rfl ?_
    obtain ⟨v_23, ev_23, h⟩ := zbind h
    refine zo_iald 78 d_Mo_tells_77 ev_23 rfl ?_
    refine zi_i2l d_Mo_tells_78 ?_
    obtain ⟨m_24, em_24, h⟩ := zbind h
    refine zo_last 80 d_Mo_tells_79 em_24 rfl ?_
    refine zi_lload_n 3 d_Mo_tells_80 rfl ?_
    refine zi_lstore [(5, .long y3), (0, .ref a0), (1, .int x1), (2, .int x2), (3, .long y3)] d_Mo_tells_81 (by decide) rfl ?_
    refine zi_iconst 0 d_Mo_tells_83 rfl ?_
    refine zi_istore [(7, .int 0), (5, .long y3), (0, .ref a0), (1, .int x1), (2, .int x2), (3, .long y3)] d_Mo_tells_84 (by decide) rfl ?_
    refine zi_lo [(0, .ref a0), (1, .int x1), (5, .long y3), (7, .int 0)] [2, 3, 1, 0] rfl ?_
    exact K_Mo_tells_b86 n E S a0 x1 y3 0 m_24 r M'  h
  · rw [if_pos c_14] at h
    refine zi_lload_n 3 d_Mo_tells_10 rfl ?_
    cases h
    exact zo_ret d_Mo_tells_11 (Nat.le_of_ble_eq_true rfl) (Nat.le_of_ble_eq_true rfl) rfl
theorem C_Mo_tells (n : Nat) (E : zE) (S : zS) (a0 : Nat) (x1 : Int32) (x2 : Int32) (y3 : Int64) (M : zH) (r : Int64) (M' : zH) (h : F_Mo_tells n E S a0 x1 x2 y3 M = some (r, M')) : zC E Y_Mo_tells [.ref a0, .int x1, .int x2, .long y3] S M (some (.long r), S, M') :=
  zC.of (Or.inl (show plainName "NightColanderModel" = true by decide)) (Nat.le_of_ble_eq_true rfl) (trivial) (K_Mo_tells n E S a0 x1 x2 y3 M r M' h)
theorem d_Mo_within_0 : decode (yB Y_Mo_within) 0 = .ok (.lload_n 0, 1) := by decide +kernel
theorem d_Mo_within_1 : decode (yB Y_Mo_within) 1 = .ok (.iload_n 2, 1) := by decide +kernel
theorem d_Mo_within_2 : decode (yB Y_Mo_within) 2 = .ok (.i2l, 1) := by decide +kernel
theorem d_Mo_within_3 : decode (yB Y_Mo_within) 3 = .ok (.lcmp, 1) := by decide +kernel
theorem d_Mo_within_4 : decode (yB Y_Mo_within) 4 = .ok (.ifCond .ge 7, 3) := by decide +kernel
theorem d_Mo_within_7 : decode (yB Y_Mo_within) 7 = .ok (.iload_n 2, 1) := by decide +kernel
theorem d_Mo_within_8 : decode (yB Y_Mo_within) 8 = .ok (.goto 16, 3) := by decide +kernel
theorem d_Mo_within_11 : decode (yB Y_Mo_within) 11 = .ok (.lload_n 0, 1) := by decide +kernel
theorem d_Mo_within_12 : decode (yB Y_Mo_within) 12 = .ok (.iload_n 3, 1) := by decide +kernel
theorem d_Mo_within_13 : decode (yB Y_Mo_within) 13 = .ok (.i2l, 1) := by decide +kernel
theorem d_Mo_within_14 : decode (yB Y_Mo_within) 14 = .ok (.lcmp, 1) := by decide +kernel
theorem d_Mo_within_15 : decode (yB Y_Mo_within) 15 = .ok (.ifCond .le 7, 3) := by decide +kernel
theorem d_Mo_within_18 : decode (yB Y_Mo_within) 18 = .ok (.iload_n 3, 1) := by decide +kernel
theorem d_Mo_within_19 : decode (yB Y_Mo_within) 19 = .ok (.goto 5, 3) := by decide +kernel
theorem d_Mo_within_22 : decode (yB Y_Mo_within) 22 = .ok (.lload_n 0, 1) := by decide +kernel
theorem d_Mo_within_23 : decode (yB Y_Mo_within) 23 = .ok (.l2i, 1) := by decide +kernel
theorem d_Mo_within_24 : decode (yB Y_Mo_within) 24 = .ok (.ireturn, 1) := by decide +kernel
def F_Mo_within (n : Nat) (E : zE) (S : zS) (y0 : Int64) (x2 : Int32) (x3 : Int32) (M : zH) : Option (Int32 × zH) :=
  if x2.toInt64 ≤ y0 then
    if y0 ≤ x3.toInt64 then
      some (y0.toInt32, M)
    else
      some (x3, M)
  else
    some (x2, M)
theorem K_Mo_within (n : Nat) (E : zE) (S : zS) (y0 : Int64) (x2 : Int32) (x3 : Int32) (M : zH) (r : Int32) (M' : zH)  (h : F_Mo_within n E S y0 x2 x3 M = some (r, M')) : zG E Y_Mo_within (some (.int r), S, M') 0 [(0, .long y0), (2, .int x2), (3, .int x3)] [] S M 0 0 := by
  unfold F_Mo_within at h
  refine zi_lload_n 0 d_Mo_within_0 rfl ?_
  refine zi_iload_n 1 d_Mo_within_1 rfl ?_
  refine zi_i2l d_Mo_within_2 ?_
  refine zo_lc_ge d_Mo_within_3 d_Mo_within_4 rfl 7 rfl (fun c_1 => ?_) (fun c_1 => ?_)
  · rw [if_pos c_1] at h
    refine zi_lload_n 0 d_Mo_within_11 rfl ?_
    refine zi_iload_n 2 d_Mo_within_12 rfl ?_
    refine zi_i2l d_Mo_within_13 ?_
    refine zo_lc_le d_Mo_within_14 d_Mo_within_15 rfl 18 rfl (fun c_2 => ?_) (fun c_2 => ?_)
    · rw [if_pos c_2] at h
      refine zi_lload_n 0 d_Mo_within_22 rfl ?_
      refine zi_l2i d_Mo_within_23 ?_
      cases h
      exact zo_ret d_Mo_within_24 (Nat.le_of_ble_eq_true rfl) (Nat.le_of_ble_eq_true rfl) rfl
    · rw [if_neg c_2] at h
      refine zi_iload_n 2 d_Mo_within_18 rfl ?_
      refine zi_goto (tgt := 24) d_Mo_within_19 rfl ?_
      cases h
      exact zo_ret d_Mo_within_24 (Nat.le_of_ble_eq_true rfl) (Nat.le_of_ble_eq_true rfl) rfl
  · rw [if_neg c_1] at h
    refine zi_iload_n 1 d_Mo_within_7 rfl ?_
    refine zi_goto (tgt := 24) d_Mo_within_8 rfl ?_
    cases h
    exact zo_ret d_Mo_within_24 (Nat.le_of_ble_eq_true rfl) (Nat.le_of_ble_eq_true rfl) rfl
theorem C_Mo_within (n : Nat) (E : zE) (S : zS) (y0 : Int64) (x2 : Int32) (x3 : Int32) (M : zH) (r : Int32) (M' : zH) (h : F_Mo_within n E S y0 x2 x3 M = some (r, M')) : zC E Y_Mo_within [.long y0, .int x2, .int x3] S M (some (.int r), S, M') :=
  zC.of (Or.inl (show plainName "NightColanderModel" = true by decide)) (Nat.le_of_ble_eq_true rfl) (trivial) (K_Mo_within n E S y0 x2 x3 M r M' h)
theorem d_Mo_runsOf_0 : decode (yB Y_Mo_runsOf) 0 = .ok (.aload_n 0, 1) := by decide +kernel
theorem d_Mo_runsOf_1 : decode (yB Y_Mo_runsOf) 1 = .ok (.getfield 13, 3) := by decide +kernel
theorem d_Mo_runsOf_4 : decode (yB Y_Mo_runsOf) 4 = .ok (.bipush 12, 2) := by decide +kernel
theorem d_Mo_runsOf_6 : decode (yB Y_Mo_runsOf) 6 = .ok (.bipush 8, 2) := by decide +kernel
theorem d_Mo_runsOf_8 : decode (yB Y_Mo_runsOf) 8 = .ok (.iload_n 1, 1) := by decide +kernel
theorem d_Mo_runsOf_9 : decode (yB Y_Mo_runsOf) 9 = .ok (.imul, 1) := by decide +kernel
theorem d_Mo_runsOf_10 : decode (yB Y_Mo_runsOf) 10 = .ok (.iadd, 1) := by decide +kernel
theorem d_Mo_runsOf_11 : decode (yB Y_Mo_runsOf) 11 = .ok (.iload_n 2, 1) := by decide +kernel
theorem d_Mo_runsOf_12 : decode (yB Y_Mo_runsOf) 12 = .ok (.iadd, 1) := by decide +kernel
theorem d_Mo_runsOf_13 : decode (yB Y_Mo_runsOf) 13 = .ok (.iaload, 1) := by decide +kernel
theorem d_Mo_runsOf_14 : decode (yB Y_Mo_runsOf) 14 = .ok (.istore 4, 2) := by decide +kernel
theorem d_Mo_runsOf_16 : decode (yB Y_Mo_runsOf) 16 = .ok (.aload_n 0, 1) := by decide +kernel
theorem d_Mo_runsOf_17 : decode (yB Y_Mo_runsOf) 17 = .ok (.getfield 103, 3) := by decide +kernel
theorem d_Mo_runsOf_20 : decode (yB Y_Mo_runsOf) 20 = .ok (.iconst 1, 1) := by decide +kernel
theorem d_Mo_runsOf_21 : decode (yB Y_Mo_runsOf) 21 = .ok (.iload_n 1, 1) := by decide +kernel
theorem d_Mo_runsOf_22 : decode (yB Y_Mo_runsOf) 22 = .ok (.i2l, 1) := by decide +kernel
theorem d_Mo_runsOf_23 : decode (yB Y_Mo_runsOf) 23 = .ok (.lastore, 1) := by decide +kernel
theorem d_Mo_runsOf_24 : decode (yB Y_Mo_runsOf) 24 = .ok (.aload_n 0, 1) := by decide +kernel
theorem d_Mo_runsOf_25 : decode (yB Y_Mo_runsOf) 25 = .ok (.getfield 103, 3) := by decide +kernel
theorem d_Mo_runsOf_28 : decode (yB Y_Mo_runsOf) 28 = .ok (.iconst 2, 1) := by decide +kernel
theorem d_Mo_runsOf_29 : decode (yB Y_Mo_runsOf) 29 = .ok (.iload_n 2, 1) := by decide +kernel
theorem d_Mo_runsOf_30 : decode (yB Y_Mo_runsOf) 30 = .ok (.i2l, 1) := by decide +kernel
theorem d_Mo_runsOf_31 : decode (yB Y_Mo_runsOf) 31 = .ok (.lastore, 1) := by decide +kernel
theorem d_Mo_runsOf_32 : decode (yB Y_Mo_runsOf) 32 = .ok (.aload_n 0, 1) := by decide +kernel
theorem d_Mo_runsOf_33 : decode (yB Y_Mo_runsOf) 33 = .ok (.getfield 103, 3) := by decide +kernel
theorem d_Mo_runsOf_36 : decode (yB Y_Mo_runsOf) 36 = .ok (.iconst 3, 1) := by decide +kernel
theorem d_Mo_runsOf_37 : decode (yB Y_Mo_runsOf) 37 = .ok (.iload 4, 2) := by decide +kernel
theorem d_Mo_runsOf_39 : decode (yB Y_Mo_runsOf) 39 = .ok (.i2l, 1) := by decide +kernel
theorem d_Mo_runsOf_40 : decode (yB Y_Mo_runsOf) 40 = .ok (.lastore, 1) := by decide +kernel
theorem d_Mo_runsOf_41 : decode (yB Y_Mo_runsOf) 41 = .ok (.aload_n 0, 1) := by decide +kernel
theorem d_Mo_runsOf_42 : decode (yB Y_Mo_runsOf) 42 = .ok (.getfield 103, 3) := by decide +kernel
theorem d_Mo_runsOf_45 : decode (yB Y_Mo_runsOf) 45 = .ok (.iconst 5, 1) := by decide +kernel
theorem d_Mo_runsOf_46 : decode (yB Y_Mo_runsOf) 46 = .ok (.ldc2_w 228, 3) := by decide +kernel
theorem d_Mo_runsOf_49 : decode (yB Y_Mo_runsOf) 49 = .ok (.lastore, 1) := by decide +kernel
theorem d_Mo_runsOf_50 : decode (yB Y_Mo_runsOf) 50 = .ok (.aload_n 0, 1) := by decide +kernel
theorem d_Mo_runsOf_51 : decode (yB Y_Mo_runsOf) 51 = .ok (.getfield 103, 3) := by decide +kernel
theorem d_Mo_runsOf_54 : decode (yB Y_Mo_runsOf) 54 = .ok (.bipush 6, 2) := by decide +kernel
theorem d_Mo_runsOf_56 : decode (yB Y_Mo_runsOf) 56 = .ok (.ldc2_w 228, 3) := by decide +kernel
theorem d_Mo_runsOf_59 : decode (yB Y_Mo_runsOf) 59 = .ok (.lastore, 1) := by decide +kernel
theorem d_Mo_runsOf_60 : decode (yB Y_Mo_runsOf) 60 = .ok (.aload_n 0, 1) := by decide +kernel
theorem d_Mo_runsOf_61 : decode (yB Y_Mo_runsOf) 61 = .ok (.iconst 0, 1) := by decide +kernel
theorem d_Mo_runsOf_62 : decode (yB Y_Mo_runsOf) 62 = .ok (.iload_n 3, 1) := by decide +kernel
theorem d_Mo_runsOf_63 : decode (yB Y_Mo_runsOf) 63 = .ok (.iload 4, 2) := by decide +kernel
theorem d_Mo_runsOf_65 : decode (yB Y_Mo_runsOf) 65 = .ok (.aload_n 0, 1) := by decide +kernel
theorem d_Mo_runsOf_66 : decode (yB Y_Mo_runsOf) 66 = .ok (.getfield 13, 3) := by decide +kernel
theorem d_Mo_runsOf_69 : decode (yB Y_Mo_runsOf) 69 = .ok (.iconst 5, 1) := by decide +kernel
theorem d_Mo_runsOf_70 : decode (yB Y_Mo_runsOf) 70 = .ok (.iaload, 1) := by decide +kernel
theorem d_Mo_runsOf_71 : decode (yB Y_Mo_runsOf) 71 = .ok (.imul, 1) := by decide +kernel
theorem d_Mo_runsOf_72 : decode (yB Y_Mo_runsOf) 72 = .ok (.i2l, 1) := by decide +kernel
theorem d_Mo_runsOf_73 : decode (yB Y_Mo_runsOf) 73 = .ok (.invokevirtual 431, 3) := by decide +kernel
theorem d_Mo_runsOf_76 : decode (yB Y_Mo_runsOf) 76 = .ok (.iconst 0, 1) := by decide +kernel
theorem d_Mo_runsOf_77 : decode (yB Y_Mo_runsOf) 77 = .ok (.bipush 99, 2) := by decide +kernel
theorem d_Mo_runsOf_79 : decode (yB Y_Mo_runsOf) 79 = .ok (.invokestatic 435, 3) := by decide +kernel
theorem d_Mo_runsOf_82 : decode (yB Y_Mo_runsOf) 82 = .ok (.ireturn, 1) := by decide +kernel
def F_Mo_runsOf (n : Nat) (E : zE) (S : zS) (a0 : Nat) (x1 : Int32) (x2 : Int32) (x3 : Int32) (M : zH) : Option (Int32 × zH) :=
  (zgR S a0 11 3).bind fun b_1 =>
  (zldI S M b_1 ((12 + (8 * x1)) + x2)).bind fun v_2 =>
  (zgR S a0 11 35).bind fun b_3 =>
  (zstJ S M b_3 1 x1.toInt64).bind fun m_4 =>
  (zstJ S m_4 b_3 2 x2.toInt64).bind fun m_5 =>
  (zstJ S m_5 b_3 3 v_2.toInt64).bind fun m_6 =>
  (zstJ S m_6 b_3 5 (-1)).bind fun m_7 =>
  (zstJ S m_7 b_3 6 (-1)).bind fun m_8 =>
  (zldI S m_8 b_1 5).bind fun v_9 =>
  (F_Mo_tells n E S a0 0 x3 ((v_2 * v_9).toInt64) m_8).bind fun q_10 =>
  (F_Mo_within n E S q_10.1 0 99 q_10.2).bind fun q_11 =>
  some (q_11.1, q_11.2)
theorem K_Mo_runsOf (n : Nat) (E : zE) (S : zS) (a0 : Nat) (x1 : Int32) (x2 : Int32) (x3 : Int32) (M : zH) (r : Int32) (M' : zH)  (h : F_Mo_runsOf n E S a0 x1 x2 x3 M = some (r, M')) : zG E Y_Mo_runsOf (some (.int r), S, M') 0 [(0, .ref a0), (1, .int x1), (2, .int x2), (3, .int x3)] [] S M 0 0 := by
  unfold F_Mo_runsOf at h
  refine zi_aload_n 0 d_Mo_runsOf_0 rfl ?_
  obtain ⟨b_1, eb_1, h⟩ := zbind h
  refine zo_getR 4 zkd_11 3 d_Mo_runsOf_1 eb_1 rfl tw_1234 rfl ?_
  refine zi_bipush 12 d_Mo_runsOf_4 rfl ?_
  refine zi_bipush 8 d_Mo_runsOf_6 rfl ?_
  refine zi_iload_n 1 d_Mo_runsOf_8 rfl ?_
  refine zi_imul d_Mo_runsOf_9 ?_
  refine zi_iadd d_Mo_runsOf_10 ?_
  refine zi_iload_n 2 d_Mo_runsOf_11 rfl ?_
  refine zi_iadd d_Mo_runsOf_12 ?_
  obtain ⟨v_2, ev_2, h⟩ := zbind h
  refine zo_iald 14 d_Mo_runsOf_13 ev_2 rfl ?_
  refine zi_istore [(4, .int v_2), (0, .ref a0), (1, .int x1), (2, .int x2), (3, .int x3)] d_Mo_runsOf_14 (by decide) rfl ?_
  refine zi_aload_n 1 d_Mo_runsOf_16 rfl ?_
  obtain ⟨b_3, eb_3, h⟩ := zbind h
  refine zo_getR 20 zkd_11 35 d_Mo_runsOf_17 eb_3 rfl tw_1266 rfl ?_
  refine zi_iconst 1 d_Mo_runsOf_20 rfl ?_
  refine zi_iload_n 2 d_Mo_runsOf_21 rfl ?_
  refine zi_i2l d_Mo_runsOf_22 ?_
  obtain ⟨m_4, em_4, h⟩ := zbind h
  refine zo_last 24 d_Mo_runsOf_23 em_4 rfl ?_
  refine zi_aload_n 1 d_Mo_runsOf_24 rfl ?_
  refine zo_getR 28 zkd_11 35 d_Mo_runsOf_25 eb_3 rfl tw_1266 rfl ?_
  refine zi_iconst 2 d_Mo_runsOf_28 rfl ?_
  refine zi_iload_n 3 d_Mo_runsOf_29 rfl ?_
  refine zi_i2l d_Mo_runsOf_30 ?_
  obtain ⟨m_5, em_5, h⟩ := zbind h
  refine zo_last 32 d_Mo_runsOf_31 em_5 rfl ?_
  refine zi_aload_n 1 d_Mo_runsOf_32 rfl ?_
  refine zo_getR 36 zkd_11 35 d_Mo_runsOf_33 eb_3 rfl tw_1266 rfl ?_
  refine zi_iconst 3 d_Mo_runsOf_36 rfl ?_
  refine zi_iload 0 d_Mo_runsOf_37 rfl ?_
  refine zi_i2l d_Mo_runsOf_39 ?_
  obtain ⟨m_6, em_6, h⟩ := zbind h
  refine zo_last 41 d_Mo_runsOf_40 em_6 rfl ?_
  refine zi_aload_n 1 d_Mo_runsOf_41 rfl ?_
  refine zo_getR 45 zkd_11 35 d_Mo_runsOf_42 eb_3 rfl tw_1266 rfl ?_
  refine zi_iconst 5 d_Mo_runsOf_45 rfl ?_
  refine zi_ldc2 d_Mo_runsOf_46 tw_1449 ?_
  obtain ⟨m_7, em_7, h⟩ := zbind h
  refine zo_last 50 d_Mo_runsOf_49 em_7 rfl ?_
  refine zi_aload_n 1 d_Mo_runsOf_50 rfl ?_
  refine zo_getR 54 zkd_11 35 d_Mo_runsOf_51 eb_3 rfl tw_1266 rfl ?_
  refine zi_bipush 6 d_Mo_runsOf_54 rfl ?_
  refine zi_ldc2 d_Mo_runsOf_56 tw_1449 ?_
  obtain ⟨m_8, em_8, h⟩ := zbind h
  refine zo_last 60 d_Mo_runsOf_59 em_8 rfl ?_
  refine zi_aload_n 1 d_Mo_runsOf_60 rfl ?_
  refine zi_iconst 0 d_Mo_runsOf_61 rfl ?_
  refine zi_iload_n 4 d_Mo_runsOf_62 rfl ?_
  refine zi_iload 0 d_Mo_runsOf_63 rfl ?_
  refine zi_aload_n 1 d_Mo_runsOf_65 rfl ?_
  refine zo_getR 69 zkd_11 3 d_Mo_runsOf_66 eb_1 rfl tw_1234 rfl ?_
  refine zi_iconst 5 d_Mo_runsOf_69 rfl ?_
  obtain ⟨v_9, ev_9, h⟩ := zbind h
  refine zo_iald 71 d_Mo_runsOf_70 ev_9 rfl ?_
  refine zi_imul d_Mo_runsOf_71 ?_
  refine zi_i2l d_Mo_runsOf_72 ?_
  obtain ⟨q_10, eq_10, h⟩ := zbind h
  refine zo_virt (k' := 0) (n' := 0) 76 [.int 0, .int x3, .long ((v_2 * v_9).toInt64)] [] [.long q_10.1] zkd_11 (zgR_s eb_1).1 (C_Mo_tells n E S a0 0 x3 ((v_2 * v_9).toInt64) m_8 q_10.1 q_10.2 eq_10) d_Mo_runsOf_73 tw_1453 tw_1450 tw_1452 ts_40 tw_13 dd_Mo_tells ⟨Nat.le_of_ble_eq_true rfl, Nat.le_of_ble_eq_true rfl, Nat.le_of_ble_eq_true rfl, Nat.le_of_ble_eq_true rfl⟩ (Nat.le_of_ble_eq_true rfl) rfl rfl rfl rfl ?_
  refine zi_iconst 0 d_Mo_runsOf_76 rfl ?_
  refine zi_bipush 99 d_Mo_runsOf_77 rfl ?_
  obtain ⟨q_11, eq_11, h⟩ := zbind h
  refine zo_stat (k' := 0) (n' := 0) 82 [.long q_10.1, .int 0, .int 99] [] [.int q_11.1] (C_Mo_within n E S q_10.1 0 99 q_10.2 q_11.1 q_11.2 eq_11) d_Mo_runsOf_79 tw_1474 tw_1472 tw_1473 tw_13 dd_Mo_within ⟨Nat.le_of_ble_eq_true rfl, Nat.le_of_ble_eq_true rfl, Nat.le_of_ble_eq_true rfl, Nat.le_of_ble_eq_true rfl⟩ (Nat.le_of_ble_eq_true rfl) rfl rfl rfl rfl ?_
  cases h
  exact zo_ret d_Mo_runsOf_82 (Nat.le_of_ble_eq_true rfl) (Nat.le_of_ble_eq_true rfl) rfl
theorem C_Mo_runsOf (n : Nat) (E : zE) (S : zS) (a0 : Nat) (x1 : Int32) (x2 : Int32) (x3 : Int32) (M : zH) (r : Int32) (M' : zH) (h : F_Mo_runsOf n E S a0 x1 x2 x3 M = some (r, M')) : zC E Y_Mo_runsOf [.ref a0, .int x1, .int x2, .int x3] S M (some (.int r), S, M') :=
  zC.of (Or.inl (show plainName "NightColanderModel" = true by decide)) (Nat.le_of_ble_eq_true rfl) (trivial) (K_Mo_runsOf n E S a0 x1 x2 x3 M r M' h)
theorem d_Mo_hole_0 : decode (yB Y_Mo_hole) 0 = .ok (.aload_n 0, 1) := by decide +kernel
theorem d_Mo_hole_1 : decode (yB Y_Mo_hole) 1 = .ok (.iconst 0, 1) := by decide +kernel
theorem d_Mo_hole_2 : decode (yB Y_Mo_hole) 2 = .ok (.putfield 156, 3) := by decide +kernel
theorem d_Mo_hole_5 : decode (yB Y_Mo_hole) 5 = .ok (.iload_n 1, 1) := by decide +kernel
theorem d_Mo_hole_6 : decode (yB Y_Mo_hole) 6 = .ok (.invokestatic 190, 3) := by decide +kernel
theorem d_Mo_hole_9 : decode (yB Y_Mo_hole) 9 = .ok (.ifCond .eq 10, 3) := by decide +kernel
theorem d_Mo_hole_12 : decode (yB Y_Mo_hole) 12 = .ok (.iload_n 2, 1) := by decide +kernel
theorem d_Mo_hole_13 : decode (yB Y_Mo_hole) 13 = .ok (.invokestatic 194, 3) := by decide +kernel
theorem d_Mo_hole_16 : decode (yB Y_Mo_hole) 16 = .ok (.ifCond .ne 5, 3) := by decide +kernel
theorem d_Mo_hole_19 : decode (yB Y_Mo_hole) 19 = .ok (.iconst (-1), 1) := by decide +kernel
theorem d_Mo_hole_20 : decode (yB Y_Mo_hole) 20 = .ok (.ireturn, 1) := by decide +kernel
theorem d_Mo_hole_21 : decode (yB Y_Mo_hole) 21 = .ok (.iload_n 2, 1) := by decide +kernel
theorem d_Mo_hole_22 : decode (yB Y_Mo_hole) 22 = .ok (.aload_n 0, 1) := by decide +kernel
theorem d_Mo_hole_23 : decode (yB Y_Mo_hole) 23 = .ok (.getfield 13, 3) := by decide +kernel
theorem d_Mo_hole_26 : decode (yB Y_Mo_hole) 26 = .ok (.bipush 8, 2) := by decide +kernel
theorem d_Mo_hole_28 : decode (yB Y_Mo_hole) 28 = .ok (.iload_n 1, 1) := by decide +kernel
theorem d_Mo_hole_29 : decode (yB Y_Mo_hole) 29 = .ok (.iadd, 1) := by decide +kernel
theorem d_Mo_hole_30 : decode (yB Y_Mo_hole) 30 = .ok (.iaload, 1) := by decide +kernel
theorem d_Mo_hole_31 : decode (yB Y_Mo_hole) 31 = .ok (.iadd, 1) := by decide +kernel
theorem d_Mo_hole_32 : decode (yB Y_Mo_hole) 32 = .ok (.bipush 8, 2) := by decide +kernel
theorem d_Mo_hole_34 : decode (yB Y_Mo_hole) 34 = .ok (.irem, 1) := by decide +kernel
theorem d_Mo_hole_35 : decode (yB Y_Mo_hole) 35 = .ok (.istore 4, 2) := by decide +kernel
theorem d_Mo_hole_37 : decode (yB Y_Mo_hole) 37 = .ok (.aload_n 0, 1) := by decide +kernel
theorem d_Mo_hole_38 : decode (yB Y_Mo_hole) 38 = .ok (.getfield 13, 3) := by decide +kernel
theorem d_Mo_hole_41 : decode (yB Y_Mo_hole) 41 = .ok (.bipush 44, 2) := by decide +kernel
theorem d_Mo_hole_43 : decode (yB Y_Mo_hole) 43 = .ok (.iload_n 1, 1) := by decide +kernel
theorem d_Mo_hole_44 : decode (yB Y_Mo_hole) 44 = .ok (.iadd, 1) := by decide +kernel
theorem d_Mo_hole_45 : decode (yB Y_Mo_hole) 45 = .ok (.iaload, 1) := by decide +kernel
theorem d_Mo_hole_46 : decode (yB Y_Mo_hole) 46 = .ok (.iload_n 2, 1) := by decide +kernel
theorem d_Mo_hole_47 : decode (yB Y_Mo_hole) 47 = .ok (.invokestatic 197, 3) := by decide +kernel
theorem d_Mo_hole_50 : decode (yB Y_Mo_hole) 50 = .ok (.istore 5, 2) := by decide +kernel
theorem d_Mo_hole_52 : decode (yB Y_Mo_hole) 52 = .ok (.iload_n 3, 1) := by decide +kernel
theorem d_Mo_hole_53 : decode (yB Y_Mo_hole) 53 = .ok (.tableswitch 78 0 3 #[31, 46, 57, 60], 31) := by decide +kernel
theorem d_Mo_hole_84 : decode (yB Y_Mo_hole) 84 = .ok (.aload_n 0, 1) := by decide +kernel
theorem d_Mo_hole_85 : decode (yB Y_Mo_hole) 85 = .ok (.getfield 13, 3) := by decide +kernel
theorem d_Mo_hole_88 : decode (yB Y_Mo_hole) 88 = .ok (.bipush 12, 2) := by decide +kernel
theorem d_Mo_hole_90 : decode (yB Y_Mo_hole) 90 = .ok (.bipush 8, 2) := by decide +kernel
theorem d_Mo_hole_92 : decode (yB Y_Mo_hole) 92 = .ok (.iload_n 1, 1) := by decide +kernel
theorem d_Mo_hole_93 : decode (yB Y_Mo_hole) 93 = .ok (.imul, 1) := by decide +kernel
theorem d_Mo_hole_94 : decode (yB Y_Mo_hole) 94 = .ok (.iadd, 1) := by decide +kernel
theorem d_Mo_hole_95 : decode (yB Y_Mo_hole) 95 = .ok (.iload_n 2, 1) := by decide +kernel
theorem d_Mo_hole_96 : decode (yB Y_Mo_hole) 96 = .ok (.iadd, 1) := by decide +kernel
theorem d_Mo_hole_97 : decode (yB Y_Mo_hole) 97 = .ok (.iaload, 1) := by decide +kernel
theorem d_Mo_hole_98 : decode (yB Y_Mo_hole) 98 = .ok (.ireturn, 1) := by decide +kernel
theorem d_Mo_hole_99 : decode (yB Y_Mo_hole) 99 = .ok (.iload 5, 2) := by decide +kernel
theorem d_Mo_hole_101 : decode (yB Y_Mo_hole) 101 = .ok (.ifCond .eq 7, 3) := by decide +kernel
theorem d_Mo_hole_104 : decode (yB Y_Mo_hole) 104 = .ok (.iconst 1, 1) := by decide +kernel
theorem d_Mo_hole_105 : decode (yB Y_Mo_hole) 105 = .ok (.goto 4, 3) := by decide +kernel
theorem d_Mo_hole_108 : decode (yB Y_Mo_hole) 108 = .ok (.iconst 0, 1) := by decide +kernel
theorem d_Mo_hole_109 : decode (yB Y_Mo_hole) 109 = .ok (.ireturn, 1) := by decide +kernel
theorem d_Mo_hole_110 : decode (yB Y_Mo_hole) 110 = .ok (.iload 4, 2) := by decide +kernel
theorem d_Mo_hole_112 : decode (yB Y_Mo_hole) 112 = .ok (.ireturn, 1) := by decide +kernel
theorem d_Mo_hole_113 : decode (yB Y_Mo_hole) 113 = .ok (.iload 5, 2) := by decide +kernel
theorem d_Mo_hole_115 : decode (yB Y_Mo_hole) 115 = .ok (.ifCond .eq 7, 3) := by decide +kernel
theorem d_Mo_hole_118 : decode (yB Y_Mo_hole) 118 = .ok (.iconst 0, 1) := by decide +kernel
theorem d_Mo_hole_119 : decode (yB Y_Mo_hole) 119 = .ok (.goto 11, 3) := by decide +kernel
theorem d_Mo_hole_122 : decode (yB Y_Mo_hole) 122 = .ok (.aload_n 0, 1) := by decide +kernel
theorem d_Mo_hole_123 : decode (yB Y_Mo_hole) 123 = .ok (.iload_n 1, 1) := by decide +kernel
theorem d_Mo_hole_124 : decode (yB Y_Mo_hole) 124 = .ok (.iload_n 2, 1) := by decide +kernel
theorem d_Mo_hole_125 : decode (yB Y_Mo_hole) 125 = .ok (.iload 4, 2) := by decide +kernel
theorem d_Mo_hole_127 : decode (yB Y_Mo_hole) 127 = .ok (.invokevirtual 201, 3) := by decide +kernel
theorem d_Mo_hole_130 : decode (yB Y_Mo_hole) 130 = .ok (.ireturn, 1) := by decide +kernel
theorem d_Mo_hole_131 : decode (yB Y_Mo_hole) 131 = .ok (.iconst (-1), 1) := by decide +kernel
theorem d_Mo_hole_132 : decode (yB Y_Mo_hole) 132 = .ok (.ireturn, 1) := by decide +kernel
def F_Mo_hole (n : Nat) (E : zE) (S : zS) (a0 : Nat) (x1 : Int32) (x2 : Int32) (x3 : Int32) (M : zH) : Option (Int32 × zH) :=
  (zpI S M a0 11 0 0).bind fun m_1 =>
  (F_Mo_isRing n E S x1 m_1).bind fun q_2 =>
  if q_2.1 = true then
    (F_Mo_isField n E S x2 q_2.2).bind fun q_4 =>
    if q_4.1 = true then
      (zgR S a0 11 3).bind fun b_6 =>
      (zldI S q_4.2 b_6 (8 + x1)).bind fun v_7 =>
      (zremI (x2 + v_7) 8).bind fun v_8 =>
      (zldI S q_4.2 b_6 (44 + x1)).bind fun v_9 =>
      (F_Mo_is n E S v_9 x2 q_4.2).bind fun q_10 =>
      if x3 = 0 then
        (zldI S q_10.2 b_6 ((12 + (8 * x1)) + x2)).bind fun v_12 =>
        some (v_12, q_10.2)
      else
      if x3 = 1 then
        if (bI q_10.1) = 0 then
          some (0, q_10.2)
        else
          some (1, q_10.2)
      else
      if x3 = 2 then
        some (v_8, q_10.2)
      else
      if x3 = 3 then
        if (bI q_10.1) = 0 then
          (F_Mo_runsOf n E S a0 x1 x2 v_8 q_10.2).bind fun q_18 =>
          some (q_18.1, q_18.2)
        else
          some (0, q_10.2)
      else
        some ((-1), q_10.2)
    else
      some ((-1), q_4.2)
  else
    some ((-1), q_2.2)
theorem K_Mo_hole (n : Nat) (E : zE) (S : zS) (a0 : Nat) (x1 : Int32) (x2 : Int32) (x3 : Int32) (M : zH) (r : Int32) (M' : zH)  (h : F_Mo_hole n E S a0 x1 x2 x3 M = some (r, M')) : zG E Y_Mo_hole (some (.int r), S, M') 0 [(0, .ref a0), (1, .int x1), (2, .int x2), (3, .int x3)] [] S M 0 0 := by
  unfold F_Mo_hole at h
  refine zi_aload_n 0 d_Mo_hole_0 rfl ?_
  refine zi_iconst 0 d_Mo_hole_1 rfl ?_
  obtain ⟨m_1, em_1, h⟩ := zbind h
  refine zo_putI 5 zkd_11 0 d_Mo_hole_2 em_1 rfl rfl rfl tw_1231 rfl ?_
  refine zi_iload_n 1 d_Mo_hole_5 rfl ?_
  obtain ⟨q_2, eq_2, h⟩ := zbind h
  refine zo_stat (k' := 0) (n' := 0) 9 [.int x1] [] [.int (bI q_2.1)] (C_Mo_isRing n E S x1 m_1 q_2.1 q_2.2 eq_2) d_Mo_hole_6 tw_1436 tw_1434 tw_1435 tw_13 dd_Mo_isRing ⟨Nat.le_of_ble_eq_true rfl, Nat.le_of_ble_eq_true rfl, Nat.le_of_ble_eq_true rfl, Nat.le_of_ble_eq_true rfl⟩ (Nat.le_of_ble_eq_true rfl) rfl rfl rfl rfl ?_
  refine zo_ifeqB d_Mo_hole_9 rfl 12 rfl (fun c_3 => ?_) (fun c_3 => ?_)
  · rw [if_neg c_3] at h
    refine zi_iconst (-1) d_Mo_hole_19 rfl ?_
    cases h
    exact zo_ret d_Mo_hole_20 (Nat.le_of_ble_eq_true rfl) (Nat.le_of_ble_eq_true rfl) rfl
  · rw [if_pos c_3] at h
    refine zi_iload_n 2 d_Mo_hole_12 rfl ?_
    obtain ⟨q_4, eq_4, h⟩ := zbind h
    refine zo_stat (k' := 0) (n' := 0) 16 [.int x2] [] [.int (bI q_4.1)] (C_Mo_isField n E S x2 q_2.2 q_4.1 q_4.2 eq_4) d_Mo_hole_13 tw_1440 tw_1438 tw_1439 tw_13 dd_Mo_isField ⟨Nat.le_of_ble_eq_true rfl, Nat.le_of_ble_eq_true rfl, Nat.le_of_ble_eq_true rfl, Nat.le_of_ble_eq_true rfl⟩ (Nat.le_of_ble_eq_true rfl) rfl rfl rfl rfl ?_
    refine zo_ifneB d_Mo_hole_16 rfl 19 rfl (fun c_5 => ?_) (fun c_5 => ?_)
    · rw [if_pos c_5] at h
      refine zi_iload_n 2 d_Mo_hole_21 rfl ?_
      refine zi_aload_n 0 d_Mo_hole_22 rfl ?_
      obtain ⟨b_6, eb_6, h⟩ := zbind h
      refine zo_getR 26 zkd_11 3 d_Mo_hole_23 eb_6 rfl tw_1234 rfl ?_
      refine zi_bipush 8 d_Mo_hole_26 rfl ?_
      refine zi_iload_n 1 d_Mo_hole_28 rfl ?_
      refine zi_iadd d_Mo_hole_29 ?_
      obtain ⟨v_7, ev_7, h⟩ := zbind h
      refine zo_iald 31 d_Mo_hole_30 ev_7 rfl ?_
      refine zi_iadd d_Mo_hole_31 ?_
      refine zi_bipush 8 d_Mo_hole_32 rfl ?_
      obtain ⟨v_8, ev_8, h⟩ := zbind h
      refine zo_irem 35 d_Mo_hole_34 ev_8 rfl ?_
      refine zi_istore [(4, .int v_8), (0, .ref a0), (1, .int x1), (2, .int x2), (3, .int x3)] d_Mo_hole_35 (by decide) rfl ?_
      refine zi_aload_n 1 d_Mo_hole_37 rfl ?_
      refine zo_getR 41 zkd_11 3 d_Mo_hole_38 eb_6 rfl tw_1234 rfl ?_
      refine zi_bipush 44 d_Mo_hole_41 rfl ?_
      refine zi_iload_n 2 d_Mo_hole_43 rfl ?_
      refine zi_iadd d_Mo_hole_44 ?_
      obtain ⟨v_9, ev_9, h⟩ := zbind h
      refine zo_iald 46 d_Mo_hole_45 ev_9 rfl ?_
      refine zi_iload_n 3 d_Mo_hole_46 rfl ?_
      obtain ⟨q_10, eq_10, h⟩ := zbind h
      refine zo_stat (k' := 0) (n' := 0) 50 [.int v_9, .int x2] [] [.int (bI q_10.1)] (C_Mo_is n E S v_9 x2 q_4.2 q_10.1 q_10.2 eq_10) d_Mo_hole_47 tw_1444 tw_1442 tw_1443 tw_13 dd_Mo_is ⟨Nat.le_of_ble_eq_true rfl, Nat.le_of_ble_eq_true rfl, Nat.le_of_ble_eq_true rfl, Nat.le_of_ble_eq_true rfl⟩ (Nat.le_of_ble_eq_true rfl) rfl rfl rfl rfl ?_
      refine zi_istore [(5, .int (bI q_10.1)), (4, .int v_8), (0, .ref a0), (1, .int x1), (2, .int x2), (3, .int x3)] d_Mo_hole_50 (by decide) rfl ?_
      refine zi_iload_n 5 d_Mo_hole_52 rfl ?_
      by_cases c_11 : x3 = 0
      · rw [if_pos c_11] at h
        refine zo_tab (tgt := 84) 0 d_Mo_hole_53 c_11 (by decide) (by decide) rfl rfl ?_
        refine zi_aload_n 2 d_Mo_hole_84 rfl ?_
        refine zo_getR 88 zkd_11 3 d_Mo_hole_85 eb_6 rfl tw_1234 rfl ?_
        refine zi_bipush 12 d_Mo_hole_88 rfl ?_
        refine zi_bipush 8 d_Mo_hole_90 rfl ?_
        refine zi_iload_n 3 d_Mo_hole_92 rfl ?_
        refine zi_imul d_Mo_hole_93 ?_
        refine zi_iadd d_Mo_hole_94 ?_
        refine zi_iload_n 4 d_Mo_hole_95 rfl ?_
        refine zi_iadd d_Mo_hole_96 ?_
        obtain ⟨v_12, ev_12, h⟩ := zbind h
        refine zo_iald 98 d_Mo_hole_97 ev_12 rfl ?_
        cases h
        exact zo_ret d_Mo_hole_98 (Nat.le_of_ble_eq_true rfl) (Nat.le_of_ble_eq_true rfl) rfl
      rw [if_neg c_11] at h
      by_cases c_13 : x3 = 1
      · rw [if_pos c_13] at h
        refine zo_tab (tgt := 99) 1 d_Mo_hole_53 c_13 (by decide) (by decide) rfl rfl ?_
        refine zi_iload 0 d_Mo_hole_99 rfl ?_
        refine zi_if_eq (tgt := 108) d_Mo_hole_101 rfl (fun c_14 => ?_) (fun c_14 => ?_)
        · rw [if_pos c_14] at h
          refine zi_iconst 0 d_Mo_hole_108 rfl ?_
          cases h
          exact zo_ret d_Mo_hole_109 (Nat.le_of_ble_eq_true rfl) (Nat.le_of_ble_eq_true rfl) rfl
        · rw [if_neg c_14] at h
          refine zi_iconst 1 d_Mo_hole_104 rfl ?_
          refine zi_goto (tgt := 109) d_Mo_hole_105 rfl ?_
          cases h
          exact zo_ret d_Mo_hole_109 (Nat.le_of_ble_eq_true rfl) (Nat.le_of_ble_eq_true rfl) rfl
      rw [if_neg c_13] at h
      by_cases c_15 : x3 = 2
      · rw [if_pos c_15] at h
        refine zo_tab (tgt := 110) 2 d_Mo_hole_53 c_15 (by decide) (by decide) rfl rfl ?_
        refine zi_iload 1 d_Mo_hole_110 rfl ?_
        cases h
        exact zo_ret d_Mo_hole_112 (Nat.le_of_ble_eq_true rfl) (Nat.le_of_ble_eq_true rfl) rfl
      rw [if_neg c_15] at h
      by_cases c_16 : x3 = 3
      · rw [if_pos c_16] at h
        refine zo_tab (tgt := 113) 3 d_Mo_hole_53 c_16 (by decide) (by decide) rfl rfl ?_
        refine zi_iload 0 d_Mo_hole_113 rfl ?_
        refine zi_if_eq (tgt := 122) d_Mo_hole_115 rfl (fun c_17 => ?_) (fun c_17 => ?_)
        · rw [if_pos c_17] at h
          refine zi_aload_n 2 d_Mo_hole_122 rfl ?_
          refine zi_iload_n 3 d_Mo_hole_123 rfl ?_
          refine zi_iload_n 4 d_Mo_hole_124 rfl ?_
          refine zi_iload 1 d_Mo_hole_125 rfl ?_
          obtain ⟨q_18, eq_18, h⟩ := zbind h
          refine zo_virt (k' := 0) (n' := 0) 130 [.int x1, .int x2, .int v_8] [] [.int q_18.1] zkd_11 (zgR_s eb_6).1 (C_Mo_runsOf n E S a0 x1 x2 v_8 q_10.2 q_18.1 q_18.2 eq_18) d_Mo_hole_127 tw_1448 tw_1445 tw_1447 ts_39 tw_13 dd_Mo_runsOf ⟨Nat.le_of_ble_eq_true rfl, Nat.le_of_ble_eq_true rfl, Nat.le_of_ble_eq_true rfl, Nat.le_of_ble_eq_true rfl⟩ (Nat.le_of_ble_eq_true rfl) rfl rfl rfl rfl ?_
          cases h
          exact zo_ret d_Mo_hole_130 (Nat.le_of_ble_eq_true rfl) (Nat.le_of_ble_eq_true rfl) rfl
        · rw [if_neg c_17] at h
          refine zi_iconst 0 d_Mo_hole_118 rfl ?_
          refine zi_goto (tgt := 130) d_Mo_hole_119 rfl ?_
          cases h
          exact zo_ret d_Mo_hole_130 (Nat.le_of_ble_eq_true rfl) (Nat.le_of_ble_eq_true rfl) rfl
      rw [if_neg c_16] at h
      refine zo_tabP (tgt := 131) 0 4 d_Mo_hole_53 rfl rfl (fun j hj => by match j, hj with | 0, _ => exact c_11  | 1, _ => exact c_13  | 2, _ => exact c_15  | 3, _ => exact c_16 | j + 4, hj => exact absurd hj (by omega)) rfl ?_
      refine zi_iconst (-1) d_Mo_hole_131 rfl ?_
      cases h
      exact zo_ret d_Mo_hole_132 (Nat.le_of_ble_eq_true rfl) (Nat.le_of_ble_eq_true rfl) rfl
    · rw [if_neg c_5] at h
      refine zi_iconst (-1) d_Mo_hole_19 rfl ?_
      cases h
      exact zo_ret d_Mo_hole_20 (Nat.le_of_ble_eq_true rfl) (Nat.le_of_ble_eq_true rfl) rfl
theorem C_Mo_hole (n : Nat) (E : zE) (S : zS) (a0 : Nat) (x1 : Int32) (x2 : Int32) (x3 : Int32) (M : zH) (r : Int32) (M' : zH) (h : F_Mo_hole n E S a0 x1 x2 x3 M = some (r, M')) : zC E Y_Mo_hole [.ref a0, .int x1, .int x2, .int x3] S M (some (.int r), S, M') :=
  zC.of (Or.inl (show plainName "NightColanderModel" = true by decide)) (Nat.le_of_ble_eq_true rfl) (trivial) (K_Mo_hole n E S a0 x1 x2 x3 M r M' h)
theorem d_Mo_change_0 : decode (yB Y_Mo_change) 0 = .ok (.aload_n 0, 1) := by decide +kernel
theorem d_Mo_change_1 : decode (yB Y_Mo_change) 1 = .ok (.getfield 13, 3) := by decide +kernel
theorem d_Mo_change_4 : decode (yB Y_Mo_change) 4 = .ok (.iload_n 1, 1) := by decide +kernel
theorem d_Mo_change_5 : decode (yB Y_Mo_change) 5 = .ok (.iaload, 1) := by decide +kernel
theorem d_Mo_change_6 : decode (yB Y_Mo_change) 6 = .ok (.istore_n 3, 1) := by decide +kernel
theorem d_Mo_change_7 : decode (yB Y_Mo_change) 7 = .ok (.aload_n 0, 1) := by decide +kernel
theorem d_Mo_change_8 : decode (yB Y_Mo_change) 8 = .ok (.getfield 13, 3) := by decide +kernel
theorem d_Mo_change_11 : decode (yB Y_Mo_change) 11 = .ok (.iload_n 1, 1) := by decide +kernel
theorem d_Mo_change_12 : decode (yB Y_Mo_change) 12 = .ok (.iload_n 2, 1) := by decide +kernel
theorem d_Mo_change_13 : decode (yB Y_Mo_change) 13 = .ok (.iastore, 1) := by decide +kernel
theorem d_Mo_change_14 : decode (yB Y_Mo_change) 14 = .ok (.aload_n 0, 1) := by decide +kernel
theorem d_Mo_change_15 : decode (yB Y_Mo_change) 15 = .ok (.iconst 0, 1) := by decide +kernel
theorem d_Mo_change_16 : decode (yB Y_Mo_change) 16 = .ok (.putfield 159, 3) := by decide +kernel
theorem d_Mo_change_19 : decode (yB Y_Mo_change) 19 = .ok (.iload_n 3, 1) := by decide +kernel
theorem d_Mo_change_20 : decode (yB Y_Mo_change) 20 = .ok (.ireturn, 1) := by decide +kernel
def F_Mo_change (n : Nat) (E : zE) (S : zS) (a0 : Nat) (x1 : Int32) (x2 : Int32) (M : zH) : Option (Int32 × zH) :=
  (zgR S a0 11 3).bind fun b_1 =>
  (zldI S M b_1 x1).bind fun v_2 =>
  (zstI S M b_1 x1 x2).bind fun m_3 =>
  (zpI S m_3 a0 11 1 0).bind fun m_4 =>
  some (v_2, m_4)
theorem K_Mo_change (n : Nat) (E : zE) (S : zS) (a0 : Nat) (x1 : Int32) (x2 : Int32) (M : zH) (r : Int32) (M' : zH)  (h : F_Mo_change n E S a0 x1 x2 M = some (r, M')) : zG E Y_Mo_change (some (.int r), S, M') 0 [(0, .ref a0), (1, .int x1), (2, .int x2)] [] S M 0 0 := by
  unfold F_Mo_change at h
  refine zi_aload_n 0 d_Mo_change_0 rfl ?_
  obtain ⟨b_1, eb_1, h⟩ := zbind h
  refine zo_getR 4 zkd_11 3 d_Mo_change_1 eb_1 rfl tw_1234 rfl ?_
  refine zi_iload_n 1 d_Mo_change_4 rfl ?_
  obtain ⟨v_2, ev_2, h⟩ := zbind h
  refine zo_iald 6 d_Mo_change_5 ev_2 rfl ?_
  refine zi_istore_n [(3, .int v_2), (0, .ref a0), (1, .int x1), (2, .int x2)] d_Mo_change_6 (by decide) rfl ?_
  refine zi_aload_n 1 d_Mo_change_7 rfl ?_
  refine zo_getR 11 zkd_11 3 d_Mo_change_8 eb_1 rfl tw_1234 rfl ?_
  refine zi_iload_n 2 d_Mo_change_11 rfl ?_
  refine zi_iload_n 3 d_Mo_change_12 rfl ?_
  obtain ⟨m_3, em_3, h⟩ := zbind h
  refine zo_iast 14 d_Mo_change_13 em_3 rfl ?_
  refine zi_aload_n 1 d_Mo_change_14 rfl ?_
  refine zi_iconst 0 d_Mo_change_15 rfl ?_
  obtain ⟨m_4, em_4, h⟩ := zbind h
  refine zo_putI 19 zkd_11 1 d_Mo_change_16 em_4 rfl rfl rfl tw_1232 rfl ?_
  refine zi_iload_n 0 d_Mo_change_19 rfl ?_
  cases h
  exact zo_ret d_Mo_change_20 (Nat.le_of_ble_eq_true rfl) (Nat.le_of_ble_eq_true rfl) rfl
theorem C_Mo_change (n : Nat) (E : zE) (S : zS) (a0 : Nat) (x1 : Int32) (x2 : Int32) (M : zH) (r : Int32) (M' : zH) (h : F_Mo_change n E S a0 x1 x2 M = some (r, M')) : zC E Y_Mo_change [.ref a0, .int x1, .int x2] S M (some (.int r), S, M') :=
  zC.of (Or.inl (show plainName "NightColanderModel" = true by decide)) (Nat.le_of_ble_eq_true rfl) (trivial) (K_Mo_change n E S a0 x1 x2 M r M' h)
theorem d_Mo_turn_0 : decode (yB Y_Mo_turn) 0 = .ok (.aload_n 0, 1) := by decide +kernel
theorem d_Mo_turn_1 : decode (yB Y_Mo_turn) 1 = .ok (.iconst 0, 1) := by decide +kernel
theorem d_Mo_turn_2 : decode (yB Y_Mo_turn) 2 = .ok (.putfield 156, 3) := by decide +kernel
theorem d_Mo_turn_5 : decode (yB Y_Mo_turn) 5 = .ok (.iload_n 1, 1) := by decide +kernel
theorem d_Mo_turn_6 : decode (yB Y_Mo_turn) 6 = .ok (.invokestatic 190, 3) := by decide +kernel
theorem d_Mo_turn_9 : decode (yB Y_Mo_turn) 9 = .ok (.ifCond .eq 10, 3) := by decide +kernel
theorem d_Mo_turn_12 : decode (yB Y_Mo_turn) 12 = .ok (.iload_n 2, 1) := by decide +kernel
theorem d_Mo_turn_13 : decode (yB Y_Mo_turn) 13 = .ok (.invokestatic 194, 3) := by decide +kernel
theorem d_Mo_turn_16 : decode (yB Y_Mo_turn) 16 = .ok (.ifCond .ne 9, 3) := by decide +kernel
theorem d_Mo_turn_19 : decode (yB Y_Mo_turn) 19 = .ok (.aload_n 0, 1) := by decide +kernel
theorem d_Mo_turn_20 : decode (yB Y_Mo_turn) 20 = .ok (.iconst (-1), 1) := by decide +kernel
theorem d_Mo_turn_21 : decode (yB Y_Mo_turn) 21 = .ok (.invokevirtual 165, 3) := by decide +kernel
theorem d_Mo_turn_24 : decode (yB Y_Mo_turn) 24 = .ok (.ireturn, 1) := by decide +kernel
theorem d_Mo_turn_25 : decode (yB Y_Mo_turn) 25 = .ok (.aload_n 0, 1) := by decide +kernel
theorem d_Mo_turn_26 : decode (yB Y_Mo_turn) 26 = .ok (.iconst 0, 1) := by decide +kernel
theorem d_Mo_turn_27 : decode (yB Y_Mo_turn) 27 = .ok (.putfield 162, 3) := by decide +kernel
theorem d_Mo_turn_30 : decode (yB Y_Mo_turn) 30 = .ok (.aload_n 0, 1) := by decide +kernel
theorem d_Mo_turn_31 : decode (yB Y_Mo_turn) 31 = .ok (.bipush 8, 2) := by decide +kernel
theorem d_Mo_turn_33 : decode (yB Y_Mo_turn) 33 = .ok (.iload_n 1, 1) := by decide +kernel
theorem d_Mo_turn_34 : decode (yB Y_Mo_turn) 34 = .ok (.iadd, 1) := by decide +kernel
theorem d_Mo_turn_35 : decode (yB Y_Mo_turn) 35 = .ok (.iload_n 2, 1) := by decide +kernel
theorem d_Mo_turn_36 : decode (yB Y_Mo_turn) 36 = .ok (.invokevirtual 205, 3) := by decide +kernel
theorem d_Mo_turn_39 : decode (yB Y_Mo_turn) 39 = .ok (.ireturn, 1) := by decide +kernel
def F_Mo_turn_b19 (n : Nat) (E : zE) (S : zS) (a0 : Nat) (M : zH) : Option (Int32 × zH) :=
  (zck S a0 11).bind fun u_1 =>
  (F_Mo_tell n E S a0 (-1) M).bind fun q_2 =>
  some (q_2.1, q_2.2)
def F_Mo_turn (n : Nat) (E : zE) (S : zS) (a0 : Nat) (x1 : Int32) (x2 : Int32) (M : zH) : Option (Int32 × zH) :=
  (zpI S M a0 11 0 0).bind fun m_3 =>
  (F_Mo_isRing n E S x1 m_3).bind fun q_4 =>
  if q_4.1 = true then
    (F_Mo_isField n E S x2 q_4.2).bind fun q_6 =>
    if q_6.1 = true then
      (zpI S q_6.2 a0 11 8 0).bind fun m_8 =>
      (zck S a0 11).bind fun u_9 =>
      (F_Mo_change n E S a0 (8 + x1) x2 m_8).bind fun q_10 =>
      some (q_10.1, q_10.2)
    else
      F_Mo_turn_b19 n E S a0 q_6.2
  else
    F_Mo_turn_b19 n E S a0 q_4.2
theorem K_Mo_turn_b19 (n : Nat) (E : zE) (S : zS) (a0 : Nat) (M : zH) (r : Int32) (M' : zH)  (h : F_Mo_turn_b19 n E S a0 M = some (r, M')) : zG E Y_Mo_turn (some (.int r), S, M') 19 [(0, .ref a0)] [] S M 0 0 := by
  unfold F_Mo_turn_b19 at h
  refine zi_aload_n 0 d_Mo_turn_19 rfl ?_
  refine zi_iconst (-1) d_Mo_turn_20 rfl ?_
  obtain ⟨u_1, eu_1, h⟩ := zbind h
  obtain ⟨q_2, eq_2, h⟩ := zbind h
  refine zo_virt (k' := 0) (n' := 0) 24 [.int (-1)] [] [.int q_2.1] zkd_11 (zck_s eu_1) (C_Mo_tell n E S a0 (-1) M q_2.1 q_2.2 eq_2) d_Mo_turn_21 tw_1410 tw_1407 tw_1409 ts_36 tw_13 dd_Mo_tell ⟨Nat.le_of_ble_eq_true rfl, Nat.le_of_ble_eq_true rfl, Nat.le_of_ble_eq_true rfl, Nat.le_of_ble_eq_true rfl⟩ (Nat.le_of_ble_eq_true rfl) rfl rfl rfl rfl ?_
  cases h
  exact zo_ret d_Mo_turn_24 (Nat.le_of_ble_eq_true rfl) (Nat.le_of_ble_eq_true rfl) rfl
theorem K_Mo_turn (n : Nat) (E : zE) (S : zS) (a0 : Nat) (x1 : Int32) (x2 : Int32) (M : zH) (r : Int32) (M' : zH)  (h : F_Mo_turn n E S a0 x1 x2 M = some (r, M')) : zG E Y_Mo_turn (some (.int r), S, M') 0 [(0, .ref a0), (1, .int x1), (2, .int x2)] [] S M 0 0 := by
  unfold F_Mo_turn at h
  refine zi_aload_n 0 d_Mo_turn_0 rfl ?_
  refine zi_iconst 0 d_Mo_turn_1 rfl ?_
  obtain ⟨m_3, em_3, h⟩ := zbind h
  refine zo_putI 5 zkd_11 0 d_Mo_turn_2 em_3 rfl rfl rfl tw_1231 rfl ?_
  refine zi_iload_n 1 d_Mo_turn_5 rfl ?_
  obtain ⟨q_4, eq_4, h⟩ := zbind h
  refine zo_stat (k' := 0) (n' := 0) 9 [.int x1] [] [.int (bI q_4.1)] (C_Mo_isRing n E S x1 m_3 q_4.1 q_4.2 eq_4) d_Mo_turn_6 tw_1436 tw_1434 tw_1435 tw_13 dd_Mo_isRing ⟨Nat.le_of_ble_eq_true rfl, Nat.le_of_ble_eq_true rfl, Nat.le_of_ble_eq_true rfl, Nat.le_of_ble_eq_true rfl⟩ (Nat.le_of_ble_eq_true rfl) rfl rfl rfl rfl ?_
  refine zo_ifeqB d_Mo_turn_9 rfl 12 rfl (fun c_5 => ?_) (fun c_5 => ?_)
  · rw [if_neg c_5] at h
    refine zi_lo [(0, .ref a0)] [0] rfl ?_
    exact K_Mo_turn_b19 n E S a0 q_4.2 r M'  h
  · rw [if_pos c_5] at h
    refine zi_iload_n 2 d_Mo_turn_12 rfl ?_
    obtain ⟨q_6, eq_6, h⟩ := zbind h
    refine zo_stat (k' := 0) (n' := 0) 16 [.int x2] [] [.int (bI q_6.1)] (C_Mo_isField n E S x2 q_4.2 q_6.1 q_6.2 eq_6) d_Mo_turn_13 tw_1440 tw_1438 tw_1439 tw_13 dd_Mo_isField ⟨Nat.le_of_ble_eq_true rfl, Nat.le_of_ble_eq_true rfl, Nat.le_of_ble_eq_true rfl, Nat.le_of_ble_eq_true rfl⟩ (Nat.le_of_ble_eq_true rfl) rfl rfl rfl rfl ?_
    refine zo_ifneB d_Mo_turn_16 rfl 19 rfl (fun c_7 => ?_) (fun c_7 => ?_)
    · rw [if_pos c_7] at h
      refine zi_aload_n 0 d_Mo_turn_25 rfl ?_
      refine zi_iconst 0 d_Mo_turn_26 rfl ?_
      obtain ⟨m_8, em_8, h⟩ := zbind h
      refine zo_putI 30 zkd_11 8 d_Mo_turn_27 em_8 rfl rfl rfl tw_1239 rfl ?_
      refine zi_aload_n 0 d_Mo_turn_30 rfl ?_
      refine zi_bipush 8 d_Mo_turn_31 rfl ?_
      refine zi_iload_n 1 d_Mo_turn_33 rfl ?_
      refine zi_iadd d_Mo_turn_34 ?_
      refine zi_iload_n 2 d_Mo_turn_35 rfl ?_
      obtain ⟨u_9, eu_9, h⟩ := zbind h
      obtain ⟨q_10, eq_10, h⟩ := zbind h
      refine zo_virt (k' := 0) (n' := 0) 39 [.int (8 + x1), .int x2] [] [.int q_10.1] zkd_11 (zck_s eu_9) (C_Mo_change n E S a0 (8 + x1) x2 m_8 q_10.1 q_10.2 eq_10) d_Mo_turn_36 tw_1482 tw_1479 tw_1481 ts_45 tw_13 dd_Mo_change ⟨Nat.le_of_ble_eq_true rfl, Nat.le_of_ble_eq_true rfl, Nat.le_of_ble_eq_true rfl, Nat.le_of_ble_eq_true rfl⟩ (Nat.le_of_ble_eq_true rfl) rfl rfl rfl rfl ?_
      cases h
      exact zo_ret d_Mo_turn_39 (Nat.le_of_ble_eq_true rfl) (Nat.le_of_ble_eq_true rfl) rfl
    · rw [if_neg c_7] at h
      refine zi_lo [(0, .ref a0)] [0] rfl ?_
      exact K_Mo_turn_b19 n E S a0 q_6.2 r M'  h
theorem C_Mo_turn (n : Nat) (E : zE) (S : zS) (a0 : Nat) (x1 : Int32) (x2 : Int32) (M : zH) (r : Int32) (M' : zH) (h : F_Mo_turn n E S a0 x1 x2 M = some (r, M')) : zC E Y_Mo_turn [.ref a0, .int x1, .int x2] S M (some (.int r), S, M') :=
  zC.of (Or.inl (show plainName "NightColanderModel" = true by decide)) (Nat.le_of_ble_eq_true rfl) (trivial) (K_Mo_turn n E S a0 x1 x2 M r M' h)
theorem d_Mo_bucketAt_0 : decode (yB Y_Mo_bucketAt) 0 = .ok (.iconst (-1), 1) := by decide +kernel
theorem d_Mo_bucketAt_1 : decode (yB Y_Mo_bucketAt) 1 = .ok (.istore_n 2, 1) := by decide +kernel
theorem d_Mo_bucketAt_2 : decode (yB Y_Mo_bucketAt) 2 = .ok (.iconst 0, 1) := by decide +kernel
theorem d_Mo_bucketAt_3 : decode (yB Y_Mo_bucketAt) 3 = .ok (.istore_n 3, 1) := by decide +kernel
theorem d_Mo_bucketAt_4 : decode (yB Y_Mo_bucketAt) 4 = .ok (.iload_n 3, 1) := by decide +kernel
theorem d_Mo_bucketAt_5 : decode (yB Y_Mo_bucketAt) 5 = .ok (.aload_n 0, 1) := by decide +kernel
theorem d_Mo_bucketAt_6 : decode (yB Y_Mo_bucketAt) 6 = .ok (.getfield 13, 3) := by decide +kernel
theorem d_Mo_bucketAt_9 : decode (yB Y_Mo_bucketAt) 9 = .ok (.iconst 0, 1) := by decide +kernel
theorem d_Mo_bucketAt_10 : decode (yB Y_Mo_bucketAt) 10 = .ok (.iaload, 1) := by decide +kernel
theorem d_Mo_bucketAt_11 : decode (yB Y_Mo_bucketAt) 11 = .ok (.if_icmp .ge 28, 3) := by decide +kernel
theorem d_Mo_bucketAt_14 : decode (yB Y_Mo_bucketAt) 14 = .ok (.aload_n 0, 1) := by decide +kernel
theorem d_Mo_bucketAt_15 : decode (yB Y_Mo_bucketAt) 15 = .ok (.getfield 13, 3) := by decide +kernel
theorem d_Mo_bucketAt_18 : decode (yB Y_Mo_bucketAt) 18 = .ok (.bipush 51, 2) := by decide +kernel
theorem d_Mo_bucketAt_20 : decode (yB Y_Mo_bucketAt) 20 = .ok (.iload_n 3, 1) := by decide +kernel
theorem d_Mo_bucketAt_21 : decode (yB Y_Mo_bucketAt) 21 = .ok (.iadd, 1) := by decide +kernel
theorem d_Mo_bucketAt_22 : decode (yB Y_Mo_bucketAt) 22 = .ok (.iaload, 1) := by decide +kernel
theorem d_Mo_bucketAt_23 : decode (yB Y_Mo_bucketAt) 23 = .ok (.iload_n 1, 1) := by decide +kernel
theorem d_Mo_bucketAt_24 : decode (yB Y_Mo_bucketAt) 24 = .ok (.if_icmp .ne 7, 3) := by decide +kernel
theorem d_Mo_bucketAt_27 : decode (yB Y_Mo_bucketAt) 27 = .ok (.iload_n 3, 1) := by decide +kernel
theorem d_Mo_bucketAt_28 : decode (yB Y_Mo_bucketAt) 28 = .ok (.goto 4, 3) := by decide +kernel
theorem d_Mo_bucketAt_31 : decode (yB Y_Mo_bucketAt) 31 = .ok (.iload_n 2, 1) := by decide +kernel
theorem d_Mo_bucketAt_32 : decode (yB Y_Mo_bucketAt) 32 = .ok (.istore_n 2, 1) := by decide +kernel
theorem d_Mo_bucketAt_33 : decode (yB Y_Mo_bucketAt) 33 = .ok (.iinc 3 1, 3) := by decide +kernel
theorem d_Mo_bucketAt_36 : decode (yB Y_Mo_bucketAt) 36 = .ok (.goto (-32), 3) := by decide +kernel
theorem d_Mo_bucketAt_39 : decode (yB Y_Mo_bucketAt) 39 = .ok (.iload_n 2, 1) := by decide +kernel
theorem d_Mo_bucketAt_40 : decode (yB Y_Mo_bucketAt) 40 = .ok (.ireturn, 1) := by decide +kernel
def F_Mo_bucketAt_b32 (n : Nat) (E : zE) (S : zS) (r4 : Nat × Int32 × Int32 × Int32 × zH → Option (Int32 × zH)) (a0 : Nat) (x1 : Int32) (x3 : Int32) (s0 : Int32) (M : zH) : Option (Int32 × zH) :=
  r4 (a0, x1, s0, x3 + 1, M)
def F_Mo_bucketAt_L4 (n : Nat) (E : zE) (S : zS) (r4 : Nat × Int32 × Int32 × Int32 × zH → Option (Int32 × zH)) (a0 : Nat) (x1 : Int32) (x2 : Int32) (x3 : Int32) (M : zH) : Option (Int32 × zH) :=
  (zgR S a0 11 3).bind fun b_1 =>
  (zldI S M b_1 0).bind fun v_2 =>
  if v_2 ≤ x3 then
    some (x2, M)
  else
    (zldI S M b_1 (51 + x3)).bind fun v_4 =>
    if v_4 = x1 then
      F_Mo_bucketAt_b32 n E S r4 a0 x1 x3 x3 M
    else
      F_Mo_bucketAt_b32 n E S r4 a0 x1 x3 x2 M
def F_Mo_bucketAt_b4 (n : Nat) (E : zE) (S : zS) : Nat × Int32 × Int32 × Int32 × zH → Option (Int32 × zH) := zfix (fun r4 s => F_Mo_bucketAt_L4 n E S r4 s.1 s.2.1 s.2.2.1 s.2.2.2.1 s.2.2.2.2) n
def F_Mo_bucketAt (n : Nat) (E : zE) (S : zS) (a0 : Nat) (x1 : Int32) (M : zH) : Option (Int32 × zH) :=
  F_Mo_bucketAt_b4 n E S (a0, x1, (-1), 0, M)
theorem K_Mo_bucketAt_b32 (n : Nat) (E : zE) (S : zS) (r4 : Nat × Int32 × Int32 × Int32 × zH → Option (Int32 × zH)) (a0 : Nat) (x1 : Int32) (x3 : Int32) (s0 : Int32) (M : zH) (r : Int32) (M' : zH) (hr4 : ∀ (a0 : Nat) (x1 : Int32) (x2 : Int32) (x3 : Int32) (M : zH), r4 (a0, x1, x2, x3, M) = some (r, M') → zG E Y_Mo_bucketAt (some (.int r), S, M') 4 [(0, .ref a0), (1, .int x1), (2, .int x2), (3, .int x3)] [] S M 0 0) (h : F_Mo_bucketAt_b32 n E S r4 a0 x1 x3 s0 M = some (r, M')) : zG E Y_Mo_bucketAt (some (.int r), S, M') 32 [(0, .ref a0), (1, .int x1), (3, .int x3)] [.int s0] S M 0 0 := by
  unfold F_Mo_bucketAt_b32 at h
  refine zi_istore_n [(2, .int s0), (0, .ref a0), (1, .int x1), (3, .int x3)] d_Mo_bucketAt_32 (by decide) rfl ?_
  refine zi_iinc 3 (x3 + 1) [(3, .int (x3 + 1)), (2, .int s0), (0, .ref a0), (1, .int x1)] d_Mo_bucketAt_33 rfl rfl (by decide) rfl ?_
  refine zi_goto (tgt := 4) d_Mo_bucketAt_36 rfl ?_
  refine zi_lo [(0, .ref a0), (1, .int x1), (2, .int s0), (3, .int (x3 + 1))] [2, 3, 1, 0] rfl ?_
  exact hr4 a0 x1 s0 (x3 + 1) M h
theorem K_Mo_bucketAt_L4 (n : Nat) (E : zE) (S : zS) (r4 : Nat × Int32 × Int32 × Int32 × zH → Option (Int32 × zH)) (a0 : Nat) (x1 : Int32) (x2 : Int32) (x3 : Int32) (M : zH) (r : Int32) (M' : zH) (hr4 : ∀ (a0 : Nat) (x1 : Int32) (x2 : Int32) (x3 : Int32) (M : zH), r4 (a0, x1, x2, x3, M) = some (r, M') → zG E Y_Mo_bucketAt (some (.int r), S, M') 4 [(0, .ref a0), (1, .int x1), (2, .int x2), (3, .int x3)] [] S M 0 0) (h : F_Mo_bucketAt_L4 n E S r4 a0 x1 x2 x3 M = some (r, M')) : zG E Y_Mo_bucketAt (some (.int r), S, M') 4 [(0, .ref a0), (1, .int x1), (2, .int x2), (3, .int x3)] [] S M 0 0 := by
  unfold F_Mo_bucketAt_L4 at h
  refine zi_iload_n 3 d_Mo_bucketAt_4 rfl ?_
  refine zi_aload_n 0 d_Mo_bucketAt_5 rfl ?_
  obtain ⟨b_1, eb_1, h⟩ := zbind h
  refine zo_getR 9 zkd_11 3 d_Mo_bucketAt_6 eb_1 rfl tw_1234 rfl ?_
  refine zi_iconst 0 d_Mo_bucketAt_9 rfl ?_
  obtain ⟨v_2, ev_2, h⟩ := zbind h
  refine zo_iald 11 d_Mo_bucketAt_10 ev_2 rfl ?_
  refine zi_icmp_ge (tgt := 39) d_Mo_bucketAt_11 rfl (fun c_3 => ?_) (fun c_3 => ?_)
  · rw [if_pos c_3] at h
    refine zi_iload_n 2 d_Mo_bucketAt_39 rfl ?_
    cases h
    exact zo_ret d_Mo_bucketAt_40 (Nat.le_of_ble_eq_true rfl) (Nat.le_of_ble_eq_true rfl) rfl
  · rw [if_neg c_3] at h
    refine zi_aload_n 0 d_Mo_bucketAt_14 rfl ?_
    refine zo_getR 18 zkd_11 3 d_Mo_bucketAt_15 eb_1 rfl tw_1234 rfl ?_
    refine zi_bipush 51 d_Mo_bucketAt_18 rfl ?_
    refine zi_iload_n 3 d_Mo_bucketAt_20 rfl ?_
    refine zi_iadd d_Mo_bucketAt_21 ?_
    obtain ⟨v_4, ev_4, h⟩ := zbind h
    refine zo_iald 23 d_Mo_bucketAt_22 ev_4 rfl ?_
    refine zi_iload_n 1 d_Mo_bucketAt_23 rfl ?_
    refine zi_icmp_ne (tgt := 31) d_Mo_bucketAt_24 rfl (fun c_5 => ?_) (fun c_5 => ?_)
    · rw [if_neg c_5] at h
      refine zi_iload_n 2 d_Mo_bucketAt_31 rfl ?_
      refine zi_lo [(0, .ref a0), (1, .int x1), (3, .int x3)] [0, 1, 3] rfl ?_
      exact K_Mo_bucketAt_b32 n E S r4 a0 x1 x3 x2 M r M' hr4 h
    · rw [if_pos c_5] at h
      refine zi_iload_n 3 d_Mo_bucketAt_27 rfl ?_
      refine zi_goto (tgt := 32) d_Mo_bucketAt_28 rfl ?_
      refine zi_lo [(0, .ref a0), (1, .int x1), (3, .int x3)] [0, 1, 3] rfl ?_
      exact K_Mo_bucketAt_b32 n E S r4 a0 x1 x3 x3 M r M' hr4 h
theorem K_Mo_bucketAt_b4 (n : Nat) (E : zE) (S : zS) (a0 : Nat) (x1 : Int32) (x2 : Int32) (x3 : Int32) (M : zH) (r : Int32) (M' : zH)  (h : F_Mo_bucketAt_b4 n E S (a0, x1, x2, x3, M) = some (r, M')) : zG E Y_Mo_bucketAt (some (.int r), S, M') 4 [(0, .ref a0), (1, .int x1), (2, .int x2), (3, .int x3)] [] S M 0 0 := by
  have key : ∀ (k : Nat) (a0 : Nat) (x1 : Int32) (x2 : Int32) (x3 : Int32) (M : zH), zfix (fun r4 s => F_Mo_bucketAt_L4 n E S r4 s.1 s.2.1 s.2.2.1 s.2.2.2.1 s.2.2.2.2) k (a0, x1, x2, x3, M) = some (r, M') → zG E Y_Mo_bucketAt (some (.int r), S, M') 4 [(0, .ref a0), (1, .int x1), (2, .int x2), (3, .int x3)] [] S M 0 0 := by
    intro k
    induction k with
    | zero => intro a0 x1 x2 x3 M h; cases h
    | succ k ih => intro a0 x1 x2 x3 M h; exact K_Mo_bucketAt_L4 n E S _ a0 x1 x2 x3 M r M'  (fun a0 x1 x2 x3 M h => ih a0 x1 x2 x3 M h) h
  exact key n a0 x1 x2 x3 M h
theorem K_Mo_bucketAt (n : Nat) (E : zE) (S : zS) (a0 : Nat) (x1 : Int32) (M : zH) (r : Int32) (M' : zH)  (h : F_Mo_bucketAt n E S a0 x1 M = some (r, M')) : zG E Y_Mo_bucketAt (some (.int r), S, M') 0 [(0, .ref a0), (1, .int x1)] [] S M 0 0 := by
  unfold F_Mo_bucketAt at h
  refine zi_iconst (-1) d_Mo_bucketAt_0 rfl ?_
  refine zi_istore_n [(2, .int (-1)), (0, .ref a0), (1, .int x1)] d_Mo_bucketAt_1 (by decide) rfl ?_
  refine zi_iconst 0 d_Mo_bucketAt_2 rfl ?_
  refine zi_istore_n [(3, .int 0), (2, .int (-1)), (0, .ref a0), (1, .int x1)] d_Mo_bucketAt_3 (by decide) rfl ?_
  refine zi_lo [(0, .ref a0), (1, .int x1), (2, .int (-1)), (3, .int 0)] [2, 3, 1, 0] rfl ?_
  exact K_Mo_bucketAt_b4 n E S a0 x1 (-1) 0 M r M'  h
theorem C_Mo_bucketAt (n : Nat) (E : zE) (S : zS) (a0 : Nat) (x1 : Int32) (M : zH) (r : Int32) (M' : zH) (h : F_Mo_bucketAt n E S a0 x1 M = some (r, M')) : zC E Y_Mo_bucketAt [.ref a0, .int x1] S M (some (.int r), S, M') :=
  zC.of (Or.inl (show plainName "NightColanderModel" = true by decide)) (Nat.le_of_ble_eq_true rfl) (trivial) (K_Mo_bucketAt n E S a0 x1 M r M' h)
theorem d_Mo_bucket_0 : decode (yB Y_Mo_bucket) 0 = .ok (.aload_n 0, 1) := by decide +kernel
theorem d_Mo_bucket_1 : decode (yB Y_Mo_bucket) 1 = .ok (.iconst 0, 1) := by decide +kernel
theorem d_Mo_bucket_2 : decode (yB Y_Mo_bucket) 2 = .ok (.putfield 156, 3) := by decide +kernel
theorem d_Mo_bucket_5 : decode (yB Y_Mo_bucket) 5 = .ok (.iload_n 1, 1) := by decide +kernel
theorem d_Mo_bucket_6 : decode (yB Y_Mo_bucket) 6 = .ok (.i2l, 1) := by decide +kernel
theorem d_Mo_bucket_7 : decode (yB Y_Mo_bucket) 7 = .ok (.lconst 1, 1) := by decide +kernel
theorem d_Mo_bucket_8 : decode (yB Y_Mo_bucket) 8 = .ok (.ldc2_w 209, 3) := by decide +kernel
theorem d_Mo_bucket_11 : decode (yB Y_Mo_bucket) 11 = .ok (.invokestatic 176, 3) := by decide +kernel
theorem d_Mo_bucket_14 : decode (yB Y_Mo_bucket) 14 = .ok (.ifCond .eq 10, 3) := by decide +kernel
theorem d_Mo_bucket_17 : decode (yB Y_Mo_bucket) 17 = .ok (.iload_n 2, 1) := by decide +kernel
theorem d_Mo_bucket_18 : decode (yB Y_Mo_bucket) 18 = .ok (.invokestatic 194, 3) := by decide +kernel
theorem d_Mo_bucket_21 : decode (yB Y_Mo_bucket) 21 = .ok (.ifCond .ne 9, 3) := by decide +kernel
theorem d_Mo_bucket_24 : decode (yB Y_Mo_bucket) 24 = .ok (.aload_n 0, 1) := by decide +kernel
theorem d_Mo_bucket_25 : decode (yB Y_Mo_bucket) 25 = .ok (.iconst (-1), 1) := by decide +kernel
theorem d_Mo_bucket_26 : decode (yB Y_Mo_bucket) 26 = .ok (.invokevirtual 165, 3) := by decide +kernel
theorem d_Mo_bucket_29 : decode (yB Y_Mo_bucket) 29 = .ok (.ireturn, 1) := by decide +kernel
theorem d_Mo_bucket_30 : decode (yB Y_Mo_bucket) 30 = .ok (.aload_n 0, 1) := by decide +kernel
theorem d_Mo_bucket_31 : decode (yB Y_Mo_bucket) 31 = .ok (.iload_n 2, 1) := by decide +kernel
theorem d_Mo_bucket_32 : decode (yB Y_Mo_bucket) 32 = .ok (.invokevirtual 211, 3) := by decide +kernel
theorem d_Mo_bucket_35 : decode (yB Y_Mo_bucket) 35 = .ok (.iconst (-1), 1) := by decide +kernel
theorem d_Mo_bucket_36 : decode (yB Y_Mo_bucket) 36 = .ok (.if_icmp .eq 10, 3) := by decide +kernel
theorem d_Mo_bucket_39 : decode (yB Y_Mo_bucket) 39 = .ok (.aload_n 0, 1) := by decide +kernel
theorem d_Mo_bucket_40 : decode (yB Y_Mo_bucket) 40 = .ok (.bipush (-3), 2) := by decide +kernel
theorem d_Mo_bucket_42 : decode (yB Y_Mo_bucket) 42 = .ok (.invokevirtual 165, 3) := by decide +kernel
theorem d_Mo_bucket_45 : decode (yB Y_Mo_bucket) 45 = .ok (.ireturn, 1) := by decide +kernel
theorem d_Mo_bucket_46 : decode (yB Y_Mo_bucket) 46 = .ok (.aload_n 0, 1) := by decide +kernel
theorem d_Mo_bucket_47 : decode (yB Y_Mo_bucket) 47 = .ok (.getfield 13, 3) := by decide +kernel
theorem d_Mo_bucket_50 : decode (yB Y_Mo_bucket) 50 = .ok (.iconst 0, 1) := by decide +kernel
theorem d_Mo_bucket_51 : decode (yB Y_Mo_bucket) 51 = .ok (.iaload, 1) := by decide +kernel
theorem d_Mo_bucket_52 : decode (yB Y_Mo_bucket) 52 = .ok (.istore_n 3, 1) := by decide +kernel
theorem d_Mo_bucket_53 : decode (yB Y_Mo_bucket) 53 = .ok (.iload_n 3, 1) := by decide +kernel
theorem d_Mo_bucket_54 : decode (yB Y_Mo_bucket) 54 = .ok (.iconst 3, 1) := by decide +kernel
theorem d_Mo_bucket_55 : decode (yB Y_Mo_bucket) 55 = .ok (.if_icmp .ne 10, 3) := by decide +kernel
theorem d_Mo_bucket_58 : decode (yB Y_Mo_bucket) 58 = .ok (.aload_n 0, 1) := by decide +kernel
theorem d_Mo_bucket_59 : decode (yB Y_Mo_bucket) 59 = .ok (.bipush (-5), 2) := by decide +kernel
theorem d_Mo_bucket_61 : decode (yB Y_Mo_bucket) 61 = .ok (.invokevirtual 165, 3) := by decide +kernel
theorem d_Mo_bucket_64 : decode (yB Y_Mo_bucket) 64 = .ok (.ireturn, 1) := by decide +kernel
theorem d_Mo_bucket_65 : decode (yB Y_Mo_bucket) 65 = .ok (.aload_n 0, 1) := by decide +kernel
theorem d_Mo_bucket_66 : decode (yB Y_Mo_bucket) 66 = .ok (.getfield 13, 3) := by decide +kernel
theorem d_Mo_bucket_69 : decode (yB Y_Mo_bucket) 69 = .ok (.bipush 54, 2) := by decide +kernel
theorem d_Mo_bucket_71 : decode (yB Y_Mo_bucket) 71 = .ok (.iload_n 3, 1) := by decide +kernel
theorem d_Mo_bucket_72 : decode (yB Y_Mo_bucket) 72 = .ok (.iadd, 1) := by decide +kernel
theorem d_Mo_bucket_73 : decode (yB Y_Mo_bucket) 73 = .ok (.iload_n 1, 1) := by decide +kernel
theorem d_Mo_bucket_74 : decode (yB Y_Mo_bucket) 74 = .ok (.iastore, 1) := by decide +kernel
theorem d_Mo_bucket_75 : decode (yB Y_Mo_bucket) 75 = .ok (.aload_n 0, 1) := by decide +kernel
theorem d_Mo_bucket_76 : decode (yB Y_Mo_bucket) 76 = .ok (.getfield 13, 3) := by decide +kernel
theorem d_Mo_bucket_79 : decode (yB Y_Mo_bucket) 79 = .ok (.bipush 48, 2) := by decide +kernel
theorem d_Mo_bucket_81 : decode (yB Y_Mo_bucket) 81 = .ok (.iload_n 3, 1) := by decide +kernel
theorem d_Mo_bucket_82 : decode (yB Y_Mo_bucket) 82 = .ok (.iadd, 1) := by decide +kernel
theorem d_Mo_bucket_83 : decode (yB Y_Mo_bucket) 83 = .ok (.iconst 0, 1) := by decide +kernel
theorem d_Mo_bucket_84 : decode (yB Y_Mo_bucket) 84 = .ok (.iastore, 1) := by decide +kernel
theorem d_Mo_bucket_85 : decode (yB Y_Mo_bucket) 85 = .ok (.aload_n 0, 1) := by decide +kernel
theorem d_Mo_bucket_86 : decode (yB Y_Mo_bucket) 86 = .ok (.getfield 13, 3) := by decide +kernel
theorem d_Mo_bucket_89 : decode (yB Y_Mo_bucket) 89 = .ok (.bipush 51, 2) := by decide +kernel
theorem d_Mo_bucket_91 : decode (yB Y_Mo_bucket) 91 = .ok (.iload_n 3, 1) := by decide +kernel
theorem d_Mo_bucket_92 : decode (yB Y_Mo_bucket) 92 = .ok (.iadd, 1) := by decide +kernel
theorem d_Mo_bucket_93 : decode (yB Y_Mo_bucket) 93 = .ok (.iload_n 2, 1) := by decide +kernel
theorem d_Mo_bucket_94 : decode (yB Y_Mo_bucket) 94 = .ok (.iastore, 1) := by decide +kernel
theorem d_Mo_bucket_95 : decode (yB Y_Mo_bucket) 95 = .ok (.aload_n 0, 1) := by decide +kernel
theorem d_Mo_bucket_96 : decode (yB Y_Mo_bucket) 96 = .ok (.getfield 13, 3) := by decide +kernel
theorem d_Mo_bucket_99 : decode (yB Y_Mo_bucket) 99 = .ok (.iconst 0, 1) := by decide +kernel
theorem d_Mo_bucket_100 : decode (yB Y_Mo_bucket) 100 = .ok (.dup2, 1) := by decide +kernel
theorem d_Mo_bucket_101 : decode (yB Y_Mo_bucket) 101 = .ok (.iaload, 1) := by decide +kernel
theorem d_Mo_bucket_102 : decode (yB Y_Mo_bucket) 102 = .ok (.iconst 1, 1) := by decide +kernel
theorem d_Mo_bucket_103 : decode (yB Y_Mo_bucket) 103 = .ok (.iadd, 1) := by decide +kernel
theorem d_Mo_bucket_104 : decode (yB Y_Mo_bucket) 104 = .ok (.iastore, 1) := by decide +kernel
theorem d_Mo_bucket_105 : decode (yB Y_Mo_bucket) 105 = .ok (.aload_n 0, 1) := by decide +kernel
theorem d_Mo_bucket_106 : decode (yB Y_Mo_bucket) 106 = .ok (.iload_n 3, 1) := by decide +kernel
theorem d_Mo_bucket_107 : decode (yB Y_Mo_bucket) 107 = .ok (.invokevirtual 180, 3) := by decide +kernel
theorem d_Mo_bucket_110 : decode (yB Y_Mo_bucket) 110 = .ok (.ireturn, 1) := by decide +kernel
def F_Mo_bucket_b24 (n : Nat) (E : zE) (S : zS) (a0 : Nat) (M : zH) : Option (Int32 × zH) :=
  (zck S a0 11).bind fun u_1 =>
  (F_Mo_tell n E S a0 (-1) M).bind fun q_2 =>
  some (q_2.1, q_2.2)
def F_Mo_bucket (n : Nat) (E : zE) (S : zS) (a0 : Nat) (x1 : Int32) (x2 : Int32) (M : zH) : Option (Int32 × zH) :=
  (zpI S M a0 11 0 0).bind fun m_3 =>
  (F_Mo_in n E S x1.toInt64 1 99 m_3).bind fun q_4 =>
  if q_4.1 = true then
    (F_Mo_isField n E S x2 q_4.2).bind fun q_6 =>
    if q_6.1 = true then
      (zck S a0 11).bind fun u_8 =>
      (F_Mo_bucketAt n E S a0 x2 q_6.2).bind fun q_9 =>
      if q_9.1 = (-1) then
        (zgR S a0 11 3).bind fun b_11 =>
        (zldI S q_9.2 b_11 0).bind fun v_12 =>
        if v_12 = 3 then
          (F_Mo_tell n E S a0 (-5) q_9.2).bind fun q_14 =>
          some (q_14.1, q_14.2)
        else
          (zstI S q_9.2 b_11 (54 + v_12) x1).bind fun m_15 =>
          (zstI S m_15 b_11 (48 + v_12) 0).bind fun m_16 =>
          (zstI S m_16 b_11 (51 + v_12) x2).bind fun m_17 =>
          (zldI S m_17 b_11 0).bind fun v_18 =>
          (zstI S m_17 b_11 0 (v_18 + 1)).bind fun m_19 =>
          (F_Mo_lasting n E S a0 v_12 m_19).bind fun q_20 =>
          some (q_20.1, q_20.2)
      else
        (F_Mo_tell n E S a0 (-3) q_9.2).bind fun q_21 =>
        some (q_21.1, q_21.2)
    else
      F_Mo_bucket_b24 n E S a0 q_6.2
  else
    F_Mo_bucket_b24 n E S a0 q_4.2
theorem K_Mo_bucket_b24 (n : Nat) (E : zE) (S : zS) (a0 : Nat) (M : zH) (r : Int32) (M' : zH)  (h : F_Mo_bucket_b24 n E S a0 M = some (r, M')) : zG E Y_Mo_bucket (some (.int r), S, M') 24 [(0, .ref a0)] [] S M 0 0 := by
  unfold F_Mo_bucket_b24 at h
  refine zi_aload_n 0 d_Mo_bucket_24 rfl ?_
  refine zi_iconst (-1) d_Mo_bucket_25 rfl ?_
  obtain ⟨u_1, eu_1, h⟩ := zbind h
  obtain ⟨q_2, eq_2, h⟩ := zbind h
  refine zo_virt (k' := 0) (n' := 0) 29 [.int (-1)] [] [.int q_2.1] zkd_11 (zck_s eu_1) (C_Mo_tell n E S a0 (-1) M q_2.1 q_2.2 eq_2) d_Mo_bucket_26 tw_1410 tw_1407 tw_1409 ts_36 tw_13 dd_Mo_tell ⟨Nat.le_of_ble_eq_true rfl, Nat.le_of_ble_eq_true rfl, Nat.le_of_ble_eq_true rfl, Nat.le_of_ble_eq_true rfl⟩ (Nat.le_of_ble_eq_true rfl) rfl rfl rfl rfl ?_
  cases h
  exact zo_ret d_Mo_bucket_29 (Nat.le_of_ble_eq_true rfl) (Nat.le_of_ble_eq_true rfl) rfl
theorem K_Mo_bucket (n : Nat) (E : zE) (S : zS) (a0 : Nat) (x1 : Int32) (x2 : Int32) (M : zH) (r : Int32) (M' : zH)  (h : F_Mo_bucket n E S a0 x1 x2 M = some (r, M')) : zG E Y_Mo_bucket (some (.int r), S, M') 0 [(0, .ref a0), (1, .int x1), (2, .int x2)] [] S M 0 0 := by
  unfold F_Mo_bucket at h
  refine zi_aload_n 0 d_Mo_bucket_0 rfl ?_
  refine zi_iconst 0 d_Mo_bucket_1 rfl ?_
  obtain ⟨m_3, em_3, h⟩ := zbind h
  refine zo_putI 5 zkd_11 0 d_Mo_bucket_2 em_3 rfl rfl rfl tw_1231 rfl ?_
  refine zi_iload_n 1 d_Mo_bucket_5 rfl ?_
  refine zi_i2l d_Mo_bucket_6 ?_
  refine zi_lconst 1 d_Mo_bucket_7 rfl ?_
  refine zi_ldc2 d_Mo_bucket_8 tw_1487 ?_
  obtain ⟨q_4, eq_4, h⟩ := zbind h
  refine zo_stat (k' := 0) (n' := 0) 14 [.long x1.toInt64, .long 1, .long 99] [] [.int (bI q_4.1)] (C_Mo_in n E S x1.toInt64 1 99 m_3 q_4.1 q_4.2 eq_4) d_Mo_bucket_11 tw_1421 tw_1419 tw_1420 tw_13 dd_Mo_in ⟨Nat.le_of_ble_eq_true rfl, Nat.le_of_ble_eq_true rfl, Nat.le_of_ble_eq_true rfl, Nat.le_of_ble_eq_true rfl⟩ (Nat.le_of_ble_eq_true rfl) rfl rfl rfl rfl ?_
  refine zo_ifeqB d_Mo_bucket_14 rfl 17 rfl (fun c_5 => ?_) (fun c_5 => ?_)
  · rw [if_neg c_5] at h
    refine zi_lo [(0, .ref a0)] [0] rfl ?_
    exact K_Mo_bucket_b24 n E S a0 q_4.2 r M'  h
  · rw [if_pos c_5] at h
    refine zi_iload_n 2 d_Mo_bucket_17 rfl ?_
    obtain ⟨q_6, eq_6, h⟩ := zbind h
    refine zo_stat (k' := 0) (n' := 0) 21 [.int x2] [] [.int (bI q_6.1)] (C_Mo_isField n E S x2 q_4.2 q_6.1 q_6.2 eq_6) d_Mo_bucket_18 tw_1440 tw_1438 tw_1439 tw_13 dd_Mo_isField ⟨Nat.le_of_ble_eq_true rfl, Nat.le_of_ble_eq_true rfl, Nat.le_of_ble_eq_true rfl, Nat.le_of_ble_eq_true rfl⟩ (Nat.le_of_ble_eq_true rfl) rfl rfl rfl rfl ?_
    refine zo_ifneB d_Mo_bucket_21 rfl 24 rfl (fun c_7 => ?_) (fun c_7 => ?_)
    · rw [if_pos c_7] at h
      refine zi_aload_n 0 d_Mo_bucket_30 rfl ?_
      refine zi_iload_n 2 d_Mo_bucket_31 rfl ?_
      obtain ⟨u_8, eu_8, h⟩ := zbind h
      obtain ⟨q_9, eq_9, h⟩ := zbind h
      refine zo_virt (k' := 0) (n' := 0) 35 [.int x2] [] [.int q_9.1] zkd_11 (zck_s eu_8) (C_Mo_bucketAt n E S a0 x2 q_6.2 q_9.1 q_9.2 eq_9) d_Mo_bucket_32 tw_1491 tw_1488 tw_1490 ts_46 tw_13 dd_Mo_bucketAt ⟨Nat.le_of_ble_eq_true rfl, Nat.le_of_ble_eq_true rfl, Nat.le_of_ble_eq_true rfl, Nat.le_of_ble_eq_true rfl⟩ (Nat.le_of_ble_eq_true rfl) rfl rfl rfl rfl ?_
      refine zi_iconst (-1) d_Mo_bucket_35 rfl ?_
      refine zi_icmp_eq (tgt := 46) d_Mo_bucket_36 rfl (fun c_10 => ?_) (fun c_10 => ?_)
      · rw [if_pos c_10] at h
        refine zi_aload_n 0 d_Mo_bucket_46 rfl ?_
        obtain ⟨b_11, eb_11, h⟩ := zbind h
        refine zo_getR 50 zkd_11 3 d_Mo_bucket_47 eb_11 rfl tw_1234 rfl ?_
        refine zi_iconst 0 d_Mo_bucket_50 rfl ?_
        obtain ⟨v_12, ev_12, h⟩ := zbind h
        refine zo_iald 52 d_Mo_bucket_51 ev_12 rfl ?_
        refine zi_istore_n [(3, .int v_12), (0, .ref a0), (1, .int x1), (2, .int x2)] d_Mo_bucket_52 (by decide) rfl ?_
        refine zi_iload_n 0 d_Mo_bucket_53 rfl ?_
        refine zi_iconst 3 d_Mo_bucket_54 rfl ?_
        refine zi_icmp_ne (tgt := 65) d_Mo_bucket_55 rfl (fun c_13 => ?_) (fun c_13 => ?_)
        · rw [if_neg c_13] at h
          refine zi_aload_n 1 d_Mo_bucket_65 rfl ?_
          refine zo_getR 69 zkd_11 3 d_Mo_bucket_66 eb_11 rfl tw_1234 rfl ?_
          refine zi_bipush 54 d_Mo_bucket_69 rfl ?_
          refine zi_iload_n 0 d_Mo_bucket_71 rfl ?_
          refine zi_iadd d_Mo_bucket_72 ?_
          refine zi_iload_n 2 d_Mo_bucket_73 rfl ?_
          obtain ⟨m_15, em_15, h⟩ := zbind h
          refine zo_iast 75 d_Mo_bucket_74 em_15 rfl ?_
          refine zi_aload_n 1 d_Mo_bucket_75 rfl ?_
          refine zo_getR 79 zkd_11 3 d_Mo_bucket_76 eb_11 rfl tw_1234 rfl ?_
          refine zi_bipush 48 d_Mo_bucket_79 rfl ?_
          refine zi_iload_n 0 d_Mo_bucket_81 rfl ?_
          refine zi_iadd d_Mo_bucket_82 ?_
          refine zi_iconst 0 d_Mo_bucket_83 rfl ?_
          obtain ⟨m_16, em_16, h⟩ := zbind h
          refine zo_iast 85 d_Mo_bucket_84 em_16 rfl ?_
          refine zi_aload_n 1 d_Mo_bucket_85 rfl ?_
          refine zo_getR 89 zkd_11 3 d_Mo_bucket_86 eb_11 rfl tw_1234 rfl ?_
          refine zi_bipush 51 d_Mo_bucket_89 rfl ?_
          refine zi_iload_n 0 d_Mo_bucket_91 rfl ?_
          refine zi_iadd d_Mo_bucket_92 ?_
          refine zi_iload_n 3 d_Mo_bucket_93 rfl ?_
          obtain ⟨m_17, em_17, h⟩ := zbind h
          refine zo_iast 95 d_Mo_bucket_94 em_17 rfl ?_
          refine zi_aload_n 1 d_Mo_bucket_95 rfl ?_
          refine zo_getR 99 zkd_11 3 d_Mo_bucket_96 eb_11 rfl tw_1234 rfl ?_
          refine zi_iconst 0 d_Mo_bucket_99 rfl ?_
          refine zi_dup2 d_Mo_bucket_100 rfl rfl ?_
          obtain ⟨v_18, ev_18, h⟩ := zbind h
          refine zo_iald 102 d_Mo_bucket_101 ev_18 rfl ?_
          refine zi_iconst 1 d_Mo_bucket_102 rfl ?_
          refine zi_iadd d_Mo_bucket_103 ?_
          obtain ⟨m_19, em_19, h⟩ := zbind h
          refine zo_iast 105 d_Mo_bucket_104 em_19 rfl ?_
          refine zi_aload_n 1 d_Mo_bucket_105 rfl ?_
          refine zi_iload_n 0 d_Mo_bucket_106 rfl ?_
          obtain ⟨q_20, eq_20, h⟩ := zbind h
          refine zo_virt (k' := 0) (n' := 0) 110 [.int v_12] [] [.int q_20.1] zkd_11 (zck_s eu_8) (C_Mo_lasting n E S a0 v_12 m_19 q_20.1 q_20.2 eq_20) d_Mo_bucket_107 tw_1429 tw_1426 tw_1428 ts_38 tw_13 dd_Mo_lasting ⟨Nat.le_of_ble_eq_true rfl, Nat.le_of_ble_eq_true rfl, Nat.le_of_ble_eq_true rfl, Nat.le_of_ble_eq_true rfl⟩ (Nat.le_of_ble_eq_true rfl) rfl rfl rfl rfl ?_
          cases h
          exact zo_ret d_Mo_bucket_110 (Nat.le_of_ble_eq_true rfl) (Nat.le_of_ble_eq_true rfl) rfl
        · rw [if_pos c_13] at h
          refine zi_aload_n 1 d_Mo_bucket_58 rfl ?_
          refine zi_bipush (-5) d_Mo_bucket_59 rfl ?_
          obtain ⟨q_14, eq_14, h⟩ := zbind h
          refine zo_virt (k' := 0) (n' := 0) 64 [.int (-5)] [] [.int q_14.1] zkd_11 (zck_s eu_8) (C_Mo_tell n E S a0 (-5) q_9.2 q_14.1 q_14.2 eq_14) d_Mo_bucket_61 tw_1410 tw_1407 tw_1409 ts_36 tw_13 dd_Mo_tell ⟨Nat.le_of_ble_eq_true rfl, Nat.le_of_ble_eq_true rfl, Nat.le_of_ble_eq_true rfl, Nat.le_of_ble_eq_true rfl⟩ (Nat.le_of_ble_eq_true rfl) rfl rfl rfl rfl ?_
          cases h
          exact zo_ret d_Mo_bucket_64 (Nat.le_of_ble_eq_true rfl) (Nat.le_of_ble_eq_true rfl) rfl
      · rw [if_neg c_10] at h
        refine zi_aload_n 0 d_Mo_bucket_39 rfl ?_
        refine zi_bipush (-3) d_Mo_bucket_40 rfl ?_
        obtain ⟨q_21, eq_21, h⟩ := zbind h
        refine zo_virt (k' := 0) (n' := 0) 45 [.int (-3)] [] [.int q_21.1] zkd_11 (zck_s eu_8) (C_Mo_tell n E S a0 (-3) q_9.2 q_21.1 q_21.2 eq_21) d_Mo_bucket_42 tw_1410 tw_1407 tw_1409 ts_36 tw_13 dd_Mo_tell ⟨Nat.le_of_ble_eq_true rfl, Nat.le_of_ble_eq_true rfl, Nat.le_of_ble_eq_true rfl, Nat.le_of_ble_eq_true rfl⟩ (Nat.le_of_ble_eq_true rfl) rfl rfl rfl rfl ?_
        cases h
        exact zo_ret d_Mo_bucket_45 (Nat.le_of_ble_eq_true rfl) (Nat.le_of_ble_eq_true rfl) rfl
    · rw [if_neg c_7] at h
      refine zi_lo [(0, .ref a0)] [0] rfl ?_
      exact K_Mo_bucket_b24 n E S a0 q_6.2 r M'  h
theorem C_Mo_bucket (n : Nat) (E : zE) (S : zS) (a0 : Nat) (x1 : Int32) (x2 : Int32) (M : zH) (r : Int32) (M' : zH) (h : F_Mo_bucket n E S a0 x1 x2 M = some (r, M')) : zC E Y_Mo_bucket [.ref a0, .int x1, .int x2] S M (some (.int r), S, M') :=
  zC.of (Or.inl (show plainName "NightColanderModel" = true by decide)) (Nat.le_of_ble_eq_true rfl) (trivial) (K_Mo_bucket n E S a0 x1 x2 M r M' h)
theorem d_Mo_setBucket_0 : decode (yB Y_Mo_setBucket) 0 = .ok (.iconst 1, 1) := by decide +kernel
theorem d_Mo_setBucket_1 : decode (yB Y_Mo_setBucket) 1 = .ok (.istore_n 2, 1) := by decide +kernel
theorem d_Mo_setBucket_2 : decode (yB Y_Mo_setBucket) 2 = .ok (.iload_n 2, 1) := by decide +kernel
theorem d_Mo_setBucket_3 : decode (yB Y_Mo_setBucket) 3 = .ok (.iconst 4, 1) := by decide +kernel
theorem d_Mo_setBucket_4 : decode (yB Y_Mo_setBucket) 4 = .ok (.if_icmp .ge 18, 3) := by decide +kernel
theorem d_Mo_setBucket_7 : decode (yB Y_Mo_setBucket) 7 = .ok (.aload_n 0, 1) := by decide +kernel
theorem d_Mo_setBucket_8 : decode (yB Y_Mo_setBucket) 8 = .ok (.getfield 103, 3) := by decide +kernel
theorem d_Mo_setBucket_11 : decode (yB Y_Mo_setBucket) 11 = .ok (.iload_n 2, 1) := by decide +kernel
theorem d_Mo_setBucket_12 : decode (yB Y_Mo_setBucket) 12 = .ok (.ldc2_w 228, 3) := by decide +kernel
theorem d_Mo_setBucket_15 : decode (yB Y_Mo_setBucket) 15 = .ok (.lastore, 1) := by decide +kernel
theorem d_Mo_setBucket_16 : decode (yB Y_Mo_setBucket) 16 = .ok (.iinc 2 1, 3) := by decide +kernel
theorem d_Mo_setBucket_19 : decode (yB Y_Mo_setBucket) 19 = .ok (.goto (-17), 3) := by decide +kernel
theorem d_Mo_setBucket_22 : decode (yB Y_Mo_setBucket) 22 = .ok (.aload_n 0, 1) := by decide +kernel
theorem d_Mo_setBucket_23 : decode (yB Y_Mo_setBucket) 23 = .ok (.getfield 103, 3) := by decide +kernel
theorem d_Mo_setBucket_26 : decode (yB Y_Mo_setBucket) 26 = .ok (.iconst 5, 1) := by decide +kernel
theorem d_Mo_setBucket_27 : decode (yB Y_Mo_setBucket) 27 = .ok (.iload_n 1, 1) := by decide +kernel
theorem d_Mo_setBucket_28 : decode (yB Y_Mo_setBucket) 28 = .ok (.i2l, 1) := by decide +kernel
theorem d_Mo_setBucket_29 : decode (yB Y_Mo_setBucket) 29 = .ok (.lastore, 1) := by decide +kernel
theorem d_Mo_setBucket_30 : decode (yB Y_Mo_setBucket) 30 = .ok (.aload_n 0, 1) := by decide +kernel
theorem d_Mo_setBucket_31 : decode (yB Y_Mo_setBucket) 31 = .ok (.getfield 103, 3) := by decide +kernel
theorem d_Mo_setBucket_34 : decode (yB Y_Mo_setBucket) 34 = .ok (.bipush 6, 2) := by decide +kernel
theorem d_Mo_setBucket_36 : decode (yB Y_Mo_setBucket) 36 = .ok (.aload_n 0, 1) := by decide +kernel
theorem d_Mo_setBucket_37 : decode (yB Y_Mo_setBucket) 37 = .ok (.getfield 13, 3) := by decide +kernel
theorem d_Mo_setBucket_40 : decode (yB Y_Mo_setBucket) 40 = .ok (.bipush 48, 2) := by decide +kernel
theorem d_Mo_setBucket_42 : decode (yB Y_Mo_setBucket) 42 = .ok (.iload_n 1, 1) := by decide +kernel
theorem d_Mo_setBucket_43 : decode (yB Y_Mo_setBucket) 43 = .ok (.iadd, 1) := by decide +kernel
theorem d_Mo_setBucket_44 : decode (yB Y_Mo_setBucket) 44 = .ok (.iaload, 1) := by decide +kernel
theorem d_Mo_setBucket_45 : decode (yB Y_Mo_setBucket) 45 = .ok (.i2l, 1) := by decide +kernel
theorem d_Mo_setBucket_46 : decode (yB Y_Mo_setBucket) 46 = .ok (.lastore, 1) := by decide +kernel
theorem d_Mo_setBucket_47 : decode (yB Y_Mo_setBucket) 47 = .ok (.return_, 1) := by decide +kernel
def F_Mo_setBucket_L2 (n : Nat) (E : zE) (S : zS) (r2 : Nat × Int32 × Int32 × zH → Option (zH)) (a0 : Nat) (x1 : Int32) (x2 : Int32) (M : zH) : Option (zH) :=
  if 4 ≤ x2 then
    (zgR S a0 11 35).bind fun b_2 =>
    (zstJ S M b_2 5 x1.toInt64).bind fun m_3 =>
    (zgR S a0 11 3).bind fun b_4 =>
    (zldI S m_3 b_4 (48 + x1)).bind fun v_5 =>
    (zstJ S m_3 b_2 6 v_5.toInt64).bind fun m_6 =>
    some (m_6)
  else
    (zgR S a0 11 35).bind fun b_7 =>
    (zstJ S M b_7 x2 (-1)).bind fun m_8 =>
    r2 (a0, x1, x2 + 1, m_8)
def F_Mo_setBucket_b2 (n : Nat) (E : zE) (S : zS) : Nat × Int32 × Int32 × zH → Option (zH) := zfix (fun r2 s => F_Mo_setBucket_L2 n E S r2 s.1 s.2.1 s.2.2.1 s.2.2.2) n
def F_Mo_setBucket (n : Nat) (E : zE) (S : zS) (a0 : Nat) (x1 : Int32) (M : zH) : Option (zH) :=
  F_Mo_setBucket_b2 n E S (a0, x1, 1, M)
theorem K_Mo_setBucket_L2 (n : Nat) (E : zE) (S : zS) (r2 : Nat × Int32 × Int32 × zH → Option (zH)) (a0 : Nat) (x1 : Int32) (x2 : Int32) (M : zH) (M' : zH) (hr2 : ∀ (a0 : Nat) (x1 : Int32) (x2 : Int32) (M : zH), r2 (a0, x1, x2, M) = some M' → zG E Y_Mo_setBucket (none, S, M') 2 [(0, .ref a0), (1, .int x1), (2, .int x2)] [] S M 0 0) (h : F_Mo_setBucket_L2 n E S r2 a0 x1 x2 M = some M') : zG E Y_Mo_setBucket (none, S, M') 2 [(0, .ref a0), (1, .int x1), (2, .int x2)] [] S M 0 0 := by
  unfold F_Mo_setBucket_L2 at h
  refine zi_iload_n 2 d_Mo_setBucket_2 rfl ?_
  refine zi_iconst 4 d_Mo_setBucket_3 rfl ?_
  refine zi_icmp_ge (tgt := 22) d_Mo_setBucket_4 rfl (fun c_1 => ?_) (fun c_1 => ?_)
  · rw [if_pos c_1] at h
    refine zi_aload_n 0 d_Mo_setBucket_22 rfl ?_
    obtain ⟨b_2, eb_2, h⟩ := zbind h
    refine zo_getR 26 zkd_11 35 d_Mo_setBucket_23 eb_2 rfl tw_1266 rfl ?_
    refine zi_iconst 5 d_Mo_setBucket_26 rfl ?_
    refine zi_iload_n 1 d_Mo_setBucket_27 rfl ?_
    refine zi_i2l d_Mo_setBucket_28 ?_
    obtain ⟨m_3, em_3, h⟩ := zbind h
    refine zo_last 30 d_Mo_setBucket_29 em_3 rfl ?_
    refine zi_aload_n 0 d_Mo_setBucket_30 rfl ?_
    refine zo_getR 34 zkd_11 35 d_Mo_setBucket_31 eb_2 rfl tw_1266 rfl ?_
    refine zi_bipush 6 d_Mo_setBucket_34 rfl ?_
    refine zi_aload_n 0 d_Mo_setBucket_36 rfl ?_
    obtain ⟨b_4, eb_4, h⟩ := zbind h
    refine zo_getR 40 zkd_11 3 d_Mo_setBucket_37 eb_4 rfl tw_1234 rfl ?_
    refine zi_bipush 48 d_Mo_setBucket_40 rfl ?_
    refine zi_iload_n 1 d_Mo_setBucket_42 rfl ?_
    refine zi_iadd d_Mo_setBucket_43 ?_
    obtain ⟨v_5, ev_5, h⟩ := zbind h
    refine zo_iald 45 d_Mo_setBucket_44 ev_5 rfl ?_
    refine zi_i2l d_Mo_setBucket_45 ?_
    obtain ⟨m_6, em_6, h⟩ := zbind h
    refine zo_last 47 d_Mo_setBucket_46 em_6 rfl ?_
    cases h
    exact zo_ret d_Mo_setBucket_47 (Nat.le_of_ble_eq_true rfl) (Nat.le_of_ble_eq_true rfl) rfl
  · rw [if_neg c_1] at h
    refine zi_aload_n 0 d_Mo_setBucket_7 rfl ?_
    obtain ⟨b_7, eb_7, h⟩ := zbind h
    refine zo_getR 11 zkd_11 35 d_Mo_setBucket_8 eb_7 rfl tw_1266 rfl ?_
    refine zi_iload_n 2 d_Mo_setBucket_11 rfl ?_
    refine zi_ldc2 d_Mo_setBucket_12 tw_1449 ?_
    obtain ⟨m_8, em_8, h⟩ := zbind h
    refine zo_last 16 d_Mo_setBucket_15 em_8 rfl ?_
    refine zi_iinc 2 (x2 + 1) [(2, .int (x2 + 1)), (0, .ref a0), (1, .int x1)] d_Mo_setBucket_16 rfl rfl (by decide) rfl ?_
    refine zi_goto (tgt := 2) d_Mo_setBucket_19 rfl ?_
    refine zi_lo [(0, .ref a0), (1, .int x1), (2, .int (x2 + 1))] [1, 2, 0] rfl ?_
    exact hr2 a0 x1 (x2 + 1) m_8 h
theorem K_Mo_setBucket_b2 (n : Nat) (E : zE) (S : zS) (a0 : Nat) (x1 : Int32) (x2 : Int32) (M : zH) (M' : zH)  (h : F_Mo_setBucket_b2 n E S (a0, x1, x2, M) = some M') : zG E Y_Mo_setBucket (none, S, M') 2 [(0, .ref a0), (1, .int x1), (2, .int x2)] [] S M 0 0 := by
  have key : ∀ (k : Nat) (a0 : Nat) (x1 : Int32) (x2 : Int32) (M : zH), zfix (fun r2 s => F_Mo_setBucket_L2 n E S r2 s.1 s.2.1 s.2.2.1 s.2.2.2) k (a0, x1, x2, M) = some M' → zG E Y_Mo_setBucket (none, S, M') 2 [(0, .ref a0), (1, .int x1), (2, .int x2)] [] S M 0 0 := by
    intro k
    induction k with
    | zero => intro a0 x1 x2 M h; cases h
    | succ k ih => intro a0 x1 x2 M h; exact K_Mo_setBucket_L2 n E S _ a0 x1 x2 M M'  (fun a0 x1 x2 M h => ih a0 x1 x2 M h) h
  exact key n a0 x1 x2 M h
theorem K_Mo_setBucket (n : Nat) (E : zE) (S : zS) (a0 : Nat) (x1 : Int32) (M : zH) (M' : zH)  (h : F_Mo_setBucket n E S a0 x1 M = some M') : zG E Y_Mo_setBucket (none, S, M') 0 [(0, .ref a0), (1, .int x1)] [] S M 0 0 := by
  unfold F_Mo_setBucket at h
  refine zi_iconst 1 d_Mo_setBucket_0 rfl ?_
  refine zi_istore_n [(2, .int 1), (0, .ref a0), (1, .int x1)] d_Mo_setBucket_1 (by decide) rfl ?_
  refine zi_lo [(0, .ref a0), (1, .int x1), (2, .int 1)] [1, 2, 0] rfl ?_
  exact K_Mo_setBucket_b2 n E S a0 x1 1 M M'  h
theorem C_Mo_setBucket (n : Nat) (E : zE) (S : zS) (a0 : Nat) (x1 : Int32) (M : zH) (M' : zH) (h : F_Mo_setBucket n E S a0 x1 M = some M') : zC E Y_Mo_setBucket [.ref a0, .int x1] S M (none, S, M') :=
  zC.of (Or.inl (show plainName "NightColanderModel" = true by decide)) (Nat.le_of_ble_eq_true rfl) (trivial) (K_Mo_setBucket n E S a0 x1 M M' h)
theorem d_Mo_isBarred_0 : decode (yB Y_Mo_isBarred) 0 = .ok (.aload_n 0, 1) := by decide +kernel
theorem d_Mo_isBarred_1 : decode (yB Y_Mo_isBarred) 1 = .ok (.iload_n 1, 1) := by decide +kernel
theorem d_Mo_isBarred_2 : decode (yB Y_Mo_isBarred) 2 = .ok (.invokevirtual 439, 3) := by decide +kernel
theorem d_Mo_isBarred_5 : decode (yB Y_Mo_isBarred) 5 = .ok (.aload_n 0, 1) := by decide +kernel
theorem d_Mo_isBarred_6 : decode (yB Y_Mo_isBarred) 6 = .ok (.iconst 3, 1) := by decide +kernel
theorem d_Mo_isBarred_7 : decode (yB Y_Mo_isBarred) 7 = .ok (.iload_n 2, 1) := by decide +kernel
theorem d_Mo_isBarred_8 : decode (yB Y_Mo_isBarred) 8 = .ok (.lconst 0, 1) := by decide +kernel
theorem d_Mo_isBarred_9 : decode (yB Y_Mo_isBarred) 9 = .ok (.invokevirtual 431, 3) := by decide +kernel
theorem d_Mo_isBarred_12 : decode (yB Y_Mo_isBarred) 12 = .ok (.lconst 1, 1) := by decide +kernel
theorem d_Mo_isBarred_13 : decode (yB Y_Mo_isBarred) 13 = .ok (.lcmp, 1) := by decide +kernel
theorem d_Mo_isBarred_14 : decode (yB Y_Mo_isBarred) 14 = .ok (.ifCond .ne 7, 3) := by decide +kernel
theorem d_Mo_isBarred_17 : decode (yB Y_Mo_isBarred) 17 = .ok (.iconst 1, 1) := by decide +kernel
theorem d_Mo_isBarred_18 : decode (yB Y_Mo_isBarred) 18 = .ok (.goto 4, 3) := by decide +kernel
theorem d_Mo_isBarred_21 : decode (yB Y_Mo_isBarred) 21 = .ok (.iconst 0, 1) := by decide +kernel
theorem d_Mo_isBarred_22 : decode (yB Y_Mo_isBarred) 22 = .ok (.ireturn, 1) := by decide +kernel
def F_Mo_isBarred (n : Nat) (E : zE) (S : zS) (a0 : Nat) (x1 : Int32) (x2 : Int32) (M : zH) : Option (Bool × zH) :=
  (zck S a0 11).bind fun u_1 =>
  (F_Mo_setBucket n E S a0 x1 M).bind fun q_2 =>
  (F_Mo_tells n E S a0 3 x2 0 q_2).bind fun q_3 =>
  if q_3.1 = 1 then
    some (true, q_3.2)
  else
    some (false, q_3.2)
theorem K_Mo_isBarred (n : Nat) (E : zE) (S : zS) (a0 : Nat) (x1 : Int32) (x2 : Int32) (M : zH) (r : Bool) (M' : zH)  (h : F_Mo_isBarred n E S a0 x1 x2 M = some (r, M')) : zG E Y_Mo_isBarred (some (.int (bI r)), S, M') 0 [(0, .ref a0), (1, .int x1), (2, .int x2)] [] S M 0 0 := by
  unfold F_Mo_isBarred at h
  refine zi_aload_n 0 d_Mo_isBarred_0 rfl ?_
  refine zi_iload_n 1 d_Mo_isBarred_1 rfl ?_
  obtain ⟨u_1, eu_1, h⟩ := zbind h
  obtain ⟨q_2, eq_2, h⟩ := zbind h
  refine zo_virt (k' := 0) (n' := 0) 5 [.int x1] [] [] zkd_11 (zck_s eu_1) (C_Mo_setBucket n E S a0 x1 M q_2 eq_2) d_Mo_isBarred_2 tw_1504 tw_1501 tw_1503 ts_48 tw_13 dd_Mo_setBucket ⟨Nat.le_of_ble_eq_true rfl, Nat.le_of_ble_eq_true rfl, Nat.le_of_ble_eq_true rfl, Nat.le_of_ble_eq_true rfl⟩ (Nat.le_of_ble_eq_true rfl) rfl rfl rfl rfl ?_
  refine zi_aload_n 0 d_Mo_isBarred_5 rfl ?_
  refine zi_iconst 3 d_Mo_isBarred_6 rfl ?_
  refine zi_iload_n 2 d_Mo_isBarred_7 rfl ?_
  refine zi_lconst 0 d_Mo_isBarred_8 rfl ?_
  obtain ⟨q_3, eq_3, h⟩ := zbind h
  refine zo_virt (k' := 0) (n' := 0) 12 [.int 3, .int x2, .long 0] [] [.long q_3.1] zkd_11 (zck_s eu_1) (C_Mo_tells n E S a0 3 x2 0 q_2 q_3.1 q_3.2 eq_3) d_Mo_isBarred_9 tw_1453 tw_1450 tw_1452 ts_40 tw_13 dd_Mo_tells ⟨Nat.le_of_ble_eq_true rfl, Nat.le_of_ble_eq_true rfl, Nat.le_of_ble_eq_true rfl, Nat.le_of_ble_eq_true rfl⟩ (Nat.le_of_ble_eq_true rfl) rfl rfl rfl rfl ?_
  refine zi_lconst 1 d_Mo_isBarred_12 rfl ?_
  refine zo_lc_ne d_Mo_isBarred_13 d_Mo_isBarred_14 rfl 17 rfl (fun c_4 => ?_) (fun c_4 => ?_)
  · rw [if_neg c_4] at h
    refine zi_iconst 0 d_Mo_isBarred_21 rfl ?_
    cases h
    exact zo_retB d_Mo_isBarred_22 (Nat.le_of_ble_eq_true rfl) (Nat.le_of_ble_eq_true rfl) rfl
  · rw [if_pos c_4] at h
    refine zi_iconst 1 d_Mo_isBarred_17 rfl ?_
    refine zi_goto (tgt := 22) d_Mo_isBarred_18 rfl ?_
    cases h
    exact zo_retB d_Mo_isBarred_22 (Nat.le_of_ble_eq_true rfl) (Nat.le_of_ble_eq_true rfl) rfl
theorem C_Mo_isBarred (n : Nat) (E : zE) (S : zS) (a0 : Nat) (x1 : Int32) (x2 : Int32) (M : zH) (r : Bool) (M' : zH) (h : F_Mo_isBarred n E S a0 x1 x2 M = some (r, M')) : zC E Y_Mo_isBarred [.ref a0, .int x1, .int x2] S M (some (.int (bI r)), S, M') :=
  zC.of (Or.inl (show plainName "NightColanderModel" = true by decide)) (Nat.le_of_ble_eq_true rfl) (bI_nar r) (K_Mo_isBarred n E S a0 x1 x2 M r M' h)
theorem d_Mo_leaksOf_0 : decode (yB Y_Mo_leaksOf) 0 = .ok (.aload_n 0, 1) := by decide +kernel
theorem d_Mo_leaksOf_1 : decode (yB Y_Mo_leaksOf) 1 = .ok (.iload_n 1, 1) := by decide +kernel
theorem d_Mo_leaksOf_2 : decode (yB Y_Mo_leaksOf) 2 = .ok (.invokevirtual 439, 3) := by decide +kernel
theorem d_Mo_leaksOf_5 : decode (yB Y_Mo_leaksOf) 5 = .ok (.aload_n 0, 1) := by decide +kernel
theorem d_Mo_leaksOf_6 : decode (yB Y_Mo_leaksOf) 6 = .ok (.iconst 1, 1) := by decide +kernel
theorem d_Mo_leaksOf_7 : decode (yB Y_Mo_leaksOf) 7 = .ok (.aload_n 0, 1) := by decide +kernel
theorem d_Mo_leaksOf_8 : decode (yB Y_Mo_leaksOf) 8 = .ok (.getfield 13, 3) := by decide +kernel
theorem d_Mo_leaksOf_11 : decode (yB Y_Mo_leaksOf) 11 = .ok (.bipush 51, 2) := by decide +kernel
theorem d_Mo_leaksOf_13 : decode (yB Y_Mo_leaksOf) 13 = .ok (.iload_n 1, 1) := by decide +kernel
theorem d_Mo_leaksOf_14 : decode (yB Y_Mo_leaksOf) 14 = .ok (.iadd, 1) := by decide +kernel
theorem d_Mo_leaksOf_15 : decode (yB Y_Mo_leaksOf) 15 = .ok (.iaload, 1) := by decide +kernel
theorem d_Mo_leaksOf_16 : decode (yB Y_Mo_leaksOf) 16 = .ok (.lconst 0, 1) := by decide +kernel
theorem d_Mo_leaksOf_17 : decode (yB Y_Mo_leaksOf) 17 = .ok (.invokevirtual 431, 3) := by decide +kernel
theorem d_Mo_leaksOf_20 : decode (yB Y_Mo_leaksOf) 20 = .ok (.iconst 0, 1) := by decide +kernel
theorem d_Mo_leaksOf_21 : decode (yB Y_Mo_leaksOf) 21 = .ok (.bipush 9, 2) := by decide +kernel
theorem d_Mo_leaksOf_23 : decode (yB Y_Mo_leaksOf) 23 = .ok (.invokestatic 435, 3) := by decide +kernel
theorem d_Mo_leaksOf_26 : decode (yB Y_Mo_leaksOf) 26 = .ok (.ireturn, 1) := by decide +kernel
def F_Mo_leaksOf (n : Nat) (E : zE) (S : zS) (a0 : Nat) (x1 : Int32) (M : zH) : Option (Int32 × zH) :=
  (zck S a0 11).bind fun u_1 =>
  (F_Mo_setBucket n E S a0 x1 M).bind fun q_2 =>
  (zgR S a0 11 3).bind fun b_3 =>
  (zldI S q_2 b_3 (51 + x1)).bind fun v_4 =>
  (F_Mo_tells n E S a0 1 v_4 0 q_2).bind fun q_5 =>
  (F_Mo_within n E S q_5.1 0 9 q_5.2).bind fun q_6 =>
  some (q_6.1, q_6.2)
theorem K_Mo_leaksOf (n : Nat) (E : zE) (S : zS) (a0 : Nat) (x1 : Int32) (M : zH) (r : Int32) (M' : zH)  (h : F_Mo_leaksOf n E S a0 x1 M = some (r, M')) : zG E Y_Mo_leaksOf (some (.int r), S, M') 0 [(0, .ref a0), (1, .int x1)] [] S M 0 0 := by
  unfold F_Mo_leaksOf at h
  refine zi_aload_n 0 d_Mo_leaksOf_0 rfl ?_
  refine zi_iload_n 1 d_Mo_leaksOf_1 rfl ?_
  obtain ⟨u_1, eu_1, h⟩ := zbind h
  obtain ⟨q_2, eq_2, h⟩ := zbind h
  refine zo_virt (k' := 0) (n' := 0) 5 [.int x1] [] [] zkd_11 (zck_s eu_1) (C_Mo_setBucket n E S a0 x1 M q_2 eq_2) d_Mo_leaksOf_2 tw_1504 tw_1501 tw_1503 ts_48 tw_13 dd_Mo_setBucket ⟨Nat.le_of_ble_eq_true rfl, Nat.le_of_ble_eq_true rfl, Nat.le_of_ble_eq_true rfl, Nat.le_of_ble_eq_true rfl⟩ (Nat.le_of_ble_eq_true rfl) rfl rfl rfl rfl ?_
  refine zi_aload_n 0 d_Mo_leaksOf_5 rfl ?_
  refine zi_iconst 1 d_Mo_leaksOf_6 rfl ?_
  refine zi_aload_n 0 d_Mo_leaksOf_7 rfl ?_
  obtain ⟨b_3, eb_3, h⟩ := zbind h
  refine zo_getR 11 zkd_11 3 d_Mo_leaksOf_8 eb_3 rfl tw_1234 rfl ?_
  refine zi_bipush 51 d_Mo_leaksOf_11 rfl ?_
  refine zi_iload_n 1 d_Mo_leaksOf_13 rfl ?_
  refine zi_iadd d_Mo_leaksOf_14 ?_
  obtain ⟨v_4, ev_4, h⟩ := zbind h
  refine zo_iald 16 d_Mo_leaksOf_15 ev_4 rfl ?_
  refine zi_lconst 0 d_Mo_leaksOf_16 rfl ?_
  obtain ⟨q_5, eq_5, h⟩ := zbind h
  refine zo_virt (k' := 0) (n' := 0) 20 [.int 1, .int v_4, .long 0] [] [.long q_5.1] zkd_11 (zck_s eu_1) (C_Mo_tells n E S a0 1 v_4 0 q_2 q_5.1 q_5.2 eq_5) d_Mo_leaksOf_17 tw_1453 tw_1450 tw_1452 ts_40 tw_13 dd_Mo_tells ⟨Nat.le_of_ble_eq_true rfl, Nat.le_of_ble_eq_true rfl, Nat.le_of_ble_eq_true rfl, Nat.le_of_ble_eq_true rfl⟩ (Nat.le_of_ble_eq_true rfl) rfl rfl rfl rfl ?_
  refine zi_iconst 0 d_Mo_leaksOf_20 rfl ?_
  refine zi_bipush 9 d_Mo_leaksOf_21 rfl ?_
  obtain ⟨q_6, eq_6, h⟩ := zbind h
  refine zo_stat (k' := 0) (n' := 0) 26 [.long q_5.1, .int 0, .int 9] [] [.int q_6.1] (C_Mo_within n E S q_5.1 0 9 q_5.2 q_6.1 q_6.2 eq_6) d_Mo_leaksOf_23 tw_1474 tw_1472 tw_1473 tw_13 dd_Mo_within ⟨Nat.le_of_ble_eq_true rfl, Nat.le_of_ble_eq_true rfl, Nat.le_of_ble_eq_true rfl, Nat.le_of_ble_eq_true rfl⟩ (Nat.le_of_ble_eq_true rfl) rfl rfl rfl rfl ?_
  cases h
  exact zo_ret d_Mo_leaksOf_26 (Nat.le_of_ble_eq_true rfl) (Nat.le_of_ble_eq_true rfl) rfl
theorem C_Mo_leaksOf (n : Nat) (E : zE) (S : zS) (a0 : Nat) (x1 : Int32) (M : zH) (r : Int32) (M' : zH) (h : F_Mo_leaksOf n E S a0 x1 M = some (r, M')) : zC E Y_Mo_leaksOf [.ref a0, .int x1] S M (some (.int r), S, M') :=
  zC.of (Or.inl (show plainName "NightColanderModel" = true by decide)) (Nat.le_of_ble_eq_true rfl) (trivial) (K_Mo_leaksOf n E S a0 x1 M r M' h)
theorem d_Mo_paysOf_0 : decode (yB Y_Mo_paysOf) 0 = .ok (.aload_n 0, 1) := by decide +kernel
theorem d_Mo_paysOf_1 : decode (yB Y_Mo_paysOf) 1 = .ok (.iload_n 1, 1) := by decide +kernel
theorem d_Mo_paysOf_2 : decode (yB Y_Mo_paysOf) 2 = .ok (.invokevirtual 439, 3) := by decide +kernel
theorem d_Mo_paysOf_5 : decode (yB Y_Mo_paysOf) 5 = .ok (.aload_n 0, 1) := by decide +kernel
theorem d_Mo_paysOf_6 : decode (yB Y_Mo_paysOf) 6 = .ok (.iconst 2, 1) := by decide +kernel
theorem d_Mo_paysOf_7 : decode (yB Y_Mo_paysOf) 7 = .ok (.iload_n 2, 1) := by decide +kernel
theorem d_Mo_paysOf_8 : decode (yB Y_Mo_paysOf) 8 = .ok (.lconst 1, 1) := by decide +kernel
theorem d_Mo_paysOf_9 : decode (yB Y_Mo_paysOf) 9 = .ok (.invokevirtual 431, 3) := by decide +kernel
theorem d_Mo_paysOf_12 : decode (yB Y_Mo_paysOf) 12 = .ok (.iconst 0, 1) := by decide +kernel
theorem d_Mo_paysOf_13 : decode (yB Y_Mo_paysOf) 13 = .ok (.bipush 99, 2) := by decide +kernel
theorem d_Mo_paysOf_15 : decode (yB Y_Mo_paysOf) 15 = .ok (.invokestatic 435, 3) := by decide +kernel
theorem d_Mo_paysOf_18 : decode (yB Y_Mo_paysOf) 18 = .ok (.ireturn, 1) := by decide +kernel
def F_Mo_paysOf (n : Nat) (E : zE) (S : zS) (a0 : Nat) (x1 : Int32) (x2 : Int32) (M : zH) : Option (Int32 × zH) :=
  (zck S a0 11).bind fun u_1 =>
  (F_Mo_setBucket n E S a0 x1 M).bind fun q_2 =>
  (F_Mo_tells n E S a0 2 x2 1 q_2).bind fun q_3 =>
  (F_Mo_within n E S q_3.1 0 99 q_3.2).bind fun q_4 =>
  some (q_4.1, q_4.2)
theorem K_Mo_paysOf (n : Nat) (E : zE) (S : zS) (a0 : Nat) (x1 : Int32) (x2 : Int32) (M : zH) (r : Int32) (M' : zH)  (h : F_Mo_paysOf n E S a0 x1 x2 M = some (r, M')) : zG E Y_Mo_paysOf (some (.int r), S, M') 0 [(0, .ref a0), (1, .int x1), (2, .int x2)] [] S M 0 0 := by
  unfold F_Mo_paysOf at h
  refine zi_aload_n 0 d_Mo_paysOf_0 rfl ?_
  refine zi_iload_n 1 d_Mo_paysOf_1 rfl ?_
  obtain ⟨u_1, eu_1, h⟩ := zbind h
  obtain ⟨q_2, eq_2, h⟩ := zbind h
  refine zo_virt (k' := 0) (n' := 0) 5 [.int x1] [] [] zkd_11 (zck_s eu_1) (C_Mo_setBucket n E S a0 x1 M q_2 eq_2) d_Mo_paysOf_2 tw_1504 tw_1501 tw_1503 ts_48 tw_13 dd_Mo_setBucket ⟨Nat.le_of_ble_eq_true rfl, Nat.le_of_ble_eq_true rfl, Nat.le_of_ble_eq_true rfl, Nat.le_of_ble_eq_true rfl⟩ (Nat.le_of_ble_eq_true rfl) rfl rfl rfl rfl ?_
  refine zi_aload_n 0 d_Mo_paysOf_5 rfl ?_
  refine zi_iconst 2 d_Mo_paysOf_6 rfl ?_
  refine zi_iload_n 2 d_Mo_paysOf_7 rfl ?_
  refine zi_lconst 1 d_Mo_paysOf_8 rfl ?_
  obtain ⟨q_3, eq_3, h⟩ := zbind h
  refine zo_virt (k' := 0) (n' := 0) 12 [.int 2, .int x2, .long 1] [] [.long q_3.1] zkd_11 (zck_s eu_1) (C_Mo_tells n E S a0 2 x2 1 q_2 q_3.1 q_3.2 eq_3) d_Mo_paysOf_9 tw_1453 tw_1450 tw_1452 ts_40 tw_13 dd_Mo_tells ⟨Nat.le_of_ble_eq_true rfl, Nat.le_of_ble_eq_true rfl, Nat.le_of_ble_eq_true rfl, Nat.le_of_ble_eq_true rfl⟩ (Nat.le_of_ble_eq_true rfl) rfl rfl rfl rfl ?_
  refine zi_iconst 0 d_Mo_paysOf_12 rfl ?_
  refine zi_bipush 99 d_Mo_paysOf_13 rfl ?_
  obtain ⟨q_4, eq_4, h⟩ := zbind h
  refine zo_stat (k' := 0) (n' := 0) 18 [.long q_3.1, .int 0, .int 99] [] [.int q_4.1] (C_Mo_within n E S q_3.1 0 99 q_3.2 q_4.1 q_4.2 eq_4) d_Mo_paysOf_15 tw_1474 tw_1472 tw_1473 tw_13 dd_Mo_within ⟨Nat.le_of_ble_eq_true rfl, Nat.le_of_ble_eq_true rfl, Nat.le_of_ble_eq_true rfl, Nat.le_of_ble_eq_true rfl⟩ (Nat.le_of_ble_eq_true rfl) rfl rfl rfl rfl ?_
  cases h
  exact zo_ret d_Mo_paysOf_18 (Nat.le_of_ble_eq_true rfl) (Nat.le_of_ble_eq_true rfl) rfl
theorem C_Mo_paysOf (n : Nat) (E : zE) (S : zS) (a0 : Nat) (x1 : Int32) (x2 : Int32) (M : zH) (r : Int32) (M' : zH) (h : F_Mo_paysOf n E S a0 x1 x2 M = some (r, M')) : zC E Y_Mo_paysOf [.ref a0, .int x1, .int x2] S M (some (.int r), S, M') :=
  zC.of (Or.inl (show plainName "NightColanderModel" = true by decide)) (Nat.le_of_ble_eq_true rfl) (trivial) (K_Mo_paysOf n E S a0 x1 x2 M r M' h)
