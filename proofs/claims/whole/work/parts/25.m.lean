/-! METHODS (printed by gen/build.py): Ps_readOrder Ps_readComparison Ps_readTestInBrackets Ps_readPlain Te_leapHere Ps_readBoth Ps_readTest Te_closeClause Te_openClause Ps_readClause Ta_atEnd Ta_place Ta_rewind Te_clear Ps_parse -/
theorem d_Ps_readOrder_0 : decode (yB Y_Ps_readOrder) 0 = .ok (.iload_n 1, 1) := by decide +kernel
theorem d_Ps_readOrder_1 : decode (yB Y_Ps_readOrder) 1 = .ok (.iconst 3, 1) := by decide +kernel
theorem d_Ps_readOrder_2 : decode (yB Y_Ps_readOrder) 2 = .ok (.if_icmp .eq 24, 3) := by decide +kernel
theorem d_Ps_readOrder_5 : decode (yB Y_Ps_readOrder) 5 = .ok (.aload_n 0, 1) := by decide +kernel
theorem d_Ps_readOrder_6 : decode (yB Y_Ps_readOrder) 6 = .ok (.iload_n 1, 1) := by decide +kernel
theorem d_Ps_readOrder_7 : decode (yB Y_Ps_readOrder) 7 = .ok (.iconst 2, 1) := by decide +kernel
theorem d_Ps_readOrder_8 : decode (yB Y_Ps_readOrder) 8 = .ok (.if_icmp .ne 8, 3) := by decide +kernel
theorem d_Ps_readOrder_11 : decode (yB Y_Ps_readOrder) 11 = .ok (.ldc 93, 2) := by decide +kernel
theorem d_Ps_readOrder_13 : decode (yB Y_Ps_readOrder) 13 = .ok (.goto 5, 3) := by decide +kernel
theorem d_Ps_readOrder_16 : decode (yB Y_Ps_readOrder) 16 = .ok (.ldc 95, 2) := by decide +kernel
theorem d_Ps_readOrder_18 : decode (yB Y_Ps_readOrder) 18 = .ok (.invokevirtual 97, 3) := by decide +kernel
theorem d_Ps_readOrder_21 : decode (yB Y_Ps_readOrder) 21 = .ok (.ifCond .ne 5, 3) := by decide +kernel
theorem d_Ps_readOrder_24 : decode (yB Y_Ps_readOrder) 24 = .ok (.iconst 0, 1) := by decide +kernel
theorem d_Ps_readOrder_25 : decode (yB Y_Ps_readOrder) 25 = .ok (.ireturn, 1) := by decide +kernel
theorem d_Ps_readOrder_26 : decode (yB Y_Ps_readOrder) 26 = .ok (.aload_n 0, 1) := by decide +kernel
theorem d_Ps_readOrder_27 : decode (yB Y_Ps_readOrder) 27 = .ok (.getfield 26, 3) := by decide +kernel
theorem d_Ps_readOrder_30 : decode (yB Y_Ps_readOrder) 30 = .ok (.ldc 100, 2) := by decide +kernel
theorem d_Ps_readOrder_32 : decode (yB Y_Ps_readOrder) 32 = .ok (.invokevirtual 77, 3) := by decide +kernel
theorem d_Ps_readOrder_35 : decode (yB Y_Ps_readOrder) 35 = .ok (.ifCond .eq 46, 3) := by decide +kernel
theorem d_Ps_readOrder_38 : decode (yB Y_Ps_readOrder) 38 = .ok (.aload_n 0, 1) := by decide +kernel
theorem d_Ps_readOrder_39 : decode (yB Y_Ps_readOrder) 39 = .ok (.getfield 26, 3) := by decide +kernel
theorem d_Ps_readOrder_42 : decode (yB Y_Ps_readOrder) 42 = .ok (.invokevirtual 53, 3) := by decide +kernel
theorem d_Ps_readOrder_45 : decode (yB Y_Ps_readOrder) 45 = .ok (.aload_n 0, 1) := by decide +kernel
theorem d_Ps_readOrder_46 : decode (yB Y_Ps_readOrder) 46 = .ok (.getfield 26, 3) := by decide +kernel
theorem d_Ps_readOrder_49 : decode (yB Y_Ps_readOrder) 49 = .ok (.iconst 1, 1) := by decide +kernel
theorem d_Ps_readOrder_50 : decode (yB Y_Ps_readOrder) 50 = .ok (.bipush 20, 2) := by decide +kernel
theorem d_Ps_readOrder_52 : decode (yB Y_Ps_readOrder) 52 = .ok (.invokevirtual 102, 3) := by decide +kernel
theorem d_Ps_readOrder_55 : decode (yB Y_Ps_readOrder) 55 = .ok (.ifCond .ne 5, 3) := by decide +kernel
theorem d_Ps_readOrder_58 : decode (yB Y_Ps_readOrder) 58 = .ok (.iconst 0, 1) := by decide +kernel
theorem d_Ps_readOrder_59 : decode (yB Y_Ps_readOrder) 59 = .ok (.ireturn, 1) := by decide +kernel
theorem d_Ps_readOrder_60 : decode (yB Y_Ps_readOrder) 60 = .ok (.aload_n 0, 1) := by decide +kernel
theorem d_Ps_readOrder_61 : decode (yB Y_Ps_readOrder) 61 = .ok (.getfield 12, 3) := by decide +kernel
theorem d_Ps_readOrder_64 : decode (yB Y_Ps_readOrder) 64 = .ok (.aload_n 0, 1) := by decide +kernel
theorem d_Ps_readOrder_65 : decode (yB Y_Ps_readOrder) 65 = .ok (.getfield 26, 3) := by decide +kernel
theorem d_Ps_readOrder_68 : decode (yB Y_Ps_readOrder) 68 = .ok (.invokevirtual 106, 3) := by decide +kernel
theorem d_Ps_readOrder_71 : decode (yB Y_Ps_readOrder) 71 = .ok (.invokevirtual 109, 3) := by decide +kernel
theorem d_Ps_readOrder_74 : decode (yB Y_Ps_readOrder) 74 = .ok (.aload_n 0, 1) := by decide +kernel
theorem d_Ps_readOrder_75 : decode (yB Y_Ps_readOrder) 75 = .ok (.getfield 26, 3) := by decide +kernel
theorem d_Ps_readOrder_78 : decode (yB Y_Ps_readOrder) 78 = .ok (.invokevirtual 53, 3) := by decide +kernel
theorem d_Ps_readOrder_81 : decode (yB Y_Ps_readOrder) 81 = .ok (.iconst 1, 1) := by decide +kernel
theorem d_Ps_readOrder_82 : decode (yB Y_Ps_readOrder) 82 = .ok (.ireturn, 1) := by decide +kernel
def F_Ps_readOrder_b26 (n : Nat) (E : zE) (S : zS) (a0 : Nat) (M : zH) : Option (Bool × zH) :=
  (zgR S a0 5 1).bind fun b_1 =>
  (zck S b_1 8).bind fun u_2 =>
  (F_Ta_atWord n E S b_1 8 M).bind fun q_3 =>
  if q_3.1 = true then
    (F_Ta_advance n E S b_1 q_3.2).bind fun q_5 =>
    (F_Ta_atNumber n E S b_1 1 20 q_5).bind fun q_6 =>
    if q_6.1 = true then
      (zgR S a0 5 0).bind fun b_8 =>
      (F_Ta_number n E S b_1 q_6.2).bind fun q_9 =>
      (zck S b_8 9).bind fun u_10 =>
      (F_Te_setTimes n E S b_8 q_9.1 q_9.2).bind fun q_11 =>
      (F_Ta_advance n E S b_1 q_11).bind fun q_12 =>
      some (true, q_12)
    else
      some (false, q_6.2)
  else
    some (true, q_3.2)
def F_Ps_readOrder_b18 (n : Nat) (E : zE) (S : zS) (a0 : Nat) (l0 : Nat) (u1 : Nat) (M : zH) : Option (Bool × zH) :=
  (zck S u1 5).bind fun u_13 =>
  (F_Ps_readTwoSums n E S u1 l0 M).bind fun q_14 =>
  if q_14.1 = true then
    F_Ps_readOrder_b26 n E S a0 q_14.2
  else
    some (false, q_14.2)
def F_Ps_readOrder (n : Nat) (E : zE) (S : zS) (a0 : Nat) (x1 : Int32) (M : zH) : Option (Bool × zH) :=
  if x1 = 3 then
    F_Ps_readOrder_b26 n E S a0 M
  else
    if x1 = 2 then
      F_Ps_readOrder_b18 n E S a0 2 a0 M
    else
      F_Ps_readOrder_b18 n E S a0 3 a0 M
theorem K_Ps_readOrder_b26 (n : Nat) (E : zE) (S : zS) (a0 : Nat) (M : zH) (r : Bool) (M' : zH)  (h : F_Ps_readOrder_b26 n E S a0 M = some (r, M')) : zG E Y_Ps_readOrder (some (.int (bI r)), S, M') 26 [(0, .ref a0)] [] S M 0 0 := by
  unfold F_Ps_readOrder_b26 at h
  refine zi_aload_n 0 d_Ps_readOrder_26 rfl ?_
  obtain ⟨b_1, eb_1, h⟩ := zbind h
  refine zo_getR 30 zkd_5 1 d_Ps_readOrder_27 eb_1 rfl tw_217 rfl ?_
  refine zi_ldcS d_Ps_readOrder_30 (zlit_8 E) ?_
  obtain ⟨u_2, eu_2, h⟩ := zbind h
  obtain ⟨q_3, eq_3, h⟩ := zbind h
  refine zo_virt (k' := 0) (n' := 0) 35 [.ref (eK E 8)] [] [.int (bI q_3.1)] zkd_8 (zck_s eu_2) (C_Ta_atWord n E S b_1 8 M q_3.1 q_3.2 eq_3) d_Ps_readOrder_32 tw_780 tw_777 tw_778 tw_779 tw_5 dd_Ta_atWord ⟨Nat.le_of_ble_eq_true rfl, Nat.le_of_ble_eq_true rfl, Nat.le_of_ble_eq_true rfl, Nat.le_of_ble_eq_true rfl⟩ (Nat.le_of_ble_eq_true rfl) rfl rfl rfl rfl ?_
  refine zo_ifeqB d_Ps_readOrder_35 rfl 38 rfl (fun c_4 => ?_) (fun c_4 => ?_)
  · rw [if_neg c_4] at h
    refine zi_iconst 1 d_Ps_readOrder_81 rfl ?_
    cases h
    exact zo_retB d_Ps_readOrder_82 (Nat.le_of_ble_eq_true rfl) (Nat.le_of_ble_eq_true rfl) rfl
  · rw [if_pos c_4] at h
    refine zi_aload_n 0 d_Ps_readOrder_38 rfl ?_
    refine zo_getR 42 zkd_5 1 d_Ps_readOrder_39 eb_1 rfl tw_217 rfl ?_
    obtain ⟨q_5, eq_5, h⟩ := zbind h
    refine zo_virt (k' := 0) (n' := 0) 45 [] [] [] zkd_8 (zck_s eu_2) (C_Ta_advance n E S b_1 q_3.2 q_5 eq_5) d_Ps_readOrder_42 tw_575 tw_655 tw_573 tw_574 tw_5 dd_Ta_advance ⟨Nat.le_of_ble_eq_true rfl, Nat.le_of_ble_eq_true rfl, Nat.le_of_ble_eq_true rfl, Nat.le_of_ble_eq_true rfl⟩ (Nat.le_of_ble_eq_true rfl) rfl rfl rfl rfl ?_
    refine zi_aload_n 0 d_Ps_readOrder_45 rfl ?_
    refine zo_getR 49 zkd_5 1 d_Ps_readOrder_46 eb_1 rfl tw_217 rfl ?_
    refine zi_iconst 1 d_Ps_readOrder_49 rfl ?_
    refine zi_bipush 20 d_Ps_readOrder_50 rfl ?_
    obtain ⟨q_6, eq_6, h⟩ := zbind h
    refine zo_virt (k' := 0) (n' := 0) 55 [.int 1, .int 20] [] [.int (bI q_6.1)] zkd_8 (zck_s eu_2) (C_Ta_atNumber n E S b_1 1 20 q_5 q_6.1 q_6.2 eq_6) d_Ps_readOrder_52 tw_689 tw_686 tw_687 tw_688 tw_5 dd_Ta_atNumber ⟨Nat.le_of_ble_eq_true rfl, Nat.le_of_ble_eq_true rfl, Nat.le_of_ble_eq_true rfl, Nat.le_of_ble_eq_true rfl⟩ (Nat.le_of_ble_eq_true rfl) rfl rfl rfl rfl ?_
    refine zo_ifneB d_Ps_readOrder_55 rfl 58 rfl (fun c_7 => ?_) (fun c_7 => ?_)
    · rw [if_pos c_7] at h
      refine zi_aload_n 0 d_Ps_readOrder_60 rfl ?_
      obtain ⟨b_8, eb_8, h⟩ := zbind h
      refine zo_getR 64 zkd_5 0 d_Ps_readOrder_61 eb_8 rfl tw_215 rfl ?_
      refine zi_aload_n 0 d_Ps_readOrder_64 rfl ?_
      refine zo_getR 68 zkd_5 1 d_Ps_readOrder_65 eb_1 rfl tw_217 rfl ?_
      obtain ⟨q_9, eq_9, h⟩ := zbind h
      refine zo_virt (k' := 0) (n' := 0) 71 [] [.ref b_8] [.int q_9.1, .ref b_8] zkd_8 (zck_s eu_2) (C_Ta_number n E S b_1 q_6.2 q_9.1 q_9.2 eq_9) d_Ps_readOrder_68 tw_694 tw_691 tw_692 tw_693 tw_5 dd_Ta_number ⟨Nat.le_of_ble_eq_true rfl, Nat.le_of_ble_eq_true rfl, Nat.le_of_ble_eq_true rfl, Nat.le_of_ble_eq_true rfl⟩ (Nat.le_of_ble_eq_true rfl) rfl rfl rfl rfl ?_
      obtain ⟨u_10, eu_10, h⟩ := zbind h
      obtain ⟨q_11, eq_11, h⟩ := zbind h
      refine zo_virt (k' := 0) (n' := 0) 74 [.int q_9.1] [] [] zkd_9 (zck_s eu_10) (C_Te_setTimes n E S b_8 q_9.1 q_9.2 q_11 eq_11) d_Ps_readOrder_71 tw_785 tw_782 tw_783 tw_784 tw_7 dd_Te_setTimes ⟨Nat.le_of_ble_eq_true rfl, Nat.le_of_ble_eq_true rfl, Nat.le_of_ble_eq_true rfl, Nat.le_of_ble_eq_true rfl⟩ (Nat.le_of_ble_eq_true rfl) rfl rfl rfl rfl ?_
      refine zi_aload_n 0 d_Ps_readOrder_74 rfl ?_
      refine zo_getR 78 zkd_5 1 d_Ps_readOrder_75 eb_1 rfl tw_217 rfl ?_
      obtain ⟨q_12, eq_12, h⟩ := zbind h
      refine zo_virt (k' := 0) (n' := 0) 81 [] [] [] zkd_8 (zck_s eu_2) (C_Ta_advance n E S b_1 q_11 q_12 eq_12) d_Ps_readOrder_78 tw_575 tw_655 tw_573 tw_574 tw_5 dd_Ta_advance ⟨Nat.le_of_ble_eq_true rfl, Nat.le_of_ble_eq_true rfl, Nat.le_of_ble_eq_true rfl, Nat.le_of_ble_eq_true rfl⟩ (Nat.le_of_ble_eq_true rfl) rfl rfl rfl rfl ?_
      refine zi_iconst 1 d_Ps_readOrder_81 rfl ?_
      cases h
      exact zo_retB d_Ps_readOrder_82 (Nat.le_of_ble_eq_true rfl) (Nat.le_of_ble_eq_true rfl) rfl
    · rw [if_neg c_7] at h
      refine zi_iconst 0 d_Ps_readOrder_58 rfl ?_
      cases h
      exact zo_retB d_Ps_readOrder_59 (Nat.le_of_ble_eq_true rfl) (Nat.le_of_ble_eq_true rfl) rfl
theorem K_Ps_readOrder_b18 (n : Nat) (E : zE) (S : zS) (a0 : Nat) (l0 : Nat) (u1 : Nat) (M : zH) (r : Bool) (M' : zH)  (h : F_Ps_readOrder_b18 n E S a0 l0 u1 M = some (r, M')) : zG E Y_Ps_readOrder (some (.int (bI r)), S, M') 18 [(0, .ref a0)] [.ref (eK E l0), .ref u1] S M 0 0 := by
  unfold F_Ps_readOrder_b18 at h
  obtain ⟨u_13, eu_13, h⟩ := zbind h
  obtain ⟨q_14, eq_14, h⟩ := zbind h
  refine zo_virt (k' := 0) (n' := 0) 21 [.ref (eK E l0)] [] [.int (bI q_14.1)] zkd_5 (zck_s eu_13) (C_Ps_readTwoSums n E S u1 l0 M q_14.1 q_14.2 eq_14) d_Ps_readOrder_18 tw_665 tw_662 tw_664 ts_9 tw_6 dd_Ps_readTwoSums ⟨Nat.le_of_ble_eq_true rfl, Nat.le_of_ble_eq_true rfl, Nat.le_of_ble_eq_true rfl, Nat.le_of_ble_eq_true rfl⟩ (Nat.le_of_ble_eq_true rfl) rfl rfl rfl rfl ?_
  refine zo_ifneB d_Ps_readOrder_21 rfl 24 rfl (fun c_15 => ?_) (fun c_15 => ?_)
  · rw [if_pos c_15] at h
    refine zi_lo [(0, .ref a0)] [0] rfl ?_
    exact K_Ps_readOrder_b26 n E S a0 q_14.2 r M'  h
  · rw [if_neg c_15] at h
    refine zi_iconst 0 d_Ps_readOrder_24 rfl ?_
    cases h
    exact zo_retB d_Ps_readOrder_25 (Nat.le_of_ble_eq_true rfl) (Nat.le_of_ble_eq_true rfl) rfl
theorem K_Ps_readOrder (n : Nat) (E : zE) (S : zS) (a0 : Nat) (x1 : Int32) (M : zH) (r : Bool) (M' : zH)  (h : F_Ps_readOrder n E S a0 x1 M = some (r, M')) : zG E Y_Ps_readOrder (some (.int (bI r)), S, M') 0 [(0, .ref a0), (1, .int x1)] [] S M 0 0 := by
  unfold F_Ps_readOrder at h
  refine zi_iload_n 1 d_Ps_readOrder_0 rfl ?_
  refine zi_iconst 3 d_Ps_readOrder_1 rfl ?_
  refine zi_icmp_eq (tgt := 26) d_Ps_readOrder_2 rfl (fun c_16 => ?_) (fun c_16 => ?_)
  · rw [if_pos c_16] at h
    refine zi_lo [(0, .ref a0)] [0] rfl ?_
    exact K_Ps_readOrder_b26 n E S a0 M r M'  h
  · rw [if_neg c_16] at h
    refine zi_aload_n 0 d_Ps_readOrder_5 rfl ?_
    refine zi_iload_n 1 d_Ps_readOrder_6 rfl ?_
    refine zi_iconst 2 d_Ps_readOrder_7 rfl ?_
    refine zi_icmp_ne (tgt := 16) d_Ps_readOrder_8 rfl (fun c_17 => ?_) (fun c_17 => ?_)
    · rw [if_neg c_17] at h
      refine zi_ldcS d_Ps_readOrder_16 (zlit_3 E) ?_
      refine zi_lo [(0, .ref a0)] [0] rfl ?_
      exact K_Ps_readOrder_b18 n E S a0 3 a0 M r M'  h
    · rw [if_pos c_17] at h
      refine zi_ldcS d_Ps_readOrder_11 (zlit_2 E) ?_
      refine zi_goto (tgt := 18) d_Ps_readOrder_13 rfl ?_
      refine zi_lo [(0, .ref a0)] [0] rfl ?_
      exact K_Ps_readOrder_b18 n E S a0 2 a0 M r M'  h
theorem C_Ps_readOrder (n : Nat) (E : zE) (S : zS) (a0 : Nat) (x1 : Int32) (M : zH) (r : Bool) (M' : zH) (h : F_Ps_readOrder n E S a0 x1 M = some (r, M')) : zC E Y_Ps_readOrder [.ref a0, .int x1] S M (some (.int (bI r)), S, M') :=
  zC.of (Or.inl (show plainName "NightColander$Parser" = true by decide)) (Nat.le_of_ble_eq_true rfl) (bI_nar r) (K_Ps_readOrder n E S a0 x1 M r M' h)
theorem d_Ps_readComparison_0 : decode (yB Y_Ps_readComparison) 0 = .ok (.aload_n 0, 1) := by decide +kernel
theorem d_Ps_readComparison_1 : decode (yB Y_Ps_readComparison) 1 = .ok (.iload_n 1, 1) := by decide +kernel
theorem d_Ps_readComparison_2 : decode (yB Y_Ps_readComparison) 2 = .ok (.invokevirtual 87, 3) := by decide +kernel
theorem d_Ps_readComparison_5 : decode (yB Y_Ps_readComparison) 5 = .ok (.ifCond .ne 5, 3) := by decide +kernel
theorem d_Ps_readComparison_8 : decode (yB Y_Ps_readComparison) 8 = .ok (.iconst 0, 1) := by decide +kernel
theorem d_Ps_readComparison_9 : decode (yB Y_Ps_readComparison) 9 = .ok (.ireturn, 1) := by decide +kernel
theorem d_Ps_readComparison_10 : decode (yB Y_Ps_readComparison) 10 = .ok (.aload_n 0, 1) := by decide +kernel
theorem d_Ps_readComparison_11 : decode (yB Y_Ps_readComparison) 11 = .ok (.getfield 26, 3) := by decide +kernel
theorem d_Ps_readComparison_14 : decode (yB Y_Ps_readComparison) 14 = .ok (.ldc 137, 2) := by decide +kernel
theorem d_Ps_readComparison_16 : decode (yB Y_Ps_readComparison) 16 = .ok (.invokevirtual 139, 3) := by decide +kernel
theorem d_Ps_readComparison_19 : decode (yB Y_Ps_readComparison) 19 = .ok (.istore_n 2, 1) := by decide +kernel
theorem d_Ps_readComparison_20 : decode (yB Y_Ps_readComparison) 20 = .ok (.iload_n 2, 1) := by decide +kernel
theorem d_Ps_readComparison_21 : decode (yB Y_Ps_readComparison) 21 = .ok (.iconst (-1), 1) := by decide +kernel
theorem d_Ps_readComparison_22 : decode (yB Y_Ps_readComparison) 22 = .ok (.if_icmp .ne 5, 3) := by decide +kernel
theorem d_Ps_readComparison_25 : decode (yB Y_Ps_readComparison) 25 = .ok (.iconst 0, 1) := by decide +kernel
theorem d_Ps_readComparison_26 : decode (yB Y_Ps_readComparison) 26 = .ok (.ireturn, 1) := by decide +kernel
theorem d_Ps_readComparison_27 : decode (yB Y_Ps_readComparison) 27 = .ok (.aload_n 0, 1) := by decide +kernel
theorem d_Ps_readComparison_28 : decode (yB Y_Ps_readComparison) 28 = .ok (.getfield 26, 3) := by decide +kernel
theorem d_Ps_readComparison_31 : decode (yB Y_Ps_readComparison) 31 = .ok (.invokevirtual 53, 3) := by decide +kernel
theorem d_Ps_readComparison_34 : decode (yB Y_Ps_readComparison) 34 = .ok (.aload_n 0, 1) := by decide +kernel
theorem d_Ps_readComparison_35 : decode (yB Y_Ps_readComparison) 35 = .ok (.iload_n 1, 1) := by decide +kernel
theorem d_Ps_readComparison_36 : decode (yB Y_Ps_readComparison) 36 = .ok (.invokevirtual 87, 3) := by decide +kernel
theorem d_Ps_readComparison_39 : decode (yB Y_Ps_readComparison) 39 = .ok (.ifCond .ne 5, 3) := by decide +kernel
theorem d_Ps_readComparison_42 : decode (yB Y_Ps_readComparison) 42 = .ok (.iconst 0, 1) := by decide +kernel
theorem d_Ps_readComparison_43 : decode (yB Y_Ps_readComparison) 43 = .ok (.ireturn, 1) := by decide +kernel
theorem d_Ps_readComparison_44 : decode (yB Y_Ps_readComparison) 44 = .ok (.aload_n 0, 1) := by decide +kernel
theorem d_Ps_readComparison_45 : decode (yB Y_Ps_readComparison) 45 = .ok (.getfield 12, 3) := by decide +kernel
theorem d_Ps_readComparison_48 : decode (yB Y_Ps_readComparison) 48 = .ok (.bipush 10, 2) := by decide +kernel
theorem d_Ps_readComparison_50 : decode (yB Y_Ps_readComparison) 50 = .ok (.iload_n 2, 1) := by decide +kernel
theorem d_Ps_readComparison_51 : decode (yB Y_Ps_readComparison) 51 = .ok (.iadd, 1) := by decide +kernel
theorem d_Ps_readComparison_52 : decode (yB Y_Ps_readComparison) 52 = .ok (.iconst 0, 1) := by decide +kernel
theorem d_Ps_readComparison_53 : decode (yB Y_Ps_readComparison) 53 = .ok (.invokevirtual 117, 3) := by decide +kernel
theorem d_Ps_readComparison_56 : decode (yB Y_Ps_readComparison) 56 = .ok (.pop, 1) := by decide +kernel
theorem d_Ps_readComparison_57 : decode (yB Y_Ps_readComparison) 57 = .ok (.iconst 1, 1) := by decide +kernel
theorem d_Ps_readComparison_58 : decode (yB Y_Ps_readComparison) 58 = .ok (.ireturn, 1) := by decide +kernel
def F_Ps_readComparison (n : Nat) (E : zE) (S : zS) (a0 : Nat) (x1 : Int32) (M : zH) : Option (Bool × zH) :=
  (zck S a0 5).bind fun u_1 =>
  (F_Ps_readSum_D n E S 10 (a0, x1, M)).bind fun q_2 =>
  if q_2.1 = true then
    (zgR S a0 5 1).bind fun b_4 =>
    (zck S b_4 8).bind fun u_5 =>
    (F_Ta_signIn n E S b_4 11 q_2.2).bind fun q_6 =>
    if q_6.1 = (-1) then
      some (false, q_6.2)
    else
      (F_Ta_advance n E S b_4 q_6.2).bind fun q_8 =>
      (F_Ps_readSum_D n E S 10 (a0, x1, q_8)).bind fun q_9 =>
      if q_9.1 = true then
        (zgR S a0 5 0).bind fun b_11 =>
        (zck S b_11 9).bind fun u_12 =>
        (F_Te_add n E S b_11 (10 + q_6.1) 0 q_9.2).bind fun q_13 =>
        some (true, q_13.2)
      else
        some (false, q_9.2)
  else
    some (false, q_2.2)
theorem K_Ps_readComparison (n : Nat) (E : zE) (S : zS) (a0 : Nat) (x1 : Int32) (M : zH) (r : Bool) (M' : zH)  (h : F_Ps_readComparison n E S a0 x1 M = some (r, M')) : zG E Y_Ps_readComparison (some (.int (bI r)), S, M') 0 [(0, .ref a0), (1, .int x1)] [] S M 0 0 := by
  unfold F_Ps_readComparison at h
  refine zi_aload_n 0 d_Ps_readComparison_0 rfl ?_
  refine zi_iload_n 1 d_Ps_readComparison_1 rfl ?_
  obtain ⟨u_1, eu_1, h⟩ := zbind h
  obtain ⟨q_2, eq_2, h⟩ := zbind h
  refine zo_virt (k' := 0) (n' := 0) 5 [.int x1] [] [.int (bI q_2.1)] zkd_5 (zck_s eu_1) (C_Ps_readSum_D n E S 10 a0 x1 M q_2.1 q_2.2 eq_2) d_Ps_readComparison_2 tw_669 tw_666 tw_668 ts_10 tw_6 dd_Ps_readSum ⟨Nat.le_of_ble_eq_true rfl, Nat.le_of_ble_eq_true rfl, Nat.le_of_ble_eq_true rfl, Nat.le_of_ble_eq_true rfl⟩ (Nat.le_of_ble_eq_true rfl) rfl rfl rfl rfl ?_
  refine zo_ifneB d_Ps_readComparison_5 rfl 8 rfl (fun c_3 => ?_) (fun c_3 => ?_)
  · rw [if_pos c_3] at h
    refine zi_aload_n 0 d_Ps_readComparison_10 rfl ?_
    obtain ⟨b_4, eb_4, h⟩ := zbind h
    refine zo_getR 14 zkd_5 1 d_Ps_readComparison_11 eb_4 rfl tw_217 rfl ?_
    refine zi_ldcS d_Ps_readComparison_14 (zlit_11 E) ?_
    obtain ⟨u_5, eu_5, h⟩ := zbind h
    obtain ⟨q_6, eq_6, h⟩ := zbind h
    refine zo_virt (k' := 0) (n' := 0) 19 [.ref (eK E 11)] [] [.int q_6.1] zkd_8 (zck_s eu_5) (C_Ta_signIn n E S b_4 11 q_2.2 q_6.1 q_6.2 eq_6) d_Ps_readComparison_16 tw_719 tw_716 tw_717 tw_718 tw_5 dd_Ta_signIn ⟨Nat.le_of_ble_eq_true rfl, Nat.le_of_ble_eq_true rfl, Nat.le_of_ble_eq_true rfl, Nat.le_of_ble_eq_true rfl⟩ (Nat.le_of_ble_eq_true rfl) rfl rfl rfl rfl ?_
    refine zi_istore_n [(2, .int q_6.1), (0, .ref a0), (1, .int x1)] d_Ps_readComparison_19 (by decide) rfl ?_
    refine zi_iload_n 0 d_Ps_readComparison_20 rfl ?_
    refine zi_iconst (-1) d_Ps_readComparison_21 rfl ?_
    refine zi_icmp_ne (tgt := 27) d_Ps_readComparison_22 rfl (fun c_7 => ?_) (fun c_7 => ?_)
    · rw [if_neg c_7] at h
      refine zi_aload_n 1 d_Ps_readComparison_27 rfl ?_
      refine zo_getR 31 zkd_5 1 d_Ps_readComparison_28 eb_4 rfl tw_217 rfl ?_
      obtain ⟨q_8, eq_8, h⟩ := zbind h
      refine zo_virt (k' := 0) (n' := 0) 34 [] [] [] zkd_8 (zck_s eu_5) (C_Ta_advance n E S b_4 q_6.2 q_8 eq_8) d_Ps_readComparison_31 tw_575 tw_655 tw_573 tw_574 tw_5 dd_Ta_advance ⟨Nat.le_of_ble_eq_true rfl, Nat.le_of_ble_eq_true rfl, Nat.le_of_ble_eq_true rfl, Nat.le_of_ble_eq_true rfl⟩ (Nat.le_of_ble_eq_true rfl) rfl rfl rfl rfl ?_
      refine zi_aload_n 1 d_Ps_readComparison_34 rfl ?_
      refine zi_iload_n 2 d_Ps_readComparison_35 rfl ?_
      obtain ⟨q_9, eq_9, h⟩ := zbind h
      refine zo_virt (k' := 0) (n' := 0) 39 [.int x1] [] [.int (bI q_9.1)] zkd_5 (zck_s eu_1) (C_Ps_readSum_D n E S 10 a0 x1 q_8 q_9.1 q_9.2 eq_9) d_Ps_readComparison_36 tw_669 tw_666 tw_668 ts_10 tw_6 dd_Ps_readSum ⟨Nat.le_of_ble_eq_true rfl, Nat.le_of_ble_eq_true rfl, Nat.le_of_ble_eq_true rfl, Nat.le_of_ble_eq_true rfl⟩ (Nat.le_of_ble_eq_true rfl) rfl rfl rfl rfl ?_
      refine zo_ifneB d_Ps_readComparison_39 rfl 42 rfl (fun c_10 => ?_) (fun c_10 => ?_)
      · rw [if_pos c_10] at h
        refine zi_aload_n 1 d_Ps_readComparison_44 rfl ?_
        obtain ⟨b_11, eb_11, h⟩ := zbind h
        refine zo_getR 48 zkd_5 0 d_Ps_readComparison_45 eb_11 rfl tw_215 rfl ?_
        refine zi_bipush 10 d_Ps_readComparison_48 rfl ?_
        refine zi_iload_n 0 d_Ps_readComparison_50 rfl ?_
        refine zi_iadd d_Ps_readComparison_51 ?_
        refine zi_iconst 0 d_Ps_readComparison_52 rfl ?_
        obtain ⟨u_12, eu_12, h⟩ := zbind h
        obtain ⟨q_13, eq_13, h⟩ := zbind h
        refine zo_virt (k' := 0) (n' := 0) 56 [.int (10 + q_6.1), .int 0] [] [.int q_13.1] zkd_9 (zck_s eu_12) (C_Te_add n E S b_11 (10 + q_6.1) 0 q_9.2 q_13.1 q_13.2 eq_13) d_Ps_readComparison_53 tw_698 tw_695 tw_696 tw_697 tw_7 dd_Te_add ⟨Nat.le_of_ble_eq_true rfl, Nat.le_of_ble_eq_true rfl, Nat.le_of_ble_eq_true rfl, Nat.le_of_ble_eq_true rfl⟩ (Nat.le_of_ble_eq_true rfl) rfl rfl rfl rfl ?_
        refine zi_pop d_Ps_readComparison_56 rfl ?_
        refine zi_iconst 1 d_Ps_readComparison_57 rfl ?_
        cases h
        exact zo_retB d_Ps_readComparison_58 (Nat.le_of_ble_eq_true rfl) (Nat.le_of_ble_eq_true rfl) rfl
      · rw [if_neg c_10] at h
        refine zi_iconst 0 d_Ps_readComparison_42 rfl ?_
        cases h
        exact zo_retB d_Ps_readComparison_43 (Nat.le_of_ble_eq_true rfl) (Nat.le_of_ble_eq_true rfl) rfl
    · rw [if_pos c_7] at h
      refine zi_iconst 0 d_Ps_readComparison_25 rfl ?_
      cases h
      exact zo_retB d_Ps_readComparison_26 (Nat.le_of_ble_eq_true rfl) (Nat.le_of_ble_eq_true rfl) rfl
  · rw [if_neg c_3] at h
    refine zi_iconst 0 d_Ps_readComparison_8 rfl ?_
    cases h
    exact zo_retB d_Ps_readComparison_9 (Nat.le_of_ble_eq_true rfl) (Nat.le_of_ble_eq_true rfl) rfl
theorem C_Ps_readComparison (n : Nat) (E : zE) (S : zS) (a0 : Nat) (x1 : Int32) (M : zH) (r : Bool) (M' : zH) (h : F_Ps_readComparison n E S a0 x1 M = some (r, M')) : zC E Y_Ps_readComparison [.ref a0, .int x1] S M (some (.int (bI r)), S, M') :=
  zC.of (Or.inl (show plainName "NightColander$Parser" = true by decide)) (Nat.le_of_ble_eq_true rfl) (bI_nar r) (K_Ps_readComparison n E S a0 x1 M r M' h)
theorem d_Ps_readTestInBrackets_0 : decode prog_7_method_10_code 0 = .ok (.iload_n 1, 1) := by decide +kernel
theorem d_Ps_readTestInBrackets_1 : decode prog_7_method_10_code 1 = .ok (.bipush 8, 2) := by decide +kernel
theorem d_Ps_readTestInBrackets_3 : decode prog_7_method_10_code 3 = .ok (.if_icmp .lt 5, 3) := by decide +kernel
theorem d_Ps_readTestInBrackets_6 : decode prog_7_method_10_code 6 = .ok (.iconst 0, 1) := by decide +kernel
theorem d_Ps_readTestInBrackets_7 : decode prog_7_method_10_code 7 = .ok (.ireturn, 1) := by decide +kernel
theorem d_Ps_readTestInBrackets_8 : decode prog_7_method_10_code 8 = .ok (.aload_n 0, 1) := by decide +kernel
theorem d_Ps_readTestInBrackets_9 : decode prog_7_method_10_code 9 = .ok (.getfield 26, 3) := by decide +kernel
theorem d_Ps_readTestInBrackets_12 : decode prog_7_method_10_code 12 = .ok (.invokevirtual 53, 3) := by decide +kernel
theorem d_Ps_readTestInBrackets_15 : decode prog_7_method_10_code 15 = .ok (.aload_n 0, 1) := by decide +kernel
theorem d_Ps_readTestInBrackets_16 : decode prog_7_method_10_code 16 = .ok (.iload_n 1, 1) := by decide +kernel
theorem d_Ps_readTestInBrackets_17 : decode prog_7_method_10_code 17 = .ok (.iconst 1, 1) := by decide +kernel
theorem d_Ps_readTestInBrackets_18 : decode prog_7_method_10_code 18 = .ok (.iadd, 1) := by decide +kernel
theorem d_Ps_readTestInBrackets_19 : decode prog_7_method_10_code 19 = .ok (.invokevirtual 81, 3) := by decide +kernel
theorem d_Ps_readTestInBrackets_22 : decode prog_7_method_10_code 22 = .ok (.ifCond .eq 15, 3) := by decide +kernel
theorem d_Ps_readTestInBrackets_25 : decode prog_7_method_10_code 25 = .ok (.aload_n 0, 1) := by decide +kernel
theorem d_Ps_readTestInBrackets_26 : decode prog_7_method_10_code 26 = .ok (.getfield 26, 3) := by decide +kernel
theorem d_Ps_readTestInBrackets_29 : decode prog_7_method_10_code 29 = .ok (.bipush 41, 2) := by decide +kernel
theorem d_Ps_readTestInBrackets_31 : decode prog_7_method_10_code 31 = .ok (.invokevirtual 49, 3) := by decide +kernel
theorem d_Ps_readTestInBrackets_34 : decode prog_7_method_10_code 34 = .ok (.ifCond .ne 5, 3) := by decide +kernel
theorem d_Ps_readTestInBrackets_37 : decode prog_7_method_10_code 37 = .ok (.iconst 0, 1) := by decide +kernel
theorem d_Ps_readTestInBrackets_38 : decode prog_7_method_10_code 38 = .ok (.ireturn, 1) := by decide +kernel
theorem d_Ps_readTestInBrackets_39 : decode prog_7_method_10_code 39 = .ok (.aload_n 0, 1) := by decide +kernel
theorem d_Ps_readTestInBrackets_40 : decode prog_7_method_10_code 40 = .ok (.getfield 26, 3) := by decide +kernel
theorem d_Ps_readTestInBrackets_43 : decode prog_7_method_10_code 43 = .ok (.invokevirtual 53, 3) := by decide +kernel
theorem d_Ps_readTestInBrackets_46 : decode prog_7_method_10_code 46 = .ok (.iconst 1, 1) := by decide +kernel
theorem d_Ps_readTestInBrackets_47 : decode prog_7_method_10_code 47 = .ok (.ireturn, 1) := by decide +kernel
def F_Ps_readTestInBrackets (n : Nat) (E : zE) (S : zS) (rc : Nat × Int32 × zH → Option (Bool × zH)) (a0 : Nat) (x1 : Int32) (M : zH) : Option (Bool × zH) :=
  if x1 < 8 then
    (zgR S a0 5 1).bind fun b_2 =>
    (zck S b_2 8).bind fun u_3 =>
    (F_Ta_advance n E S b_2 M).bind fun q_4 =>
    (rc (a0, (x1 + 1), q_4)).bind fun q_5 =>
    if q_5.1 = true then
      (F_Ta_atSign n E S b_2 41 q_5.2).bind fun q_7 =>
      if q_7.1 = true then
        (F_Ta_advance n E S b_2 q_7.2).bind fun q_9 =>
        some (true, q_9)
      else
        some (false, q_7.2)
    else
      some (false, q_5.2)
  else
    some (false, M)
theorem K_Ps_readTestInBrackets (d : Nat) (n : Nat) (E : zE) (S : zS) (rc : Nat × Int32 × zH → Option (Bool × zH)) (a0 : Nat) (x1 : Int32) (M : zH) (r : Bool) (M' : zH) (hrc : ∀ (p0 : Nat) (p1 : Int32) (M : zH) (r : Bool) (M' : zH), rc (p0, p1, M) = some (r, M') → zC E (Y_Ps_readTest d) [.ref p0, .int p1] S M (some (.int (bI r)), S, M'))  (h : F_Ps_readTestInBrackets n E S rc a0 x1 M = some (r, M')) : zG E (Y_Ps_readTestInBrackets (d + 1)) (some (.int (bI r)), S, M') 0 [(0, .ref a0), (1, .int x1)] [] S M 0 0 := by
  unfold F_Ps_readTestInBrackets at h
  refine zi_iload_n 1 d_Ps_readTestInBrackets_0 rfl ?_
  refine zi_bipush 8 d_Ps_readTestInBrackets_1 rfl ?_
  refine zi_icmp_lt (tgt := 8) d_Ps_readTestInBrackets_3 rfl (fun c_1 => ?_) (fun c_1 => ?_)
  · rw [if_pos c_1] at h
    refine zi_aload_n 0 d_Ps_readTestInBrackets_8 rfl ?_
    obtain ⟨b_2, eb_2, h⟩ := zbind h
    refine zo_getR 12 zkd_5 1 d_Ps_readTestInBrackets_9 eb_2 rfl tw_217 rfl ?_
    obtain ⟨u_3, eu_3, h⟩ := zbind h
    obtain ⟨q_4, eq_4, h⟩ := zbind h
    refine zo_virt (k' := 0) (n' := 0) 15 [] [] [] zkd_8 (zck_s eu_3) (C_Ta_advance n E S b_2 M q_4 eq_4) d_Ps_readTestInBrackets_12 tw_575 tw_655 tw_573 tw_574 tw_5 dd_Ta_advance (by refine ⟨?_, ?_, ?_, ?_⟩ <;> simp only [yH, yL, yC, yS, Y_Ps_readTestInBrackets, Y_Ta_advance] <;> omega) (Nat.le_of_ble_eq_true rfl) rfl rfl rfl rfl ?_
    refine zi_aload_n 0 d_Ps_readTestInBrackets_15 rfl ?_
    refine zi_iload_n 1 d_Ps_readTestInBrackets_16 rfl ?_
    refine zi_iconst 1 d_Ps_readTestInBrackets_17 rfl ?_
    refine zi_iadd d_Ps_readTestInBrackets_18 ?_
    obtain ⟨q_5, eq_5, h⟩ := zbind h
    refine zo_virt (k' := 0) (n' := 0) 22 [.int (x1 + 1)] [] [.int (bI q_5.1)] zkd_5 (zgR_s eb_2).1 (hrc a0 (x1 + 1) q_4 q_5.1 q_5.2 eq_5) d_Ps_readTestInBrackets_19 tw_794 tw_791 tw_793 ts_16 tw_6 dd_Ps_readTest (by refine ⟨?_, ?_, ?_, ?_⟩ <;> simp only [yH, yL, yC, yS, Y_Ps_readTestInBrackets, Y_Ps_readTest] <;> omega) (Nat.le_of_ble_eq_true rfl) rfl rfl rfl rfl ?_
    refine zo_ifeqB d_Ps_readTestInBrackets_22 rfl 25 rfl (fun c_6 => ?_) (fun c_6 => ?_)
    · rw [if_neg c_6] at h
      refine zi_iconst 0 d_Ps_readTestInBrackets_37 rfl ?_
      cases h
      exact zo_retB d_Ps_readTestInBrackets_38 (Nat.le_of_ble_eq_true rfl) (Nat.le_of_ble_eq_true rfl) rfl
    · rw [if_pos c_6] at h
      refine zi_aload_n 0 d_Ps_readTestInBrackets_25 rfl ?_
      refine zo_getR 29 zkd_5 1 d_Ps_readTestInBrackets_26 eb_2 rfl tw_217 rfl ?_
      refine zi_bipush 41 d_Ps_readTestInBrackets_29 rfl ?_
      obtain ⟨q_7, eq_7, h⟩ := zbind h
      refine zo_virt (k' := 0) (n' := 0) 34 [.int 41] [] [.int (bI q_7.1)] zkd_8 (zck_s eu_3) (C_Ta_atSign n E S b_2 41 q_5.2 q_7.1 q_7.2 eq_7) d_Ps_readTestInBrackets_31 tw_681 tw_678 tw_679 tw_680 tw_5 dd_Ta_atSign (by refine ⟨?_, ?_, ?_, ?_⟩ <;> simp only [yH, yL, yC, yS, Y_Ps_readTestInBrackets, Y_Ta_atSign] <;> omega) (Nat.le_of_ble_eq_true rfl) rfl rfl rfl rfl ?_
      refine zo_ifneB d_Ps_readTestInBrackets_34 rfl 37 rfl (fun c_8 => ?_) (fun c_8 => ?_)
      · rw [if_pos c_8] at h
        refine zi_aload_n 0 d_Ps_readTestInBrackets_39 rfl ?_
        refine zo_getR 43 zkd_5 1 d_Ps_readTestInBrackets_40 eb_2 rfl tw_217 rfl ?_
        obtain ⟨q_9, eq_9, h⟩ := zbind h
        refine zo_virt (k' := 0) (n' := 0) 46 [] [] [] zkd_8 (zck_s eu_3) (C_Ta_advance n E S b_2 q_7.2 q_9 eq_9) d_Ps_readTestInBrackets_43 tw_575 tw_655 tw_573 tw_574 tw_5 dd_Ta_advance (by refine ⟨?_, ?_, ?_, ?_⟩ <;> simp only [yH, yL, yC, yS, Y_Ps_readTestInBrackets, Y_Ta_advance] <;> omega) (Nat.le_of_ble_eq_true rfl) rfl rfl rfl rfl ?_
        refine zi_iconst 1 d_Ps_readTestInBrackets_46 rfl ?_
        cases h
        exact zo_retB d_Ps_readTestInBrackets_47 (Nat.le_of_ble_eq_true rfl) (Nat.le_of_ble_eq_true rfl) rfl
      · rw [if_neg c_8] at h
        refine zi_iconst 0 d_Ps_readTestInBrackets_37 rfl ?_
        cases h
        exact zo_retB d_Ps_readTestInBrackets_38 (Nat.le_of_ble_eq_true rfl) (Nat.le_of_ble_eq_true rfl) rfl
  · rw [if_neg c_1] at h
    refine zi_iconst 0 d_Ps_readTestInBrackets_6 rfl ?_
    cases h
    exact zo_retB d_Ps_readTestInBrackets_7 (Nat.le_of_ble_eq_true rfl) (Nat.le_of_ble_eq_true rfl) rfl
theorem C_Ps_readTestInBrackets (d : Nat) (n : Nat) (E : zE) (S : zS) (rc : Nat × Int32 × zH → Option (Bool × zH)) (a0 : Nat) (x1 : Int32) (M : zH) (r : Bool) (M' : zH) (hrc : ∀ (p0 : Nat) (p1 : Int32) (M : zH) (r : Bool) (M' : zH), rc (p0, p1, M) = some (r, M') → zC E (Y_Ps_readTest d) [.ref p0, .int p1] S M (some (.int (bI r)), S, M')) (h : F_Ps_readTestInBrackets n E S rc a0 x1 M = some (r, M')) : zC E (Y_Ps_readTestInBrackets (d + 1)) [.ref a0, .int x1] S M (some (.int (bI r)), S, M') :=
  zC.of (Or.inl (show plainName "NightColander$Parser" = true by decide)) (Nat.le_of_ble_eq_true rfl) (bI_nar r) (K_Ps_readTestInBrackets d n E S rc a0 x1 M r M' hrc h)
theorem d_Ps_readPlain_0 : decode prog_7_method_9_code 0 = .ok (.iconst 0, 1) := by decide +kernel
theorem d_Ps_readPlain_1 : decode prog_7_method_9_code 1 = .ok (.istore_n 2, 1) := by decide +kernel
theorem d_Ps_readPlain_2 : decode prog_7_method_9_code 2 = .ok (.iconst 0, 1) := by decide +kernel
theorem d_Ps_readPlain_3 : decode prog_7_method_9_code 3 = .ok (.istore_n 3, 1) := by decide +kernel
theorem d_Ps_readPlain_4 : decode prog_7_method_9_code 4 = .ok (.iload_n 3, 1) := by decide +kernel
theorem d_Ps_readPlain_5 : decode prog_7_method_9_code 5 = .ok (.sipush 400, 3) := by decide +kernel
theorem d_Ps_readPlain_8 : decode prog_7_method_9_code 8 = .ok (.if_icmp .ge 38, 3) := by decide +kernel
theorem d_Ps_readPlain_11 : decode prog_7_method_9_code 11 = .ok (.aload_n 0, 1) := by decide +kernel
theorem d_Ps_readPlain_12 : decode prog_7_method_9_code 12 = .ok (.getfield 26, 3) := by decide +kernel
theorem d_Ps_readPlain_15 : decode prog_7_method_9_code 15 = .ok (.ldc 129, 2) := by decide +kernel
theorem d_Ps_readPlain_17 : decode prog_7_method_9_code 17 = .ok (.invokevirtual 77, 3) := by decide +kernel
theorem d_Ps_readPlain_20 : decode prog_7_method_9_code 20 = .ok (.ifCond .eq 26, 3) := by decide +kernel
theorem d_Ps_readPlain_23 : decode prog_7_method_9_code 23 = .ok (.aload_n 0, 1) := by decide +kernel
theorem d_Ps_readPlain_24 : decode prog_7_method_9_code 24 = .ok (.getfield 26, 3) := by decide +kernel
theorem d_Ps_readPlain_27 : decode prog_7_method_9_code 27 = .ok (.invokevirtual 53, 3) := by decide +kernel
theorem d_Ps_readPlain_30 : decode prog_7_method_9_code 30 = .ok (.iload_n 2, 1) := by decide +kernel
theorem d_Ps_readPlain_31 : decode prog_7_method_9_code 31 = .ok (.ifCond .ne 7, 3) := by decide +kernel
theorem d_Ps_readPlain_34 : decode prog_7_method_9_code 34 = .ok (.iconst 1, 1) := by decide +kernel
theorem d_Ps_readPlain_35 : decode prog_7_method_9_code 35 = .ok (.goto 4, 3) := by decide +kernel
theorem d_Ps_readPlain_38 : decode prog_7_method_9_code 38 = .ok (.iconst 0, 1) := by decide +kernel
theorem d_Ps_readPlain_39 : decode prog_7_method_9_code 39 = .ok (.istore_n 2, 1) := by decide +kernel
theorem d_Ps_readPlain_40 : decode prog_7_method_9_code 40 = .ok (.iinc 3 1, 3) := by decide +kernel
theorem d_Ps_readPlain_43 : decode prog_7_method_9_code 43 = .ok (.goto (-39), 3) := by decide +kernel
theorem d_Ps_readPlain_46 : decode prog_7_method_9_code 46 = .ok (.aload_n 0, 1) := by decide +kernel
theorem d_Ps_readPlain_47 : decode prog_7_method_9_code 47 = .ok (.getfield 26, 3) := by decide +kernel
theorem d_Ps_readPlain_50 : decode prog_7_method_9_code 50 = .ok (.bipush 40, 2) := by decide +kernel
theorem d_Ps_readPlain_52 : decode prog_7_method_9_code 52 = .ok (.invokevirtual 49, 3) := by decide +kernel
theorem d_Ps_readPlain_55 : decode prog_7_method_9_code 55 = .ok (.ifCond .eq 11, 3) := by decide +kernel
theorem d_Ps_readPlain_58 : decode prog_7_method_9_code 58 = .ok (.aload_n 0, 1) := by decide +kernel
theorem d_Ps_readPlain_59 : decode prog_7_method_9_code 59 = .ok (.iload_n 1, 1) := by decide +kernel
theorem d_Ps_readPlain_60 : decode prog_7_method_9_code 60 = .ok (.invokevirtual 131, 3) := by decide +kernel
theorem d_Ps_readPlain_63 : decode prog_7_method_9_code 63 = .ok (.goto 8, 3) := by decide +kernel
theorem d_Ps_readPlain_66 : decode prog_7_method_9_code 66 = .ok (.aload_n 0, 1) := by decide +kernel
theorem d_Ps_readPlain_67 : decode prog_7_method_9_code 67 = .ok (.iload_n 1, 1) := by decide +kernel
theorem d_Ps_readPlain_68 : decode prog_7_method_9_code 68 = .ok (.invokevirtual 134, 3) := by decide +kernel
theorem d_Ps_readPlain_71 : decode prog_7_method_9_code 71 = .ok (.istore_n 3, 1) := by decide +kernel
theorem d_Ps_readPlain_72 : decode prog_7_method_9_code 72 = .ok (.iload_n 3, 1) := by decide +kernel
theorem d_Ps_readPlain_73 : decode prog_7_method_9_code 73 = .ok (.ifCond .eq 17, 3) := by decide +kernel
theorem d_Ps_readPlain_76 : decode prog_7_method_9_code 76 = .ok (.iload_n 2, 1) := by decide +kernel
theorem d_Ps_readPlain_77 : decode prog_7_method_9_code 77 = .ok (.ifCond .eq 13, 3) := by decide +kernel
theorem d_Ps_readPlain_80 : decode prog_7_method_9_code 80 = .ok (.aload_n 0, 1) := by decide +kernel
theorem d_Ps_readPlain_81 : decode prog_7_method_9_code 81 = .ok (.getfield 12, 3) := by decide +kernel
theorem d_Ps_readPlain_84 : decode prog_7_method_9_code 84 = .ok (.iconst 2, 1) := by decide +kernel
theorem d_Ps_readPlain_85 : decode prog_7_method_9_code 85 = .ok (.iconst 0, 1) := by decide +kernel
theorem d_Ps_readPlain_86 : decode prog_7_method_9_code 86 = .ok (.invokevirtual 117, 3) := by decide +kernel
theorem d_Ps_readPlain_89 : decode prog_7_method_9_code 89 = .ok (.pop, 1) := by decide +kernel
theorem d_Ps_readPlain_90 : decode prog_7_method_9_code 90 = .ok (.iload_n 3, 1) := by decide +kernel
theorem d_Ps_readPlain_91 : decode prog_7_method_9_code 91 = .ok (.ireturn, 1) := by decide +kernel
def F_Ps_readPlain_b39 (n : Nat) (E : zE) (S : zS) (rc : Nat × Int32 × zH → Option (Bool × zH)) (r4 : Nat × Int32 × Int32 × Int32 × zH → Option (Bool × zH)) (a0 : Nat) (x1 : Int32) (x3 : Int32) (s0 : Int32) (M : zH) : Option (Bool × zH) :=
  r4 (a0, x1, s0, x3 + 1, M)
def F_Ps_readPlain_b71 (n : Nat) (E : zE) (S : zS) (rc : Nat × Int32 × zH → Option (Bool × zH)) (a0 : Nat) (x2 : Int32) (s0 : Int32) (M : zH) : Option (Bool × zH) :=
  if s0 = 0 then
    (zbl s0).bind fun z_2 =>
    some (z_2, M)
  else
    if x2 = 0 then
      (zbl s0).bind fun z_4 =>
      some (z_4, M)
    else
      (zgR S a0 5 0).bind fun b_5 =>
      (zck S b_5 9).bind fun u_6 =>
      (F_Te_add n E S b_5 2 0 M).bind fun q_7 =>
      (zbl s0).bind fun z_8 =>
      some (z_8, q_7.2)
def F_Ps_readPlain_b46 (n : Nat) (E : zE) (S : zS) (rc : Nat × Int32 × zH → Option (Bool × zH)) (a0 : Nat) (x1 : Int32) (x2 : Int32) (M : zH) : Option (Bool × zH) :=
  (zgR S a0 5 1).bind fun b_9 =>
  (zck S b_9 8).bind fun u_10 =>
  (F_Ta_atSign n E S b_9 40 M).bind fun q_11 =>
  if q_11.1 = true then
    (F_Ps_readTestInBrackets n E S rc a0 x1 q_11.2).bind fun q_13 =>
    F_Ps_readPlain_b71 n E S rc a0 x2 (bI q_13.1) q_13.2
  else
    (F_Ps_readComparison n E S a0 x1 q_11.2).bind fun q_14 =>
    F_Ps_readPlain_b71 n E S rc a0 x2 (bI q_14.1) q_14.2
def F_Ps_readPlain_L4 (n : Nat) (E : zE) (S : zS) (rc : Nat × Int32 × zH → Option (Bool × zH)) (r4 : Nat × Int32 × Int32 × Int32 × zH → Option (Bool × zH)) (a0 : Nat) (x1 : Int32) (x2 : Int32) (x3 : Int32) (M : zH) : Option (Bool × zH) :=
  if 400 ≤ x3 then
    F_Ps_readPlain_b46 n E S rc a0 x1 x2 M
  else
    (zgR S a0 5 1).bind fun b_16 =>
    (zck S b_16 8).bind fun u_17 =>
    (F_Ta_atWord n E S b_16 10 M).bind fun q_18 =>
    if q_18.1 = true then
      (F_Ta_advance n E S b_16 q_18.2).bind fun q_20 =>
      if x2 = 0 then
        F_Ps_readPlain_b39 n E S rc r4 a0 x1 x3 1 q_20
      else
        F_Ps_readPlain_b39 n E S rc r4 a0 x1 x3 0 q_20
    else
      F_Ps_readPlain_b46 n E S rc a0 x1 x2 q_18.2
def F_Ps_readPlain_b4 (n : Nat) (E : zE) (S : zS) (rc : Nat × Int32 × zH → Option (Bool × zH)) : Nat × Int32 × Int32 × Int32 × zH → Option (Bool × zH) := zfix (fun r4 s => F_Ps_readPlain_L4 n E S rc r4 s.1 s.2.1 s.2.2.1 s.2.2.2.1 s.2.2.2.2) n
def F_Ps_readPlain (n : Nat) (E : zE) (S : zS) (rc : Nat × Int32 × zH → Option (Bool × zH)) (a0 : Nat) (x1 : Int32) (M : zH) : Option (Bool × zH) :=
  F_Ps_readPlain_b4 n E S rc (a0, x1, 0, 0, M)
theorem K_Ps_readPlain_b39 (d : Nat) (n : Nat) (E : zE) (S : zS) (rc : Nat × Int32 × zH → Option (Bool × zH)) (r4 : Nat × Int32 × Int32 × Int32 × zH → Option (Bool × zH)) (a0 : Nat) (x1 : Int32) (x3 : Int32) (s0 : Int32) (M : zH) (r : Bool) (M' : zH) (hrc : ∀ (p0 : Nat) (p1 : Int32) (M : zH) (r : Bool) (M' : zH), rc (p0, p1, M) = some (r, M') → zC E (Y_Ps_readTest d) [.ref p0, .int p1] S M (some (.int (bI r)), S, M')) (hr4 : ∀ (a0 : Nat) (x1 : Int32) (x2 : Int32) (x3 : Int32) (M : zH), r4 (a0, x1, x2, x3, M) = some (r, M') → zG E (Y_Ps_readPlain (d + 1)) (some (.int (bI r)), S, M') 4 [(0, .ref a0), (1, .int x1), (2, .int x2), (3, .int x3)] [] S M 0 0) (h : F_Ps_readPlain_b39 n E S rc r4 a0 x1 x3 s0 M = some (r, M')) : zG E (Y_Ps_readPlain (d + 1)) (some (.int (bI r)), S, M') 39 [(0, .ref a0), (1, .int x1), (3, .int x3)] [.int s0] S M 0 0 := by
  unfold F_Ps_readPlain_b39 at h
  refine zi_istore_n [(2, .int s0), (0, .ref a0), (1, .int x1), (3, .int x3)] d_Ps_readPlain_39 (Nat.le_of_ble_eq_true rfl) rfl ?_
  refine zi_iinc 3 (x3 + 1) [(3, .int (x3 + 1)), (2, .int s0), (0, .ref a0), (1, .int x1)] d_Ps_readPlain_40 rfl rfl (Nat.le_of_ble_eq_true rfl) rfl ?_
  refine zi_goto (tgt := 4) d_Ps_readPlain_43 rfl ?_
  refine zi_lo [(0, .ref a0), (1, .int x1), (2, .int s0), (3, .int (x3 + 1))] [2, 3, 1, 0] rfl ?_
  exact hr4 a0 x1 s0 (x3 + 1) M h
theorem K_Ps_readPlain_b71 (d : Nat) (n : Nat) (E : zE) (S : zS) (rc : Nat × Int32 × zH → Option (Bool × zH)) (a0 : Nat) (x2 : Int32) (s0 : Int32) (M : zH) (r : Bool) (M' : zH) (hrc : ∀ (p0 : Nat) (p1 : Int32) (M : zH) (r : Bool) (M' : zH), rc (p0, p1, M) = some (r, M') → zC E (Y_Ps_readTest d) [.ref p0, .int p1] S M (some (.int (bI r)), S, M'))  (h : F_Ps_readPlain_b71 n E S rc a0 x2 s0 M = some (r, M')) : zG E (Y_Ps_readPlain (d + 1)) (some (.int (bI r)), S, M') 71 [(0, .ref a0), (2, .int x2)] [.int s0] S M 0 0 := by
  unfold F_Ps_readPlain_b71 at h
  refine zi_istore_n [(3, .int s0), (0, .ref a0), (2, .int x2)] d_Ps_readPlain_71 (Nat.le_of_ble_eq_true rfl) rfl ?_
  refine zi_iload_n 0 d_Ps_readPlain_72 rfl ?_
  refine zi_if_eq (tgt := 90) d_Ps_readPlain_73 rfl (fun c_1 => ?_) (fun c_1 => ?_)
  · rw [if_pos c_1] at h
    refine zi_iload_n 0 d_Ps_readPlain_90 rfl ?_
    obtain ⟨z_2, ez_2, h⟩ := zbind h
    cases h
    exact zo_retB d_Ps_readPlain_91 (Nat.le_of_ble_eq_true rfl) (Nat.le_of_ble_eq_true rfl) (zbl_s ez_2)
  · rw [if_neg c_1] at h
    refine zi_iload_n 2 d_Ps_readPlain_76 rfl ?_
    refine zi_if_eq (tgt := 90) d_Ps_readPlain_77 rfl (fun c_3 => ?_) (fun c_3 => ?_)
    · rw [if_pos c_3] at h
      refine zi_iload_n 0 d_Ps_readPlain_90 rfl ?_
      obtain ⟨z_4, ez_4, h⟩ := zbind h
      cases h
      exact zo_retB d_Ps_readPlain_91 (Nat.le_of_ble_eq_true rfl) (Nat.le_of_ble_eq_true rfl) (zbl_s ez_4)
    · rw [if_neg c_3] at h
      refine zi_aload_n 1 d_Ps_readPlain_80 rfl ?_
      obtain ⟨b_5, eb_5, h⟩ := zbind h
      refine zo_getR 84 zkd_5 0 d_Ps_readPlain_81 eb_5 rfl tw_215 rfl ?_
      refine zi_iconst 2 d_Ps_readPlain_84 rfl ?_
      refine zi_iconst 0 d_Ps_readPlain_85 rfl ?_
      obtain ⟨u_6, eu_6, h⟩ := zbind h
      obtain ⟨q_7, eq_7, h⟩ := zbind h
      refine zo_virt (k' := 0) (n' := 0) 89 [.int 2, .int 0] [] [.int q_7.1] zkd_9 (zck_s eu_6) (C_Te_add n E S b_5 2 0 M q_7.1 q_7.2 eq_7) d_Ps_readPlain_86 tw_698 tw_695 tw_696 tw_697 tw_7 dd_Te_add (by refine ⟨?_, ?_, ?_, ?_⟩ <;> simp only [yH, yL, yC, yS, Y_Ps_readPlain, Y_Te_add] <;> omega) (Nat.le_of_ble_eq_true rfl) rfl rfl rfl rfl ?_
      refine zi_pop d_Ps_readPlain_89 rfl ?_
      refine zi_iload_n 0 d_Ps_readPlain_90 rfl ?_
      obtain ⟨z_8, ez_8, h⟩ := zbind h
      cases h
      exact zo_retB d_Ps_readPlain_91 (Nat.le_of_ble_eq_true rfl) (Nat.le_of_ble_eq_true rfl) (zbl_s ez_8)
theorem K_Ps_readPlain_b46 (d : Nat) (n : Nat) (E : zE) (S : zS) (rc : Nat × Int32 × zH → Option (Bool × zH)) (a0 : Nat) (x1 : Int32) (x2 : Int32) (M : zH) (r : Bool) (M' : zH) (hrc : ∀ (p0 : Nat) (p1 : Int32) (M : zH) (r : Bool) (M' : zH), rc (p0, p1, M) = some (r, M') → zC E (Y_Ps_readTest d) [.ref p0, .int p1] S M (some (.int (bI r)), S, M'))  (h : F_Ps_readPlain_b46 n E S rc a0 x1 x2 M = some (r, M')) : zG E (Y_Ps_readPlain (d + 1)) (some (.int (bI r)), S, M') 46 [(0, .ref a0), (1, .int x1), (2, .int x2)] [] S M 0 0 := by
  unfold F_Ps_readPlain_b46 at h
  refine zi_aload_n 0 d_Ps_readPlain_46 rfl ?_
  obtain ⟨b_9, eb_9, h⟩ := zbind h
  refine zo_getR 50 zkd_5 1 d_Ps_readPlain_47 eb_9 rfl tw_217 rfl ?_
  refine zi_bipush 40 d_Ps_readPlain_50 rfl ?_
  obtain ⟨u_10, eu_10, h⟩ := zbind h
  obtain ⟨q_11, eq_11, h⟩ := zbind h
  refine zo_virt (k' := 0) (n' := 0) 55 [.int 40] [] [.int (bI q_11.1)] zkd_8 (zck_s eu_10) (C_Ta_atSign n E S b_9 40 M q_11.1 q_11.2 eq_11) d_Ps_readPlain_52 tw_681 tw_678 tw_679 tw_680 tw_5 dd_Ta_atSign (by refine ⟨?_, ?_, ?_, ?_⟩ <;> simp only [yH, yL, yC, yS, Y_Ps_readPlain, Y_Ta_atSign] <;> omega) (Nat.le_of_ble_eq_true rfl) rfl rfl rfl rfl ?_
  refine zo_ifeqB d_Ps_readPlain_55 rfl 58 rfl (fun c_12 => ?_) (fun c_12 => ?_)
  · rw [if_neg c_12] at h
    refine zi_aload_n 0 d_Ps_readPlain_66 rfl ?_
    refine zi_iload_n 1 d_Ps_readPlain_67 rfl ?_
    obtain ⟨q_14, eq_14, h⟩ := zbind h
    refine zo_virt (k' := 0) (n' := 0) 71 [.int x1] [] [.int (bI q_14.1)] zkd_5 (zgR_s eb_9).1 (C_Ps_readComparison n E S a0 x1 q_11.2 q_14.1 q_14.2 eq_14) d_Ps_readPlain_68 tw_811 tw_808 tw_810 ts_20 tw_6 dd_Ps_readComparison (by refine ⟨?_, ?_, ?_, ?_⟩ <;> simp only [yH, yL, yC, yS, Y_Ps_readPlain, Y_Ps_readComparison] <;> omega) (Nat.le_of_ble_eq_true rfl) rfl rfl rfl rfl ?_
    refine zi_lo [(0, .ref a0), (2, .int x2)] [0, 2] rfl ?_
    exact K_Ps_readPlain_b71 d n E S rc a0 x2 (bI q_14.1) q_14.2 r M' hrc  h
  · rw [if_pos c_12] at h
    refine zi_aload_n 0 d_Ps_readPlain_58 rfl ?_
    refine zi_iload_n 1 d_Ps_readPlain_59 rfl ?_
    obtain ⟨q_13, eq_13, h⟩ := zbind h
    refine zo_virt (k' := 0) (n' := 0) 63 [.int x1] [] [.int (bI q_13.1)] zkd_5 (zgR_s eb_9).1 (C_Ps_readTestInBrackets d n E S rc a0 x1 q_11.2 q_13.1 q_13.2 hrc eq_13) d_Ps_readPlain_60 tw_807 tw_804 tw_806 ts_19 tw_6 dd_Ps_readTestInBrackets (by refine ⟨?_, ?_, ?_, ?_⟩ <;> simp only [yH, yL, yC, yS, Y_Ps_readPlain, Y_Ps_readTestInBrackets] <;> omega) (Nat.le_of_ble_eq_true rfl) rfl rfl rfl rfl ?_
    refine zi_goto (tgt := 71) d_Ps_readPlain_63 rfl ?_
    refine zi_lo [(0, .ref a0), (2, .int x2)] [0, 2] rfl ?_
    exact K_Ps_readPlain_b71 d n E S rc a0 x2 (bI q_13.1) q_13.2 r M' hrc  h
theorem K_Ps_readPlain_L4 (d : Nat) (n : Nat) (E : zE) (S : zS) (rc : Nat × Int32 × zH → Option (Bool × zH)) (r4 : Nat × Int32 × Int32 × Int32 × zH → Option (Bool × zH)) (a0 : Nat) (x1 : Int32) (x2 : Int32) (x3 : Int32) (M : zH) (r : Bool) (M' : zH) (hrc : ∀ (p0 : Nat) (p1 : Int32) (M : zH) (r : Bool) (M' : zH), rc (p0, p1, M) = some (r, M') → zC E (Y_Ps_readTest d) [.ref p0, .int p1] S M (some (.int (bI r)), S, M')) (hr4 : ∀ (a0 : Nat) (x1 : Int32) (x2 : Int32) (x3 : Int32) (M : zH), r4 (a0, x1, x2, x3, M) = some (r, M') → zG E (Y_Ps_readPlain (d + 1)) (some (.int (bI r)), S, M') 4 [(0, .ref a0), (1, .int x1), (2, .int x2), (3, .int x3)] [] S M 0 0) (h : F_Ps_readPlain_L4 n E S rc r4 a0 x1 x2 x3 M = some (r, M')) : zG E (Y_Ps_readPlain (d + 1)) (some (.int (bI r)), S, M') 4 [(0, .ref a0), (1, .int x1), (2, .int x2), (3, .int x3)] [] S M 0 0 := by
  unfold F_Ps_readPlain_L4 at h
  refine zi_iload_n 3 d_Ps_readPlain_4 rfl ?_
  refine zi_sipush 400 d_Ps_readPlain_5 rfl ?_
  refine zi_icmp_ge (tgt := 46) d_Ps_readPlain_8 rfl (fun c_15 => ?_) (fun c_15 => ?_)
  · rw [if_pos c_15] at h
    refine zi_lo [(0, .ref a0), (1, .int x1), (2, .int x2)] [0, 1, 2] rfl ?_
    exact K_Ps_readPlain_b46 d n E S rc a0 x1 x2 M r M' hrc  h
  · rw [if_neg c_15] at h
    refine zi_aload_n 0 d_Ps_readPlain_11 rfl ?_
    obtain ⟨b_16, eb_16, h⟩ := zbind h
    refine zo_getR 15 zkd_5 1 d_Ps_readPlain_12 eb_16 rfl tw_217 rfl ?_
    refine zi_ldcS d_Ps_readPlain_15 (zlit_10 E) ?_
    obtain ⟨u_17, eu_17, h⟩ := zbind h
    obtain ⟨q_18, eq_18, h⟩ := zbind h
    refine zo_virt (k' := 0) (n' := 0) 20 [.ref (eK E 10)] [] [.int (bI q_18.1)] zkd_8 (zck_s eu_17) (C_Ta_atWord n E S b_16 10 M q_18.1 q_18.2 eq_18) d_Ps_readPlain_17 tw_780 tw_777 tw_778 tw_779 tw_5 dd_Ta_atWord (by refine ⟨?_, ?_, ?_, ?_⟩ <;> simp only [yH, yL, yC, yS, Y_Ps_readPlain, Y_Ta_atWord] <;> omega) (Nat.le_of_ble_eq_true rfl) rfl rfl rfl rfl ?_
    refine zo_ifeqB d_Ps_readPlain_20 rfl 23 rfl (fun c_19 => ?_) (fun c_19 => ?_)
    · rw [if_neg c_19] at h
      refine zi_lo [(0, .ref a0), (1, .int x1), (2, .int x2)] [0, 1, 2] rfl ?_
      exact K_Ps_readPlain_b46 d n E S rc a0 x1 x2 q_18.2 r M' hrc  h
    · rw [if_pos c_19] at h
      refine zi_aload_n 0 d_Ps_readPlain_23 rfl ?_
      refine zo_getR 27 zkd_5 1 d_Ps_readPlain_24 eb_16 rfl tw_217 rfl ?_
      obtain ⟨q_20, eq_20, h⟩ := zbind h
      refine zo_virt (k' := 0) (n' := 0) 30 [] [] [] zkd_8 (zck_s eu_17) (C_Ta_advance n E S b_16 q_18.2 q_20 eq_20) d_Ps_readPlain_27 tw_575 tw_655 tw_573 tw_574 tw_5 dd_Ta_advance (by refine ⟨?_, ?_, ?_, ?_⟩ <;> simp only [yH, yL, yC, yS, Y_Ps_readPlain, Y_Ta_advance] <;> omega) (Nat.le_of_ble_eq_true rfl) rfl rfl rfl rfl ?_
      refine zi_iload_n 2 d_Ps_readPlain_30 rfl ?_
      refine zi_if_ne (tgt := 38) d_Ps_readPlain_31 rfl (fun c_21 => ?_) (fun c_21 => ?_)
      · rw [if_neg c_21] at h
        refine zi_iconst 0 d_Ps_readPlain_38 rfl ?_
        refine zi_lo [(0, .ref a0), (1, .int x1), (3, .int x3)] [0, 1, 3] rfl ?_
        exact K_Ps_readPlain_b39 d n E S rc r4 a0 x1 x3 0 q_20 r M' hrc hr4 h
      · rw [if_pos c_21] at h
        refine zi_iconst 1 d_Ps_readPlain_34 rfl ?_
        refine zi_goto (tgt := 39) d_Ps_readPlain_35 rfl ?_
        refine zi_lo [(0, .ref a0), (1, .int x1), (3, .int x3)] [0, 1, 3] rfl ?_
        exact K_Ps_readPlain_b39 d n E S rc r4 a0 x1 x3 1 q_20 r M' hrc hr4 h
theorem K_Ps_readPlain_b4 (d : Nat) (n : Nat) (E : zE) (S : zS) (rc : Nat × Int32 × zH → Option (Bool × zH)) (a0 : Nat) (x1 : Int32) (x2 : Int32) (x3 : Int32) (M : zH) (r : Bool) (M' : zH) (hrc : ∀ (p0 : Nat) (p1 : Int32) (M : zH) (r : Bool) (M' : zH), rc (p0, p1, M) = some (r, M') → zC E (Y_Ps_readTest d) [.ref p0, .int p1] S M (some (.int (bI r)), S, M'))  (h : F_Ps_readPlain_b4 n E S rc (a0, x1, x2, x3, M) = some (r, M')) : zG E (Y_Ps_readPlain (d + 1)) (some (.int (bI r)), S, M') 4 [(0, .ref a0), (1, .int x1), (2, .int x2), (3, .int x3)] [] S M 0 0 := by
  have key : ∀ (k : Nat) (a0 : Nat) (x1 : Int32) (x2 : Int32) (x3 : Int32) (M : zH), zfix (fun r4 s => F_Ps_readPlain_L4 n E S rc r4 s.1 s.2.1 s.2.2.1 s.2.2.2.1 s.2.2.2.2) k (a0, x1, x2, x3, M) = some (r, M') → zG E (Y_Ps_readPlain (d + 1)) (some (.int (bI r)), S, M') 4 [(0, .ref a0), (1, .int x1), (2, .int x2), (3, .int x3)] [] S M 0 0 := by
    intro k
    induction k with
    | zero => intro a0 x1 x2 x3 M h; cases h
    | succ k ih => intro a0 x1 x2 x3 M h; exact K_Ps_readPlain_L4 d n E S rc _ a0 x1 x2 x3 M r M' hrc  (fun a0 x1 x2 x3 M h => ih a0 x1 x2 x3 M h) h
  exact key n a0 x1 x2 x3 M h
theorem K_Ps_readPlain (d : Nat) (n : Nat) (E : zE) (S : zS) (rc : Nat × Int32 × zH → Option (Bool × zH)) (a0 : Nat) (x1 : Int32) (M : zH) (r : Bool) (M' : zH) (hrc : ∀ (p0 : Nat) (p1 : Int32) (M : zH) (r : Bool) (M' : zH), rc (p0, p1, M) = some (r, M') → zC E (Y_Ps_readTest d) [.ref p0, .int p1] S M (some (.int (bI r)), S, M'))  (h : F_Ps_readPlain n E S rc a0 x1 M = some (r, M')) : zG E (Y_Ps_readPlain (d + 1)) (some (.int (bI r)), S, M') 0 [(0, .ref a0), (1, .int x1)] [] S M 0 0 := by
  unfold F_Ps_readPlain at h
  refine zi_iconst 0 d_Ps_readPlain_0 rfl ?_
  refine zi_istore_n [(2, .int 0), (0, .ref a0), (1, .int x1)] d_Ps_readPlain_1 (Nat.le_of_ble_eq_true rfl) rfl ?_
  refine zi_iconst 0 d_Ps_readPlain_2 rfl ?_
  refine zi_istore_n [(3, .int 0), (2, .int 0), (0, .ref a0), (1, .int x1)] d_Ps_readPlain_3 (Nat.le_of_ble_eq_true rfl) rfl ?_
  refine zi_lo [(0, .ref a0), (1, .int x1), (2, .int 0), (3, .int 0)] [2, 3, 1, 0] rfl ?_
  exact K_Ps_readPlain_b4 d n E S rc a0 x1 0 0 M r M' hrc  h
theorem C_Ps_readPlain (d : Nat) (n : Nat) (E : zE) (S : zS) (rc : Nat × Int32 × zH → Option (Bool × zH)) (a0 : Nat) (x1 : Int32) (M : zH) (r : Bool) (M' : zH) (hrc : ∀ (p0 : Nat) (p1 : Int32) (M : zH) (r : Bool) (M' : zH), rc (p0, p1, M) = some (r, M') → zC E (Y_Ps_readTest d) [.ref p0, .int p1] S M (some (.int (bI r)), S, M')) (h : F_Ps_readPlain n E S rc a0 x1 M = some (r, M')) : zC E (Y_Ps_readPlain (d + 1)) [.ref a0, .int x1] S M (some (.int (bI r)), S, M') :=
  zC.of (Or.inl (show plainName "NightColander$Parser" = true by decide)) (Nat.le_of_ble_eq_true rfl) (bI_nar r) (K_Ps_readPlain d n E S rc a0 x1 M r M' hrc h)
theorem d_Te_leapHere_0 : decode (yB Y_Te_leapHere) 0 = .ok (.iload_n 1, 1) := by decide +kernel
theorem d_Te_leapHere_1 : decode (yB Y_Te_leapHere) 1 = .ok (.iconst 0, 1) := by decide +kernel
theorem d_Te_leapHere_2 : decode (yB Y_Te_leapHere) 2 = .ok (.aload_n 0, 1) := by decide +kernel
theorem d_Te_leapHere_3 : decode (yB Y_Te_leapHere) 3 = .ok (.getfield 7, 3) := by decide +kernel
theorem d_Te_leapHere_6 : decode (yB Y_Te_leapHere) 6 = .ok (.iconst 1, 1) := by decide +kernel
theorem d_Te_leapHere_7 : decode (yB Y_Te_leapHere) 7 = .ok (.isub, 1) := by decide +kernel
theorem d_Te_leapHere_8 : decode (yB Y_Te_leapHere) 8 = .ok (.invokestatic 54, 3) := by decide +kernel
theorem d_Te_leapHere_11 : decode (yB Y_Te_leapHere) 11 = .ok (.ifCond .eq 25, 3) := by decide +kernel
theorem d_Te_leapHere_14 : decode (yB Y_Te_leapHere) 14 = .ok (.aload_n 0, 1) := by decide +kernel
theorem d_Te_leapHere_15 : decode (yB Y_Te_leapHere) 15 = .ok (.getfield 16, 3) := by decide +kernel
theorem d_Te_leapHere_18 : decode (yB Y_Te_leapHere) 18 = .ok (.iload_n 1, 1) := by decide +kernel
theorem d_Te_leapHere_19 : decode (yB Y_Te_leapHere) 19 = .ok (.aload_n 0, 1) := by decide +kernel
theorem d_Te_leapHere_20 : decode (yB Y_Te_leapHere) 20 = .ok (.getfield 16, 3) := by decide +kernel
theorem d_Te_leapHere_23 : decode (yB Y_Te_leapHere) 23 = .ok (.iload_n 1, 1) := by decide +kernel
theorem d_Te_leapHere_24 : decode (yB Y_Te_leapHere) 24 = .ok (.iaload, 1) := by decide +kernel
theorem d_Te_leapHere_25 : decode (yB Y_Te_leapHere) 25 = .ok (.bipush 15, 2) := by decide +kernel
theorem d_Te_leapHere_27 : decode (yB Y_Te_leapHere) 27 = .ok (.iand, 1) := by decide +kernel
theorem d_Te_leapHere_28 : decode (yB Y_Te_leapHere) 28 = .ok (.aload_n 0, 1) := by decide +kernel
theorem d_Te_leapHere_29 : decode (yB Y_Te_leapHere) 29 = .ok (.getfield 7, 3) := by decide +kernel
theorem d_Te_leapHere_32 : decode (yB Y_Te_leapHere) 32 = .ok (.iconst 4, 1) := by decide +kernel
theorem d_Te_leapHere_33 : decode (yB Y_Te_leapHere) 33 = .ok (.ishl, 1) := by decide +kernel
theorem d_Te_leapHere_34 : decode (yB Y_Te_leapHere) 34 = .ok (.ior, 1) := by decide +kernel
theorem d_Te_leapHere_35 : decode (yB Y_Te_leapHere) 35 = .ok (.iastore, 1) := by decide +kernel
theorem d_Te_leapHere_36 : decode (yB Y_Te_leapHere) 36 = .ok (.return_, 1) := by decide +kernel
def F_Te_leapHere (n : Nat) (E : zE) (S : zS) (a0 : Nat) (x1 : Int32) (M : zH) : Option (zH) :=
  (zgI S M a0 9 5).bind fun v_1 =>
  (F_NC_within n E S x1 0 (v_1 - 1) M).bind fun q_2 =>
  if q_2.1 = true then
    (zgR S a0 9 0).bind fun b_4 =>
    (zldI S q_2.2 b_4 x1).bind fun v_5 =>
    (zgI S q_2.2 a0 9 5).bind fun v_6 =>
    (zstI S q_2.2 b_4 x1 ((v_5 &&& (15 : Int32)) ||| (v_6 <<< ((4 : Int32) &&& (31 : Int32))))).bind fun m_7 =>
    some (m_7)
  else
    some (q_2.2)
theorem K_Te_leapHere (n : Nat) (E : zE) (S : zS) (a0 : Nat) (x1 : Int32) (M : zH) (M' : zH)  (h : F_Te_leapHere n E S a0 x1 M = some M') : zG E Y_Te_leapHere (none, S, M') 0 [(0, .ref a0), (1, .int x1)] [] S M 0 0 := by
  unfold F_Te_leapHere at h
  refine zi_iload_n 1 d_Te_leapHere_0 rfl ?_
  refine zi_iconst 0 d_Te_leapHere_1 rfl ?_
  refine zi_aload_n 0 d_Te_leapHere_2 rfl ?_
  obtain ⟨v_1, ev_1, h⟩ := zbind h
  refine zo_getI 6 zkd_9 5 d_Te_leapHere_3 ev_1 rfl tw_195 rfl ?_
  refine zi_iconst 1 d_Te_leapHere_6 rfl ?_
  refine zi_isub d_Te_leapHere_7 ?_
  obtain ⟨q_2, eq_2, h⟩ := zbind h
  refine zo_statN (k' := 0) (n' := 0) 11 [.int x1, .int 0, .int (v_1 - 1)] [] [.int (bI q_2.1)] (C_NC_within n E S x1 0 (v_1 - 1) M q_2.1 q_2.2 eq_2) d_Te_leapHere_8 tw_399 (List.mem_of_getElem? (i := 8) rfl) tw_398 tw_1 dd_NC_within ⟨Nat.le_of_ble_eq_true rfl, Nat.le_of_ble_eq_true rfl, Nat.le_of_ble_eq_true rfl, Nat.le_of_ble_eq_true rfl⟩ (Nat.le_of_ble_eq_true rfl) rfl rfl rfl rfl ?_
  refine zo_ifeqB d_Te_leapHere_11 rfl 14 rfl (fun c_3 => ?_) (fun c_3 => ?_)
  · rw [if_neg c_3] at h
    cases h
    exact zo_ret d_Te_leapHere_36 (Nat.le_of_ble_eq_true rfl) (Nat.le_of_ble_eq_true rfl) rfl
  · rw [if_pos c_3] at h
    refine zi_aload_n 0 d_Te_leapHere_14 rfl ?_
    obtain ⟨b_4, eb_4, h⟩ := zbind h
    refine zo_getR 18 zkd_9 0 d_Te_leapHere_15 eb_4 rfl tw_185 rfl ?_
    refine zi_iload_n 1 d_Te_leapHere_18 rfl ?_
    refine zi_aload_n 0 d_Te_leapHere_19 rfl ?_
    refine zo_getR 23 zkd_9 0 d_Te_leapHere_20 eb_4 rfl tw_185 rfl ?_
    refine zi_iload_n 1 d_Te_leapHere_23 rfl ?_
    obtain ⟨v_5, ev_5, h⟩ := zbind h
    refine zo_iald 25 d_Te_leapHere_24 ev_5 rfl ?_
    refine zi_bipush 15 d_Te_leapHere_25 rfl ?_
    refine zi_iand d_Te_leapHere_27 ?_
    refine zi_aload_n 0 d_Te_leapHere_28 rfl ?_
    obtain ⟨v_6, ev_6, h⟩ := zbind h
    refine zo_getI 32 zkd_9 5 d_Te_leapHere_29 ev_6 rfl tw_195 rfl ?_
    refine zi_iconst 4 d_Te_leapHere_32 rfl ?_
    refine zi_ishl d_Te_leapHere_33 ?_
    refine zi_ior d_Te_leapHere_34 ?_
    obtain ⟨m_7, em_7, h⟩ := zbind h
    refine zo_iast 36 d_Te_leapHere_35 em_7 rfl ?_
    cases h
    exact zo_ret d_Te_leapHere_36 (Nat.le_of_ble_eq_true rfl) (Nat.le_of_ble_eq_true rfl) rfl
theorem C_Te_leapHere (n : Nat) (E : zE) (S : zS) (a0 : Nat) (x1 : Int32) (M : zH) (M' : zH) (h : F_Te_leapHere n E S a0 x1 M = some M') : zC E Y_Te_leapHere [.ref a0, .int x1] S M (none, S, M') :=
  zC.of (Or.inl (show plainName "NightColander$Text" = true by decide)) (Nat.le_of_ble_eq_true rfl) (trivial) (K_Te_leapHere n E S a0 x1 M M' h)
theorem d_Ps_readBoth_0 : decode prog_7_method_8_code 0 = .ok (.aload_n 0, 1) := by decide +kernel
theorem d_Ps_readBoth_1 : decode prog_7_method_8_code 1 = .ok (.iload_n 1, 1) := by decide +kernel
theorem d_Ps_readBoth_2 : decode prog_7_method_8_code 2 = .ok (.invokevirtual 124, 3) := by decide +kernel
theorem d_Ps_readBoth_5 : decode prog_7_method_8_code 5 = .ok (.ifCond .ne 5, 3) := by decide +kernel
theorem d_Ps_readBoth_8 : decode prog_7_method_8_code 8 = .ok (.iconst 0, 1) := by decide +kernel
theorem d_Ps_readBoth_9 : decode prog_7_method_8_code 9 = .ok (.ireturn, 1) := by decide +kernel
theorem d_Ps_readBoth_10 : decode prog_7_method_8_code 10 = .ok (.iconst 0, 1) := by decide +kernel
theorem d_Ps_readBoth_11 : decode prog_7_method_8_code 11 = .ok (.istore_n 2, 1) := by decide +kernel
theorem d_Ps_readBoth_12 : decode prog_7_method_8_code 12 = .ok (.iload_n 2, 1) := by decide +kernel
theorem d_Ps_readBoth_13 : decode prog_7_method_8_code 13 = .ok (.sipush 400, 3) := by decide +kernel
theorem d_Ps_readBoth_16 : decode prog_7_method_8_code 16 = .ok (.if_icmp .ge 56, 3) := by decide +kernel
theorem d_Ps_readBoth_19 : decode prog_7_method_8_code 19 = .ok (.aload_n 0, 1) := by decide +kernel
theorem d_Ps_readBoth_20 : decode prog_7_method_8_code 20 = .ok (.getfield 26, 3) := by decide +kernel
theorem d_Ps_readBoth_23 : decode prog_7_method_8_code 23 = .ok (.ldc 127, 2) := by decide +kernel
theorem d_Ps_readBoth_25 : decode prog_7_method_8_code 25 = .ok (.invokevirtual 77, 3) := by decide +kernel
theorem d_Ps_readBoth_28 : decode prog_7_method_8_code 28 = .ok (.ifCond .eq 44, 3) := by decide +kernel
theorem d_Ps_readBoth_31 : decode prog_7_method_8_code 31 = .ok (.aload_n 0, 1) := by decide +kernel
theorem d_Ps_readBoth_32 : decode prog_7_method_8_code 32 = .ok (.getfield 26, 3) := by decide +kernel
theorem d_Ps_readBoth_35 : decode prog_7_method_8_code 35 = .ok (.invokevirtual 53, 3) := by decide +kernel
theorem d_Ps_readBoth_38 : decode prog_7_method_8_code 38 = .ok (.aload_n 0, 1) := by decide +kernel
theorem d_Ps_readBoth_39 : decode prog_7_method_8_code 39 = .ok (.getfield 12, 3) := by decide +kernel
theorem d_Ps_readBoth_42 : decode prog_7_method_8_code 42 = .ok (.iconst 3, 1) := by decide +kernel
theorem d_Ps_readBoth_43 : decode prog_7_method_8_code 43 = .ok (.iconst 0, 1) := by decide +kernel
theorem d_Ps_readBoth_44 : decode prog_7_method_8_code 44 = .ok (.invokevirtual 117, 3) := by decide +kernel
theorem d_Ps_readBoth_47 : decode prog_7_method_8_code 47 = .ok (.istore_n 3, 1) := by decide +kernel
theorem d_Ps_readBoth_48 : decode prog_7_method_8_code 48 = .ok (.aload_n 0, 1) := by decide +kernel
theorem d_Ps_readBoth_49 : decode prog_7_method_8_code 49 = .ok (.iload_n 1, 1) := by decide +kernel
theorem d_Ps_readBoth_50 : decode prog_7_method_8_code 50 = .ok (.invokevirtual 124, 3) := by decide +kernel
theorem d_Ps_readBoth_53 : decode prog_7_method_8_code 53 = .ok (.ifCond .ne 5, 3) := by decide +kernel
theorem d_Ps_readBoth_56 : decode prog_7_method_8_code 56 = .ok (.iconst 0, 1) := by decide +kernel
theorem d_Ps_readBoth_57 : decode prog_7_method_8_code 57 = .ok (.ireturn, 1) := by decide +kernel
theorem d_Ps_readBoth_58 : decode prog_7_method_8_code 58 = .ok (.aload_n 0, 1) := by decide +kernel
theorem d_Ps_readBoth_59 : decode prog_7_method_8_code 59 = .ok (.getfield 12, 3) := by decide +kernel
theorem d_Ps_readBoth_62 : decode prog_7_method_8_code 62 = .ok (.iload_n 3, 1) := by decide +kernel
theorem d_Ps_readBoth_63 : decode prog_7_method_8_code 63 = .ok (.invokevirtual 121, 3) := by decide +kernel
theorem d_Ps_readBoth_66 : decode prog_7_method_8_code 66 = .ok (.iinc 2 1, 3) := by decide +kernel
theorem d_Ps_readBoth_69 : decode prog_7_method_8_code 69 = .ok (.goto (-57), 3) := by decide +kernel
theorem d_Ps_readBoth_72 : decode prog_7_method_8_code 72 = .ok (.iconst 1, 1) := by decide +kernel
theorem d_Ps_readBoth_73 : decode prog_7_method_8_code 73 = .ok (.ireturn, 1) := by decide +kernel
def F_Ps_readBoth_L12 (n : Nat) (E : zE) (S : zS) (rc : Nat × Int32 × zH → Option (Bool × zH)) (r12 : Nat × Int32 × Int32 × zH → Option (Bool × zH)) (a0 : Nat) (x1 : Int32) (x2 : Int32) (M : zH) : Option (Bool × zH) :=
  if 400 ≤ x2 then
    some (true, M)
  else
    (zgR S a0 5 1).bind fun b_2 =>
    (zck S b_2 8).bind fun u_3 =>
    (F_Ta_atWord n E S b_2 12 M).bind fun q_4 =>
    if q_4.1 = true then
      (F_Ta_advance n E S b_2 q_4.2).bind fun q_6 =>
      (zgR S a0 5 0).bind fun b_7 =>
      (zck S b_7 9).bind fun u_8 =>
      (F_Te_add n E S b_7 3 0 q_6).bind fun q_9 =>
      (F_Ps_readPlain n E S rc a0 x1 q_9.2).bind fun q_10 =>
      if q_10.1 = true then
        (F_Te_leapHere n E S b_7 q_9.1 q_10.2).bind fun q_12 =>
        r12 (a0, x1, x2 + 1, q_12)
      else
        some (false, q_10.2)
    else
      some (true, q_4.2)
def F_Ps_readBoth_b12 (n : Nat) (E : zE) (S : zS) (rc : Nat × Int32 × zH → Option (Bool × zH)) : Nat × Int32 × Int32 × zH → Option (Bool × zH) := zfix (fun r12 s => F_Ps_readBoth_L12 n E S rc r12 s.1 s.2.1 s.2.2.1 s.2.2.2) n
def F_Ps_readBoth (n : Nat) (E : zE) (S : zS) (rc : Nat × Int32 × zH → Option (Bool × zH)) (a0 : Nat) (x1 : Int32) (M : zH) : Option (Bool × zH) :=
  (zck S a0 5).bind fun u_13 =>
  (F_Ps_readPlain n E S rc a0 x1 M).bind fun q_14 =>
  if q_14.1 = true then
    F_Ps_readBoth_b12 n E S rc (a0, x1, 0, q_14.2)
  else
    some (false, q_14.2)
theorem K_Ps_readBoth_L12 (d : Nat) (n : Nat) (E : zE) (S : zS) (rc : Nat × Int32 × zH → Option (Bool × zH)) (r12 : Nat × Int32 × Int32 × zH → Option (Bool × zH)) (a0 : Nat) (x1 : Int32) (x2 : Int32) (M : zH) (r : Bool) (M' : zH) (hrc : ∀ (p0 : Nat) (p1 : Int32) (M : zH) (r : Bool) (M' : zH), rc (p0, p1, M) = some (r, M') → zC E (Y_Ps_readTest d) [.ref p0, .int p1] S M (some (.int (bI r)), S, M')) (hr12 : ∀ (a0 : Nat) (x1 : Int32) (x2 : Int32) (M : zH), r12 (a0, x1, x2, M) = some (r, M') → zG E (Y_Ps_readBoth (d + 1)) (some (.int (bI r)), S, M') 12 [(0, .ref a0), (1, .int x1), (2, .int x2)] [] S M 0 0) (h : F_Ps_readBoth_L12 n E S rc r12 a0 x1 x2 M = some (r, M')) : zG E (Y_Ps_readBoth (d + 1)) (some (.int (bI r)), S, M') 12 [(0, .ref a0), (1, .int x1), (2, .int x2)] [] S M 0 0 := by
  unfold F_Ps_readBoth_L12 at h
  refine zi_iload_n 2 d_Ps_readBoth_12 rfl ?_
  refine zi_sipush 400 d_Ps_readBoth_13 rfl ?_
  refine zi_icmp_ge (tgt := 72) d_Ps_readBoth_16 rfl (fun c_1 => ?_) (fun c_1 => ?_)
  · rw [if_pos c_1] at h
    refine zi_iconst 1 d_Ps_readBoth_72 rfl ?_
    cases h
    exact zo_retB d_Ps_readBoth_73 (Nat.le_of_ble_eq_true rfl) (Nat.le_of_ble_eq_true rfl) rfl
  · rw [if_neg c_1] at h
    refine zi_aload_n 0 d_Ps_readBoth_19 rfl ?_
    obtain ⟨b_2, eb_2, h⟩ := zbind h
    refine zo_getR 23 zkd_5 1 d_Ps_readBoth_20 eb_2 rfl tw_217 rfl ?_
    refine zi_ldcS d_Ps_readBoth_23 (zlit_12 E) ?_
    obtain ⟨u_3, eu_3, h⟩ := zbind h
    obtain ⟨q_4, eq_4, h⟩ := zbind h
    refine zo_virt (k' := 0) (n' := 0) 28 [.ref (eK E 12)] [] [.int (bI q_4.1)] zkd_8 (zck_s eu_3) (C_Ta_atWord n E S b_2 12 M q_4.1 q_4.2 eq_4) d_Ps_readBoth_25 tw_780 tw_777 tw_778 tw_779 tw_5 dd_Ta_atWord (by refine ⟨?_, ?_, ?_, ?_⟩ <;> simp only [yH, yL, yC, yS, Y_Ps_readBoth, Y_Ta_atWord] <;> omega) (Nat.le_of_ble_eq_true rfl) rfl rfl rfl rfl ?_
    refine zo_ifeqB d_Ps_readBoth_28 rfl 31 rfl (fun c_5 => ?_) (fun c_5 => ?_)
    · rw [if_neg c_5] at h
      refine zi_iconst 1 d_Ps_readBoth_72 rfl ?_
      cases h
      exact zo_retB d_Ps_readBoth_73 (Nat.le_of_ble_eq_true rfl) (Nat.le_of_ble_eq_true rfl) rfl
    · rw [if_pos c_5] at h
      refine zi_aload_n 0 d_Ps_readBoth_31 rfl ?_
      refine zo_getR 35 zkd_5 1 d_Ps_readBoth_32 eb_2 rfl tw_217 rfl ?_
      obtain ⟨q_6, eq_6, h⟩ := zbind h
      refine zo_virt (k' := 0) (n' := 0) 38 [] [] [] zkd_8 (zck_s eu_3) (C_Ta_advance n E S b_2 q_4.2 q_6 eq_6) d_Ps_readBoth_35 tw_575 tw_655 tw_573 tw_574 tw_5 dd_Ta_advance (by refine ⟨?_, ?_, ?_, ?_⟩ <;> simp only [yH, yL, yC, yS, Y_Ps_readBoth, Y_Ta_advance] <;> omega) (Nat.le_of_ble_eq_true rfl) rfl rfl rfl rfl ?_
      refine zi_aload_n 0 d_Ps_readBoth_38 rfl ?_
      obtain ⟨b_7, eb_7, h⟩ := zbind h
      refine zo_getR 42 zkd_5 0 d_Ps_readBoth_39 eb_7 rfl tw_215 rfl ?_
      refine zi_iconst 3 d_Ps_readBoth_42 rfl ?_
      refine zi_iconst 0 d_Ps_readBoth_43 rfl ?_
      obtain ⟨u_8, eu_8, h⟩ := zbind h
      obtain ⟨q_9, eq_9, h⟩ := zbind h
      refine zo_virt (k' := 0) (n' := 0) 47 [.int 3, .int 0] [] [.int q_9.1] zkd_9 (zck_s eu_8) (C_Te_add n E S b_7 3 0 q_6 q_9.1 q_9.2 eq_9) d_Ps_readBoth_44 tw_698 tw_695 tw_696 tw_697 tw_7 dd_Te_add (by refine ⟨?_, ?_, ?_, ?_⟩ <;> simp only [yH, yL, yC, yS, Y_Ps_readBoth, Y_Te_add] <;> omega) (Nat.le_of_ble_eq_true rfl) rfl rfl rfl rfl ?_
      refine zi_istore_n [(3, .int q_9.1), (0, .ref a0), (1, .int x1), (2, .int x2)] d_Ps_readBoth_47 (Nat.le_of_ble_eq_true rfl) rfl ?_
      refine zi_aload_n 1 d_Ps_readBoth_48 rfl ?_
      refine zi_iload_n 2 d_Ps_readBoth_49 rfl ?_
      obtain ⟨q_10, eq_10, h⟩ := zbind h
      refine zo_virt (k' := 0) (n' := 0) 53 [.int x1] [] [.int (bI q_10.1)] zkd_5 (zgR_s eb_2).1 (C_Ps_readPlain d n E S rc a0 x1 q_9.2 q_10.1 q_10.2 hrc eq_10) d_Ps_readBoth_50 tw_802 tw_799 tw_801 ts_18 tw_6 dd_Ps_readPlain (by refine ⟨?_, ?_, ?_, ?_⟩ <;> simp only [yH, yL, yC, yS, Y_Ps_readBoth, Y_Ps_readPlain] <;> omega) (Nat.le_of_ble_eq_true rfl) rfl rfl rfl rfl ?_
      refine zo_ifneB d_Ps_readBoth_53 rfl 56 rfl (fun c_11 => ?_) (fun c_11 => ?_)
      · rw [if_pos c_11] at h
        refine zi_aload_n 1 d_Ps_readBoth_58 rfl ?_
        refine zo_getR 62 zkd_5 0 d_Ps_readBoth_59 eb_7 rfl tw_215 rfl ?_
        refine zi_iload_n 0 d_Ps_readBoth_62 rfl ?_
        obtain ⟨q_12, eq_12, h⟩ := zbind h
        refine zo_virt (k' := 0) (n' := 0) 66 [.int q_9.1] [] [] zkd_9 (zck_s eu_8) (C_Te_leapHere n E S b_7 q_9.1 q_10.2 q_12 eq_12) d_Ps_readBoth_63 tw_817 tw_814 tw_815 tw_816 tw_7 dd_Te_leapHere (by refine ⟨?_, ?_, ?_, ?_⟩ <;> simp only [yH, yL, yC, yS, Y_Ps_readBoth, Y_Te_leapHere] <;> omega) (Nat.le_of_ble_eq_true rfl) rfl rfl rfl rfl ?_
        refine zi_iinc 3 (x2 + 1) [(2, .int (x2 + 1)), (3, .int q_9.1), (0, .ref a0), (1, .int x1)] d_Ps_readBoth_66 rfl rfl (Nat.le_of_ble_eq_true rfl) rfl ?_
        refine zi_goto (tgt := 12) d_Ps_readBoth_69 rfl ?_
        refine zi_lo [(0, .ref a0), (1, .int x1), (2, .int (x2 + 1))] [2, 3, 0] rfl ?_
        exact hr12 a0 x1 (x2 + 1) q_12 h
      · rw [if_neg c_11] at h
        refine zi_iconst 0 d_Ps_readBoth_56 rfl ?_
        cases h
        exact zo_retB d_Ps_readBoth_57 (Nat.le_of_ble_eq_true rfl) (Nat.le_of_ble_eq_true rfl) rfl
theorem K_Ps_readBoth_b12 (d : Nat) (n : Nat) (E : zE) (S : zS) (rc : Nat × Int32 × zH → Option (Bool × zH)) (a0 : Nat) (x1 : Int32) (x2 : Int32) (M : zH) (r : Bool) (M' : zH) (hrc : ∀ (p0 : Nat) (p1 : Int32) (M : zH) (r : Bool) (M' : zH), rc (p0, p1, M) = some (r, M') → zC E (Y_Ps_readTest d) [.ref p0, .int p1] S M (some (.int (bI r)), S, M'))  (h : F_Ps_readBoth_b12 n E S rc (a0, x1, x2, M) = some (r, M')) : zG E (Y_Ps_readBoth (d + 1)) (some (.int (bI r)), S, M') 12 [(0, .ref a0), (1, .int x1), (2, .int x2)] [] S M 0 0 := by
  have key : ∀ (k : Nat) (a0 : Nat) (x1 : Int32) (x2 : Int32) (M : zH), zfix (fun r12 s => F_Ps_readBoth_L12 n E S rc r12 s.1 s.2.1 s.2.2.1 s.2.2.2) k (a0, x1, x2, M) = some (r, M') → zG E (Y_Ps_readBoth (d + 1)) (some (.int (bI r)), S, M') 12 [(0, .ref a0), (1, .int x1), (2, .int x2)] [] S M 0 0 := by
    intro k
    induction k with
    | zero => intro a0 x1 x2 M h; cases h
    | succ k ih => intro a0 x1 x2 M h; exact K_Ps_readBoth_L12 d n E S rc _ a0 x1 x2 M r M' hrc  (fun a0 x1 x2 M h => ih a0 x1 x2 M h) h
  exact key n a0 x1 x2 M h
theorem K_Ps_readBoth (d : Nat) (n : Nat) (E : zE) (S : zS) (rc : Nat × Int32 × zH → Option (Bool × zH)) (a0 : Nat) (x1 : Int32) (M : zH) (r : Bool) (M' : zH) (hrc : ∀ (p0 : Nat) (p1 : Int32) (M : zH) (r : Bool) (M' : zH), rc (p0, p1, M) = some (r, M') → zC E (Y_Ps_readTest d) [.ref p0, .int p1] S M (some (.int (bI r)), S, M'))  (h : F_Ps_readBoth n E S rc a0 x1 M = some (r, M')) : zG E (Y_Ps_readBoth (d + 1)) (some (.int (bI r)), S, M') 0 [(0, .ref a0), (1, .int x1)] [] S M 0 0 := by
  unfold F_Ps_readBoth at h
  refine zi_aload_n 0 d_Ps_readBoth_0 rfl ?_
  refine zi_iload_n 1 d_Ps_readBoth_1 rfl ?_
  obtain ⟨u_13, eu_13, h⟩ := zbind h
  obtain ⟨q_14, eq_14, h⟩ := zbind h
  refine zo_virt (k' := 0) (n' := 0) 5 [.int x1] [] [.int (bI q_14.1)] zkd_5 (zck_s eu_13) (C_Ps_readPlain d n E S rc a0 x1 M q_14.1 q_14.2 hrc eq_14) d_Ps_readBoth_2 tw_802 tw_799 tw_801 ts_18 tw_6 dd_Ps_readPlain (by refine ⟨?_, ?_, ?_, ?_⟩ <;> simp only [yH, yL, yC, yS, Y_Ps_readBoth, Y_Ps_readPlain] <;> omega) (Nat.le_of_ble_eq_true rfl) rfl rfl rfl rfl ?_
  refine zo_ifneB d_Ps_readBoth_5 rfl 8 rfl (fun c_15 => ?_) (fun c_15 => ?_)
  · rw [if_pos c_15] at h
    refine zi_iconst 0 d_Ps_readBoth_10 rfl ?_
    refine zi_istore_n [(2, .int 0), (0, .ref a0), (1, .int x1)] d_Ps_readBoth_11 (Nat.le_of_ble_eq_true rfl) rfl ?_
    refine zi_lo [(0, .ref a0), (1, .int x1), (2, .int 0)] [1, 2, 0] rfl ?_
    exact K_Ps_readBoth_b12 d n E S rc a0 x1 0 q_14.2 r M' hrc  h
  · rw [if_neg c_15] at h
    refine zi_iconst 0 d_Ps_readBoth_8 rfl ?_
    cases h
    exact zo_retB d_Ps_readBoth_9 (Nat.le_of_ble_eq_true rfl) (Nat.le_of_ble_eq_true rfl) rfl
theorem C_Ps_readBoth (d : Nat) (n : Nat) (E : zE) (S : zS) (rc : Nat × Int32 × zH → Option (Bool × zH)) (a0 : Nat) (x1 : Int32) (M : zH) (r : Bool) (M' : zH) (hrc : ∀ (p0 : Nat) (p1 : Int32) (M : zH) (r : Bool) (M' : zH), rc (p0, p1, M) = some (r, M') → zC E (Y_Ps_readTest d) [.ref p0, .int p1] S M (some (.int (bI r)), S, M')) (h : F_Ps_readBoth n E S rc a0 x1 M = some (r, M')) : zC E (Y_Ps_readBoth (d + 1)) [.ref a0, .int x1] S M (some (.int (bI r)), S, M') :=
  zC.of (Or.inl (show plainName "NightColander$Parser" = true by decide)) (Nat.le_of_ble_eq_true rfl) (bI_nar r) (K_Ps_readBoth d n E S rc a0 x1 M r M' hrc h)
theorem d_Ps_readTest_0 : decode prog_7_method_7_code 0 = .ok (.aload_n 0, 1) := by decide +kernel
theorem d_Ps_readTest_1 : decode prog_7_method_7_code 1 = .ok (.iload_n 1, 1) := by decide +kernel
theorem d_Ps_readTest_2 : decode prog_7_method_7_code 2 = .ok (.invokevirtual 112, 3) := by decide +kernel
theorem d_Ps_readTest_5 : decode prog_7_method_7_code 5 = .ok (.ifCond .ne 5, 3) := by decide +kernel
theorem d_Ps_readTest_8 : decode prog_7_method_7_code 8 = .ok (.iconst 0, 1) := by decide +kernel
theorem d_Ps_readTest_9 : decode prog_7_method_7_code 9 = .ok (.ireturn, 1) := by decide +kernel
theorem d_Ps_readTest_10 : decode prog_7_method_7_code 10 = .ok (.iconst 0, 1) := by decide +kernel
theorem d_Ps_readTest_11 : decode prog_7_method_7_code 11 = .ok (.istore_n 2, 1) := by decide +kernel
theorem d_Ps_readTest_12 : decode prog_7_method_7_code 12 = .ok (.iload_n 2, 1) := by decide +kernel
theorem d_Ps_readTest_13 : decode prog_7_method_7_code 13 = .ok (.sipush 400, 3) := by decide +kernel
theorem d_Ps_readTest_16 : decode prog_7_method_7_code 16 = .ok (.if_icmp .ge 56, 3) := by decide +kernel
theorem d_Ps_readTest_19 : decode prog_7_method_7_code 19 = .ok (.aload_n 0, 1) := by decide +kernel
theorem d_Ps_readTest_20 : decode prog_7_method_7_code 20 = .ok (.getfield 26, 3) := by decide +kernel
theorem d_Ps_readTest_23 : decode prog_7_method_7_code 23 = .ok (.ldc 115, 2) := by decide +kernel
theorem d_Ps_readTest_25 : decode prog_7_method_7_code 25 = .ok (.invokevirtual 77, 3) := by decide +kernel
theorem d_Ps_readTest_28 : decode prog_7_method_7_code 28 = .ok (.ifCond .eq 44, 3) := by decide +kernel
theorem d_Ps_readTest_31 : decode prog_7_method_7_code 31 = .ok (.aload_n 0, 1) := by decide +kernel
theorem d_Ps_readTest_32 : decode prog_7_method_7_code 32 = .ok (.getfield 26, 3) := by decide +kernel
theorem d_Ps_readTest_35 : decode prog_7_method_7_code 35 = .ok (.invokevirtual 53, 3) := by decide +kernel
theorem d_Ps_readTest_38 : decode prog_7_method_7_code 38 = .ok (.aload_n 0, 1) := by decide +kernel
theorem d_Ps_readTest_39 : decode prog_7_method_7_code 39 = .ok (.getfield 12, 3) := by decide +kernel
theorem d_Ps_readTest_42 : decode prog_7_method_7_code 42 = .ok (.iconst 4, 1) := by decide +kernel
theorem d_Ps_readTest_43 : decode prog_7_method_7_code 43 = .ok (.iconst 0, 1) := by decide +kernel
theorem d_Ps_readTest_44 : decode prog_7_method_7_code 44 = .ok (.invokevirtual 117, 3) := by decide +kernel
theorem d_Ps_readTest_47 : decode prog_7_method_7_code 47 = .ok (.istore_n 3, 1) := by decide +kernel
theorem d_Ps_readTest_48 : decode prog_7_method_7_code 48 = .ok (.aload_n 0, 1) := by decide +kernel
theorem d_Ps_readTest_49 : decode prog_7_method_7_code 49 = .ok (.iload_n 1, 1) := by decide +kernel
theorem d_Ps_readTest_50 : decode prog_7_method_7_code 50 = .ok (.invokevirtual 112, 3) := by decide +kernel
theorem d_Ps_readTest_53 : decode prog_7_method_7_code 53 = .ok (.ifCond .ne 5, 3) := by decide +kernel
theorem d_Ps_readTest_56 : decode prog_7_method_7_code 56 = .ok (.iconst 0, 1) := by decide +kernel
theorem d_Ps_readTest_57 : decode prog_7_method_7_code 57 = .ok (.ireturn, 1) := by decide +kernel
theorem d_Ps_readTest_58 : decode prog_7_method_7_code 58 = .ok (.aload_n 0, 1) := by decide +kernel
theorem d_Ps_readTest_59 : decode prog_7_method_7_code 59 = .ok (.getfield 12, 3) := by decide +kernel
theorem d_Ps_readTest_62 : decode prog_7_method_7_code 62 = .ok (.iload_n 3, 1) := by decide +kernel
theorem d_Ps_readTest_63 : decode prog_7_method_7_code 63 = .ok (.invokevirtual 121, 3) := by decide +kernel
theorem d_Ps_readTest_66 : decode prog_7_method_7_code 66 = .ok (.iinc 2 1, 3) := by decide +kernel
theorem d_Ps_readTest_69 : decode prog_7_method_7_code 69 = .ok (.goto (-57), 3) := by decide +kernel
theorem d_Ps_readTest_72 : decode prog_7_method_7_code 72 = .ok (.iconst 1, 1) := by decide +kernel
theorem d_Ps_readTest_73 : decode prog_7_method_7_code 73 = .ok (.ireturn, 1) := by decide +kernel
def F_Ps_readTest_L12 (n : Nat) (E : zE) (S : zS) (rc : Nat × Int32 × zH → Option (Bool × zH)) (r12 : Nat × Int32 × Int32 × zH → Option (Bool × zH)) (a0 : Nat) (x1 : Int32) (x2 : Int32) (M : zH) : Option (Bool × zH) :=
  if 400 ≤ x2 then
    some (true, M)
  else
    (zgR S a0 5 1).bind fun b_2 =>
    (zck S b_2 8).bind fun u_3 =>
    (F_Ta_atWord n E S b_2 13 M).bind fun q_4 =>
    if q_4.1 = true then
      (F_Ta_advance n E S b_2 q_4.2).bind fun q_6 =>
      (zgR S a0 5 0).bind fun b_7 =>
      (zck S b_7 9).bind fun u_8 =>
      (F_Te_add n E S b_7 4 0 q_6).bind fun q_9 =>
      (F_Ps_readBoth n E S rc a0 x1 q_9.2).bind fun q_10 =>
      if q_10.1 = true then
        (F_Te_leapHere n E S b_7 q_9.1 q_10.2).bind fun q_12 =>
        r12 (a0, x1, x2 + 1, q_12)
      else
        some (false, q_10.2)
    else
      some (true, q_4.2)
def F_Ps_readTest_b12 (n : Nat) (E : zE) (S : zS) (rc : Nat × Int32 × zH → Option (Bool × zH)) : Nat × Int32 × Int32 × zH → Option (Bool × zH) := zfix (fun r12 s => F_Ps_readTest_L12 n E S rc r12 s.1 s.2.1 s.2.2.1 s.2.2.2) n
def F_Ps_readTest (n : Nat) (E : zE) (S : zS) (rc : Nat × Int32 × zH → Option (Bool × zH)) (a0 : Nat) (x1 : Int32) (M : zH) : Option (Bool × zH) :=
  (zck S a0 5).bind fun u_13 =>
  (F_Ps_readBoth n E S rc a0 x1 M).bind fun q_14 =>
  if q_14.1 = true then
    F_Ps_readTest_b12 n E S rc (a0, x1, 0, q_14.2)
  else
    some (false, q_14.2)
theorem K_Ps_readTest_L12 (d : Nat) (n : Nat) (E : zE) (S : zS) (rc : Nat × Int32 × zH → Option (Bool × zH)) (r12 : Nat × Int32 × Int32 × zH → Option (Bool × zH)) (a0 : Nat) (x1 : Int32) (x2 : Int32) (M : zH) (r : Bool) (M' : zH) (hrc : ∀ (p0 : Nat) (p1 : Int32) (M : zH) (r : Bool) (M' : zH), rc (p0, p1, M) = some (r, M') → zC E (Y_Ps_readTest d) [.ref p0, .int p1] S M (some (.int (bI r)), S, M')) (hr12 : ∀ (a0 : Nat) (x1 : Int32) (x2 : Int32) (M : zH), r12 (a0, x1, x2, M) = some (r, M') → zG E (Y_Ps_readTest (d + 1)) (some (.int (bI r)), S, M') 12 [(0, .ref a0), (1, .int x1), (2, .int x2)] [] S M 0 0) (h : F_Ps_readTest_L12 n E S rc r12 a0 x1 x2 M = some (r, M')) : zG E (Y_Ps_readTest (d + 1)) (some (.int (bI r)), S, M') 12 [(0, .ref a0), (1, .int x1), (2, .int x2)] [] S M 0 0 := by
  unfold F_Ps_readTest_L12 at h
  refine zi_iload_n 2 d_Ps_readTest_12 rfl ?_
  refine zi_sipush 400 d_Ps_readTest_13 rfl ?_
  refine zi_icmp_ge (tgt := 72) d_Ps_readTest_16 rfl (fun c_1 => ?_) (fun c_1 => ?_)
  · rw [if_pos c_1] at h
    refine zi_iconst 1 d_Ps_readTest_72 rfl ?_
    cases h
    exact zo_retB d_Ps_readTest_73 (Nat.le_of_ble_eq_true rfl) (Nat.le_of_ble_eq_true rfl) rfl
  · rw [if_neg c_1] at h
    refine zi_aload_n 0 d_Ps_readTest_19 rfl ?_
    obtain ⟨b_2, eb_2, h⟩ := zbind h
    refine zo_getR 23 zkd_5 1 d_Ps_readTest_20 eb_2 rfl tw_217 rfl ?_
    refine zi_ldcS d_Ps_readTest_23 (zlit_13 E) ?_
    obtain ⟨u_3, eu_3, h⟩ := zbind h
    obtain ⟨q_4, eq_4, h⟩ := zbind h
    refine zo_virt (k' := 0) (n' := 0) 28 [.ref (eK E 13)] [] [.int (bI q_4.1)] zkd_8 (zck_s eu_3) (C_Ta_atWord n E S b_2 13 M q_4.1 q_4.2 eq_4) d_Ps_readTest_25 tw_780 tw_777 tw_778 tw_779 tw_5 dd_Ta_atWord (by refine ⟨?_, ?_, ?_, ?_⟩ <;> simp only [yH, yL, yC, yS, Y_Ps_readTest, Y_Ta_atWord] <;> omega) (Nat.le_of_ble_eq_true rfl) rfl rfl rfl rfl ?_
    refine zo_ifeqB d_Ps_readTest_28 rfl 31 rfl (fun c_5 => ?_) (fun c_5 => ?_)
    · rw [if_neg c_5] at h
      refine zi_iconst 1 d_Ps_readTest_72 rfl ?_
      cases h
      exact zo_retB d_Ps_readTest_73 (Nat.le_of_ble_eq_true rfl) (Nat.le_of_ble_eq_true rfl) rfl
    · rw [if_pos c_5] at h
      refine zi_aload_n 0 d_Ps_readTest_31 rfl ?_
      refine zo_getR 35 zkd_5 1 d_Ps_readTest_32 eb_2 rfl tw_217 rfl ?_
      obtain ⟨q_6, eq_6, h⟩ := zbind h
      refine zo_virt (k' := 0) (n' := 0) 38 [] [] [] zkd_8 (zck_s eu_3) (C_Ta_advance n E S b_2 q_4.2 q_6 eq_6) d_Ps_readTest_35 tw_575 tw_655 tw_573 tw_574 tw_5 dd_Ta_advance (by refine ⟨?_, ?_, ?_, ?_⟩ <;> simp only [yH, yL, yC, yS, Y_Ps_readTest, Y_Ta_advance] <;> omega) (Nat.le_of_ble_eq_true rfl) rfl rfl rfl rfl ?_
      refine zi_aload_n 0 d_Ps_readTest_38 rfl ?_
      obtain ⟨b_7, eb_7, h⟩ := zbind h
      refine zo_getR 42 zkd_5 0 d_Ps_readTest_39 eb_7 rfl tw_215 rfl ?_
      refine zi_iconst 4 d_Ps_readTest_42 rfl ?_
      refine zi_iconst 0 d_Ps_readTest_43 rfl ?_
      obtain ⟨u_8, eu_8, h⟩ := zbind h
      obtain ⟨q_9, eq_9, h⟩ := zbind h
      refine zo_virt (k' := 0) (n' := 0) 47 [.int 4, .int 0] [] [.int q_9.1] zkd_9 (zck_s eu_8) (C_Te_add n E S b_7 4 0 q_6 q_9.1 q_9.2 eq_9) d_Ps_readTest_44 tw_698 tw_695 tw_696 tw_697 tw_7 dd_Te_add (by refine ⟨?_, ?_, ?_, ?_⟩ <;> simp only [yH, yL, yC, yS, Y_Ps_readTest, Y_Te_add] <;> omega) (Nat.le_of_ble_eq_true rfl) rfl rfl rfl rfl ?_
      refine zi_istore_n [(3, .int q_9.1), (0, .ref a0), (1, .int x1), (2, .int x2)] d_Ps_readTest_47 (Nat.le_of_ble_eq_true rfl) rfl ?_
      refine zi_aload_n 1 d_Ps_readTest_48 rfl ?_
      refine zi_iload_n 2 d_Ps_readTest_49 rfl ?_
      obtain ⟨q_10, eq_10, h⟩ := zbind h
      refine zo_virt (k' := 0) (n' := 0) 53 [.int x1] [] [.int (bI q_10.1)] zkd_5 (zgR_s eb_2).1 (C_Ps_readBoth d n E S rc a0 x1 q_9.2 q_10.1 q_10.2 hrc eq_10) d_Ps_readTest_50 tw_798 tw_795 tw_797 ts_17 tw_6 dd_Ps_readBoth (by refine ⟨?_, ?_, ?_, ?_⟩ <;> simp only [yH, yL, yC, yS, Y_Ps_readTest, Y_Ps_readBoth] <;> omega) (Nat.le_of_ble_eq_true rfl) rfl rfl rfl rfl ?_
      refine zo_ifneB d_Ps_readTest_53 rfl 56 rfl (fun c_11 => ?_) (fun c_11 => ?_)
      · rw [if_pos c_11] at h
        refine zi_aload_n 1 d_Ps_readTest_58 rfl ?_
        refine zo_getR 62 zkd_5 0 d_Ps_readTest_59 eb_7 rfl tw_215 rfl ?_
        refine zi_iload_n 0 d_Ps_readTest_62 rfl ?_
        obtain ⟨q_12, eq_12, h⟩ := zbind h
        refine zo_virt (k' := 0) (n' := 0) 66 [.int q_9.1] [] [] zkd_9 (zck_s eu_8) (C_Te_leapHere n E S b_7 q_9.1 q_10.2 q_12 eq_12) d_Ps_readTest_63 tw_817 tw_814 tw_815 tw_816 tw_7 dd_Te_leapHere (by refine ⟨?_, ?_, ?_, ?_⟩ <;> simp only [yH, yL, yC, yS, Y_Ps_readTest, Y_Te_leapHere] <;> omega) (Nat.le_of_ble_eq_true rfl) rfl rfl rfl rfl ?_
        refine zi_iinc 3 (x2 + 1) [(2, .int (x2 + 1)), (3, .int q_9.1), (0, .ref a0), (1, .int x1)] d_Ps_readTest_66 rfl rfl (Nat.le_of_ble_eq_true rfl) rfl ?_
        refine zi_goto (tgt := 12) d_Ps_readTest_69 rfl ?_
        refine zi_lo [(0, .ref a0), (1, .int x1), (2, .int (x2 + 1))] [2, 3, 0] rfl ?_
        exact hr12 a0 x1 (x2 + 1) q_12 h
      · rw [if_neg c_11] at h
        refine zi_iconst 0 d_Ps_readTest_56 rfl ?_
        cases h
        exact zo_retB d_Ps_readTest_57 (Nat.le_of_ble_eq_true rfl) (Nat.le_of_ble_eq_true rfl) rfl
theorem K_Ps_readTest_b12 (d : Nat) (n : Nat) (E : zE) (S : zS) (rc : Nat × Int32 × zH → Option (Bool × zH)) (a0 : Nat) (x1 : Int32) (x2 : Int32) (M : zH) (r : Bool) (M' : zH) (hrc : ∀ (p0 : Nat) (p1 : Int32) (M : zH) (r : Bool) (M' : zH), rc (p0, p1, M) = some (r, M') → zC E (Y_Ps_readTest d) [.ref p0, .int p1] S M (some (.int (bI r)), S, M'))  (h : F_Ps_readTest_b12 n E S rc (a0, x1, x2, M) = some (r, M')) : zG E (Y_Ps_readTest (d + 1)) (some (.int (bI r)), S, M') 12 [(0, .ref a0), (1, .int x1), (2, .int x2)] [] S M 0 0 := by
  have key : ∀ (k : Nat) (a0 : Nat) (x1 : Int32) (x2 : Int32) (M : zH), zfix (fun r12 s => F_Ps_readTest_L12 n E S rc r12 s.1 s.2.1 s.2.2.1 s.2.2.2) k (a0, x1, x2, M) = some (r, M') → zG E (Y_Ps_readTest (d + 1)) (some (.int (bI r)), S, M') 12 [(0, .ref a0), (1, .int x1), (2, .int x2)] [] S M 0 0 := by
    intro k
    induction k with
    | zero => intro a0 x1 x2 M h; cases h
    | succ k ih => intro a0 x1 x2 M h; exact K_Ps_readTest_L12 d n E S rc _ a0 x1 x2 M r M' hrc  (fun a0 x1 x2 M h => ih a0 x1 x2 M h) h
  exact key n a0 x1 x2 M h
theorem K_Ps_readTest (d : Nat) (n : Nat) (E : zE) (S : zS) (rc : Nat × Int32 × zH → Option (Bool × zH)) (a0 : Nat) (x1 : Int32) (M : zH) (r : Bool) (M' : zH) (hrc : ∀ (p0 : Nat) (p1 : Int32) (M : zH) (r : Bool) (M' : zH), rc (p0, p1, M) = some (r, M') → zC E (Y_Ps_readTest d) [.ref p0, .int p1] S M (some (.int (bI r)), S, M'))  (h : F_Ps_readTest n E S rc a0 x1 M = some (r, M')) : zG E (Y_Ps_readTest (d + 1)) (some (.int (bI r)), S, M') 0 [(0, .ref a0), (1, .int x1)] [] S M 0 0 := by
  unfold F_Ps_readTest at h
  refine zi_aload_n 0 d_Ps_readTest_0 rfl ?_
  refine zi_iload_n 1 d_Ps_readTest_1 rfl ?_
  obtain ⟨u_13, eu_13, h⟩ := zbind h
  obtain ⟨q_14, eq_14, h⟩ := zbind h
  refine zo_virt (k' := 0) (n' := 0) 5 [.int x1] [] [.int (bI q_14.1)] zkd_5 (zck_s eu_13) (C_Ps_readBoth d n E S rc a0 x1 M q_14.1 q_14.2 hrc eq_14) d_Ps_readTest_2 tw_798 tw_795 tw_797 ts_17 tw_6 dd_Ps_readBoth (by refine ⟨?_, ?_, ?_, ?_⟩ <;> simp only [yH, yL, yC, yS, Y_Ps_readTest, Y_Ps_readBoth] <;> omega) (Nat.le_of_ble_eq_true rfl) rfl rfl rfl rfl ?_
  refine zo_ifneB d_Ps_readTest_5 rfl 8 rfl (fun c_15 => ?_) (fun c_15 => ?_)
  · rw [if_pos c_15] at h
    refine zi_iconst 0 d_Ps_readTest_10 rfl ?_
    refine zi_istore_n [(2, .int 0), (0, .ref a0), (1, .int x1)] d_Ps_readTest_11 (Nat.le_of_ble_eq_true rfl) rfl ?_
    refine zi_lo [(0, .ref a0), (1, .int x1), (2, .int 0)] [1, 2, 0] rfl ?_
    exact K_Ps_readTest_b12 d n E S rc a0 x1 0 q_14.2 r M' hrc  h
  · rw [if_neg c_15] at h
    refine zi_iconst 0 d_Ps_readTest_8 rfl ?_
    cases h
    exact zo_retB d_Ps_readTest_9 (Nat.le_of_ble_eq_true rfl) (Nat.le_of_ble_eq_true rfl) rfl
theorem C_Ps_readTest (d : Nat) (n : Nat) (E : zE) (S : zS) (rc : Nat × Int32 × zH → Option (Bool × zH)) (a0 : Nat) (x1 : Int32) (M : zH) (r : Bool) (M' : zH) (hrc : ∀ (p0 : Nat) (p1 : Int32) (M : zH) (r : Bool) (M' : zH), rc (p0, p1, M) = some (r, M') → zC E (Y_Ps_readTest d) [.ref p0, .int p1] S M (some (.int (bI r)), S, M')) (h : F_Ps_readTest n E S rc a0 x1 M = some (r, M')) : zC E (Y_Ps_readTest (d + 1)) [.ref a0, .int x1] S M (some (.int (bI r)), S, M') :=
  zC.of (Or.inl (show plainName "NightColander$Parser" = true by decide)) (Nat.le_of_ble_eq_true rfl) (bI_nar r) (K_Ps_readTest d n E S rc a0 x1 M r M' hrc h)
def F_Ps_readTest_D (n : Nat) (E : zE) (S : zS) : Nat → (Nat × Int32 × zH) → Option (Bool × zH)
  | 0 => fun _ => none
  | d + 1 => fun s => F_Ps_readTest n E S (F_Ps_readTest_D n E S d) s.1 s.2.1 s.2.2
theorem C_Ps_readTest_D (n : Nat) (E : zE) (S : zS) (d : Nat) : ∀ (a0 : Nat) (x1 : Int32) (M : zH) (r : Bool) (M' : zH) (h : F_Ps_readTest_D n E S d (a0, x1, M) = some (r, M')), zC E (Y_Ps_readTest d) [.ref a0, .int x1] S M (some (.int (bI r)), S, M') := by
  induction d with
  | zero => intro a0 x1 M r M' h; cases h
  | succ d ih => intro a0 x1 M r M' h; exact C_Ps_readTest d n E S _ a0 x1 M r M' (fun a0 x1 M r M' h => ih a0 x1 M r M' h) h
theorem d_Te_closeClause_0 : decode (yB Y_Te_closeClause) 0 = .ok (.aload_n 0, 1) := by decide +kernel
theorem d_Te_closeClause_1 : decode (yB Y_Te_closeClause) 1 = .ok (.iconst 3, 1) := by decide +kernel
theorem d_Te_closeClause_2 : decode (yB Y_Te_closeClause) 2 = .ok (.invokevirtual 47, 3) := by decide +kernel
theorem d_Te_closeClause_5 : decode (yB Y_Te_closeClause) 5 = .ok (.aload_n 0, 1) := by decide +kernel
theorem d_Te_closeClause_6 : decode (yB Y_Te_closeClause) 6 = .ok (.dup, 1) := by decide +kernel
theorem d_Te_closeClause_7 : decode (yB Y_Te_closeClause) 7 = .ok (.getfield 13, 3) := by decide +kernel
theorem d_Te_closeClause_10 : decode (yB Y_Te_closeClause) 10 = .ok (.iconst 1, 1) := by decide +kernel
theorem d_Te_closeClause_11 : decode (yB Y_Te_closeClause) 11 = .ok (.iadd, 1) := by decide +kernel
theorem d_Te_closeClause_12 : decode (yB Y_Te_closeClause) 12 = .ok (.putfield 13, 3) := by decide +kernel
theorem d_Te_closeClause_15 : decode (yB Y_Te_closeClause) 15 = .ok (.return_, 1) := by decide +kernel
def F_Te_closeClause (n : Nat) (E : zE) (S : zS) (a0 : Nat) (M : zH) : Option (zH) :=
  (zck S a0 9).bind fun u_1 =>
  (F_Te_mark n E S a0 3 M).bind fun q_2 =>
  (zgI S q_2 a0 9 6).bind fun v_3 =>
  (zpI S q_2 a0 9 6 (v_3 + 1)).bind fun m_4 =>
  some (m_4)
theorem K_Te_closeClause (n : Nat) (E : zE) (S : zS) (a0 : Nat) (M : zH) (M' : zH)  (h : F_Te_closeClause n E S a0 M = some M') : zG E Y_Te_closeClause (none, S, M') 0 [(0, .ref a0)] [] S M 0 0 := by
  unfold F_Te_closeClause at h
  refine zi_aload_n 0 d_Te_closeClause_0 rfl ?_
  refine zi_iconst 3 d_Te_closeClause_1 rfl ?_
  obtain ⟨u_1, eu_1, h⟩ := zbind h
  obtain ⟨q_2, eq_2, h⟩ := zbind h
  refine zo_virt (k' := 0) (n' := 0) 5 [.int 3] [] [] zkd_9 (zck_s eu_1) (C_Te_mark n E S a0 3 M q_2 eq_2) d_Te_closeClause_2 tw_653 tw_650 tw_651 tw_652 tw_7 dd_Te_mark ⟨Nat.le_of_ble_eq_true rfl, Nat.le_of_ble_eq_true rfl, Nat.le_of_ble_eq_true rfl, Nat.le_of_ble_eq_true rfl⟩ (Nat.le_of_ble_eq_true rfl) rfl rfl rfl rfl ?_
  refine zi_aload_n 0 d_Te_closeClause_5 rfl ?_
  refine zi_dup d_Te_closeClause_6 rfl ?_
  obtain ⟨v_3, ev_3, h⟩ := zbind h
  refine zo_getI 10 zkd_9 6 d_Te_closeClause_7 ev_3 rfl tw_197 rfl ?_
  refine zi_iconst 1 d_Te_closeClause_10 rfl ?_
  refine zi_iadd d_Te_closeClause_11 ?_
  obtain ⟨m_4, em_4, h⟩ := zbind h
  refine zo_putI 15 zkd_9 6 d_Te_closeClause_12 em_4 rfl rfl rfl tw_197 rfl ?_
  cases h
  exact zo_ret d_Te_closeClause_15 (Nat.le_of_ble_eq_true rfl) (Nat.le_of_ble_eq_true rfl) rfl
theorem C_Te_closeClause (n : Nat) (E : zE) (S : zS) (a0 : Nat) (M : zH) (M' : zH) (h : F_Te_closeClause n E S a0 M = some M') : zC E Y_Te_closeClause [.ref a0] S M (none, S, M') :=
  zC.of (Or.inl (show plainName "NightColander$Text" = true by decide)) (Nat.le_of_ble_eq_true rfl) (trivial) (K_Te_closeClause n E S a0 M M' h)
theorem d_Te_openClause_0 : decode (yB Y_Te_openClause) 0 = .ok (.aload_n 0, 1) := by decide +kernel
theorem d_Te_openClause_1 : decode (yB Y_Te_openClause) 1 = .ok (.getfield 13, 3) := by decide +kernel
theorem d_Te_openClause_4 : decode (yB Y_Te_openClause) 4 = .ok (.bipush 12, 2) := by decide +kernel
theorem d_Te_openClause_6 : decode (yB Y_Te_openClause) 6 = .ok (.if_icmp .ge 38, 3) := by decide +kernel
theorem d_Te_openClause_9 : decode (yB Y_Te_openClause) 9 = .ok (.aload_n 0, 1) := by decide +kernel
theorem d_Te_openClause_10 : decode (yB Y_Te_openClause) 10 = .ok (.getfield 20, 3) := by decide +kernel
theorem d_Te_openClause_13 : decode (yB Y_Te_openClause) 13 = .ok (.aload_n 0, 1) := by decide +kernel
theorem d_Te_openClause_14 : decode (yB Y_Te_openClause) 14 = .ok (.getfield 13, 3) := by decide +kernel
theorem d_Te_openClause_17 : decode (yB Y_Te_openClause) 17 = .ok (.iload_n 1, 1) := by decide +kernel
theorem d_Te_openClause_18 : decode (yB Y_Te_openClause) 18 = .ok (.iastore, 1) := by decide +kernel
theorem d_Te_openClause_19 : decode (yB Y_Te_openClause) 19 = .ok (.aload_n 0, 1) := by decide +kernel
theorem d_Te_openClause_20 : decode (yB Y_Te_openClause) 20 = .ok (.getfield 23, 3) := by decide +kernel
theorem d_Te_openClause_23 : decode (yB Y_Te_openClause) 23 = .ok (.aload_n 0, 1) := by decide +kernel
theorem d_Te_openClause_24 : decode (yB Y_Te_openClause) 24 = .ok (.getfield 13, 3) := by decide +kernel
theorem d_Te_openClause_27 : decode (yB Y_Te_openClause) 27 = .ok (.iconst 1, 1) := by decide +kernel
theorem d_Te_openClause_28 : decode (yB Y_Te_openClause) 28 = .ok (.iastore, 1) := by decide +kernel
theorem d_Te_openClause_29 : decode (yB Y_Te_openClause) 29 = .ok (.aload_n 0, 1) := by decide +kernel
theorem d_Te_openClause_30 : decode (yB Y_Te_openClause) 30 = .ok (.getfield 26, 3) := by decide +kernel
theorem d_Te_openClause_33 : decode (yB Y_Te_openClause) 33 = .ok (.aload_n 0, 1) := by decide +kernel
theorem d_Te_openClause_34 : decode (yB Y_Te_openClause) 34 = .ok (.getfield 13, 3) := by decide +kernel
theorem d_Te_openClause_37 : decode (yB Y_Te_openClause) 37 = .ok (.iconst 0, 1) := by decide +kernel
theorem d_Te_openClause_38 : decode (yB Y_Te_openClause) 38 = .ok (.iastore, 1) := by decide +kernel
theorem d_Te_openClause_39 : decode (yB Y_Te_openClause) 39 = .ok (.aload_n 0, 1) := by decide +kernel
theorem d_Te_openClause_40 : decode (yB Y_Te_openClause) 40 = .ok (.iconst 0, 1) := by decide +kernel
theorem d_Te_openClause_41 : decode (yB Y_Te_openClause) 41 = .ok (.invokevirtual 47, 3) := by decide +kernel
theorem d_Te_openClause_44 : decode (yB Y_Te_openClause) 44 = .ok (.return_, 1) := by decide +kernel
def F_Te_openClause (n : Nat) (E : zE) (S : zS) (a0 : Nat) (x1 : Int32) (M : zH) : Option (zH) :=
  (zgI S M a0 9 6).bind fun v_1 =>
  if 12 ≤ v_1 then
    some (M)
  else
    (zgR S a0 9 1).bind fun b_3 =>
    (zgI S M a0 9 6).bind fun v_4 =>
    (zstI S M b_3 v_4 x1).bind fun m_5 =>
    (zgR S a0 9 2).bind fun b_6 =>
    (zgI S m_5 a0 9 6).bind fun v_7 =>
    (zstI S m_5 b_6 v_7 1).bind fun m_8 =>
    (zgR S a0 9 3).bind fun b_9 =>
    (zgI S m_8 a0 9 6).bind fun v_10 =>
    (zstI S m_8 b_9 v_10 0).bind fun m_11 =>
    (F_Te_mark n E S a0 0 m_11).bind fun q_12 =>
    some (q_12)
theorem K_Te_openClause (n : Nat) (E : zE) (S : zS) (a0 : Nat) (x1 : Int32) (M : zH) (M' : zH)  (h : F_Te_openClause n E S a0 x1 M = some M') : zG E Y_Te_openClause (none, S, M') 0 [(0, .ref a0), (1, .int x1)] [] S M 0 0 := by
  unfold F_Te_openClause at h
  refine zi_aload_n 0 d_Te_openClause_0 rfl ?_
  obtain ⟨v_1, ev_1, h⟩ := zbind h
  refine zo_getI 4 zkd_9 6 d_Te_openClause_1 ev_1 rfl tw_197 rfl ?_
  refine zi_bipush 12 d_Te_openClause_4 rfl ?_
  refine zi_icmp_ge (tgt := 44) d_Te_openClause_6 rfl (fun c_2 => ?_) (fun c_2 => ?_)
  · rw [if_pos c_2] at h
    cases h
    exact zo_ret d_Te_openClause_44 (Nat.le_of_ble_eq_true rfl) (Nat.le_of_ble_eq_true rfl) rfl
  · rw [if_neg c_2] at h
    refine zi_aload_n 0 d_Te_openClause_9 rfl ?_
    obtain ⟨b_3, eb_3, h⟩ := zbind h
    refine zo_getR 13 zkd_9 1 d_Te_openClause_10 eb_3 rfl tw_187 rfl ?_
    refine zi_aload_n 0 d_Te_openClause_13 rfl ?_
    obtain ⟨v_4, ev_4, h⟩ := zbind h
    refine zo_getI 17 zkd_9 6 d_Te_openClause_14 ev_4 rfl tw_197 rfl ?_
    refine zi_iload_n 1 d_Te_openClause_17 rfl ?_
    obtain ⟨m_5, em_5, h⟩ := zbind h
    refine zo_iast 19 d_Te_openClause_18 em_5 rfl ?_
    refine zi_aload_n 0 d_Te_openClause_19 rfl ?_
    obtain ⟨b_6, eb_6, h⟩ := zbind h
    refine zo_getR 23 zkd_9 2 d_Te_openClause_20 eb_6 rfl tw_190 rfl ?_
    refine zi_aload_n 0 d_Te_openClause_23 rfl ?_
    obtain ⟨v_7, ev_7, h⟩ := zbind h
    refine zo_getI 27 zkd_9 6 d_Te_openClause_24 ev_7 rfl tw_197 rfl ?_
    refine zi_iconst 1 d_Te_openClause_27 rfl ?_
    obtain ⟨m_8, em_8, h⟩ := zbind h
    refine zo_iast 29 d_Te_openClause_28 em_8 rfl ?_
    refine zi_aload_n 0 d_Te_openClause_29 rfl ?_
    obtain ⟨b_9, eb_9, h⟩ := zbind h
    refine zo_getR 33 zkd_9 3 d_Te_openClause_30 eb_9 rfl tw_192 rfl ?_
    refine zi_aload_n 0 d_Te_openClause_33 rfl ?_
    obtain ⟨v_10, ev_10, h⟩ := zbind h
    refine zo_getI 37 zkd_9 6 d_Te_openClause_34 ev_10 rfl tw_197 rfl ?_
    refine zi_iconst 0 d_Te_openClause_37 rfl ?_
    obtain ⟨m_11, em_11, h⟩ := zbind h
    refine zo_iast 39 d_Te_openClause_38 em_11 rfl ?_
    refine zi_aload_n 0 d_Te_openClause_39 rfl ?_
    refine zi_iconst 0 d_Te_openClause_40 rfl ?_
    obtain ⟨q_12, eq_12, h⟩ := zbind h
    refine zo_virt (k' := 0) (n' := 0) 44 [.int 0] [] [] zkd_9 (zgI_s ev_1).1 (C_Te_mark n E S a0 0 m_11 q_12 eq_12) d_Te_openClause_41 tw_653 tw_650 tw_651 tw_652 tw_7 dd_Te_mark ⟨Nat.le_of_ble_eq_true rfl, Nat.le_of_ble_eq_true rfl, Nat.le_of_ble_eq_true rfl, Nat.le_of_ble_eq_true rfl⟩ (Nat.le_of_ble_eq_true rfl) rfl rfl rfl rfl ?_
    cases h
    exact zo_ret d_Te_openClause_44 (Nat.le_of_ble_eq_true rfl) (Nat.le_of_ble_eq_true rfl) rfl
theorem C_Te_openClause (n : Nat) (E : zE) (S : zS) (a0 : Nat) (x1 : Int32) (M : zH) (M' : zH) (h : F_Te_openClause n E S a0 x1 M = some M') : zC E Y_Te_openClause [.ref a0, .int x1] S M (none, S, M') :=
  zC.of (Or.inl (show plainName "NightColander$Text" = true by decide)) (Nat.le_of_ble_eq_true rfl) (trivial) (K_Te_openClause n E S a0 x1 M M' h)
theorem d_Ps_readClause_0 : decode (yB Y_Ps_readClause) 0 = .ok (.aload_n 0, 1) := by decide +kernel
theorem d_Ps_readClause_1 : decode (yB Y_Ps_readClause) 1 = .ok (.getfield 26, 3) := by decide +kernel
theorem d_Ps_readClause_4 : decode (yB Y_Ps_readClause) 4 = .ok (.aload_n 0, 1) := by decide +kernel
theorem d_Ps_readClause_5 : decode (yB Y_Ps_readClause) 5 = .ok (.getfield 18, 3) := by decide +kernel
theorem d_Ps_readClause_8 : decode (yB Y_Ps_readClause) 8 = .ok (.ifCond .eq 8, 3) := by decide +kernel
theorem d_Ps_readClause_11 : decode (yB Y_Ps_readClause) 11 = .ok (.ldc 56, 2) := by decide +kernel
theorem d_Ps_readClause_13 : decode (yB Y_Ps_readClause) 13 = .ok (.goto 5, 3) := by decide +kernel
theorem d_Ps_readClause_16 : decode (yB Y_Ps_readClause) 16 = .ok (.ldc 58, 2) := by decide +kernel
theorem d_Ps_readClause_18 : decode (yB Y_Ps_readClause) 18 = .ok (.invokevirtual 60, 3) := by decide +kernel
theorem d_Ps_readClause_21 : decode (yB Y_Ps_readClause) 21 = .ok (.istore_n 1, 1) := by decide +kernel
theorem d_Ps_readClause_22 : decode (yB Y_Ps_readClause) 22 = .ok (.iload_n 1, 1) := by decide +kernel
theorem d_Ps_readClause_23 : decode (yB Y_Ps_readClause) 23 = .ok (.iconst (-1), 1) := by decide +kernel
theorem d_Ps_readClause_24 : decode (yB Y_Ps_readClause) 24 = .ok (.if_icmp .ne 5, 3) := by decide +kernel
theorem d_Ps_readClause_27 : decode (yB Y_Ps_readClause) 27 = .ok (.iconst 0, 1) := by decide +kernel
theorem d_Ps_readClause_28 : decode (yB Y_Ps_readClause) 28 = .ok (.ireturn, 1) := by decide +kernel
theorem d_Ps_readClause_29 : decode (yB Y_Ps_readClause) 29 = .ok (.aload_n 0, 1) := by decide +kernel
theorem d_Ps_readClause_30 : decode (yB Y_Ps_readClause) 30 = .ok (.getfield 12, 3) := by decide +kernel
theorem d_Ps_readClause_33 : decode (yB Y_Ps_readClause) 33 = .ok (.iload_n 1, 1) := by decide +kernel
theorem d_Ps_readClause_34 : decode (yB Y_Ps_readClause) 34 = .ok (.invokevirtual 64, 3) := by decide +kernel
theorem d_Ps_readClause_37 : decode (yB Y_Ps_readClause) 37 = .ok (.aload_n 0, 1) := by decide +kernel
theorem d_Ps_readClause_38 : decode (yB Y_Ps_readClause) 38 = .ok (.getfield 26, 3) := by decide +kernel
theorem d_Ps_readClause_41 : decode (yB Y_Ps_readClause) 41 = .ok (.invokevirtual 53, 3) := by decide +kernel
theorem d_Ps_readClause_44 : decode (yB Y_Ps_readClause) 44 = .ok (.aload_n 0, 1) := by decide +kernel
theorem d_Ps_readClause_45 : decode (yB Y_Ps_readClause) 45 = .ok (.getfield 18, 3) := by decide +kernel
theorem d_Ps_readClause_48 : decode (yB Y_Ps_readClause) 48 = .ok (.ifCond .eq 14, 3) := by decide +kernel
theorem d_Ps_readClause_51 : decode (yB Y_Ps_readClause) 51 = .ok (.aload_n 0, 1) := by decide +kernel
theorem d_Ps_readClause_52 : decode (yB Y_Ps_readClause) 52 = .ok (.iload_n 1, 1) := by decide +kernel
theorem d_Ps_readClause_53 : decode (yB Y_Ps_readClause) 53 = .ok (.invokevirtual 68, 3) := by decide +kernel
theorem d_Ps_readClause_56 : decode (yB Y_Ps_readClause) 56 = .ok (.ifCond .eq 14, 3) := by decide +kernel
theorem d_Ps_readClause_59 : decode (yB Y_Ps_readClause) 59 = .ok (.goto 13, 3) := by decide +kernel
theorem d_Ps_readClause_62 : decode (yB Y_Ps_readClause) 62 = .ok (.aload_n 0, 1) := by decide +kernel
theorem d_Ps_readClause_63 : decode (yB Y_Ps_readClause) 63 = .ok (.iload_n 1, 1) := by decide +kernel
theorem d_Ps_readClause_64 : decode (yB Y_Ps_readClause) 64 = .ok (.invokevirtual 72, 3) := by decide +kernel
theorem d_Ps_readClause_67 : decode (yB Y_Ps_readClause) 67 = .ok (.ifCond .ne 5, 3) := by decide +kernel
theorem d_Ps_readClause_70 : decode (yB Y_Ps_readClause) 70 = .ok (.iconst 0, 1) := by decide +kernel
theorem d_Ps_readClause_71 : decode (yB Y_Ps_readClause) 71 = .ok (.ireturn, 1) := by decide +kernel
theorem d_Ps_readClause_72 : decode (yB Y_Ps_readClause) 72 = .ok (.aload_n 0, 1) := by decide +kernel
theorem d_Ps_readClause_73 : decode (yB Y_Ps_readClause) 73 = .ok (.getfield 26, 3) := by decide +kernel
theorem d_Ps_readClause_76 : decode (yB Y_Ps_readClause) 76 = .ok (.ldc 75, 2) := by decide +kernel
theorem d_Ps_readClause_78 : decode (yB Y_Ps_readClause) 78 = .ok (.invokevirtual 77, 3) := by decide +kernel
theorem d_Ps_readClause_81 : decode (yB Y_Ps_readClause) 81 = .ok (.ifCond .eq 20, 3) := by decide +kernel
theorem d_Ps_readClause_84 : decode (yB Y_Ps_readClause) 84 = .ok (.aload_n 0, 1) := by decide +kernel
theorem d_Ps_readClause_85 : decode (yB Y_Ps_readClause) 85 = .ok (.getfield 26, 3) := by decide +kernel
theorem d_Ps_readClause_88 : decode (yB Y_Ps_readClause) 88 = .ok (.invokevirtual 53, 3) := by decide +kernel
theorem d_Ps_readClause_91 : decode (yB Y_Ps_readClause) 91 = .ok (.aload_n 0, 1) := by decide +kernel
theorem d_Ps_readClause_92 : decode (yB Y_Ps_readClause) 92 = .ok (.iconst 0, 1) := by decide +kernel
theorem d_Ps_readClause_93 : decode (yB Y_Ps_readClause) 93 = .ok (.invokevirtual 81, 3) := by decide +kernel
theorem d_Ps_readClause_96 : decode (yB Y_Ps_readClause) 96 = .ok (.ifCond .ne 5, 3) := by decide +kernel
theorem d_Ps_readClause_99 : decode (yB Y_Ps_readClause) 99 = .ok (.iconst 0, 1) := by decide +kernel
theorem d_Ps_readClause_100 : decode (yB Y_Ps_readClause) 100 = .ok (.ireturn, 1) := by decide +kernel
theorem d_Ps_readClause_101 : decode (yB Y_Ps_readClause) 101 = .ok (.aload_n 0, 1) := by decide +kernel
theorem d_Ps_readClause_102 : decode (yB Y_Ps_readClause) 102 = .ok (.getfield 12, 3) := by decide +kernel
theorem d_Ps_readClause_105 : decode (yB Y_Ps_readClause) 105 = .ok (.invokevirtual 84, 3) := by decide +kernel
theorem d_Ps_readClause_108 : decode (yB Y_Ps_readClause) 108 = .ok (.iconst 1, 1) := by decide +kernel
theorem d_Ps_readClause_109 : decode (yB Y_Ps_readClause) 109 = .ok (.ireturn, 1) := by decide +kernel
def F_Ps_readClause_b101 (n : Nat) (E : zE) (S : zS) (a0 : Nat) (M : zH) : Option (Bool × zH) :=
  (zgR S a0 5 0).bind fun b_1 =>
  (zck S b_1 9).bind fun u_2 =>
  (F_Te_closeClause n E S b_1 M).bind fun q_3 =>
  some (true, q_3)
def F_Ps_readClause_b72 (n : Nat) (E : zE) (S : zS) (a0 : Nat) (M : zH) : Option (Bool × zH) :=
  (zgR S a0 5 1).bind fun b_4 =>
  (zck S b_4 8).bind fun u_5 =>
  (F_Ta_atWord n E S b_4 9 M).bind fun q_6 =>
  if q_6.1 = true then
    (F_Ta_advance n E S b_4 q_6.2).bind fun q_8 =>
    (F_Ps_readTest_D n E S 10 (a0, 0, q_8)).bind fun q_9 =>
    if q_9.1 = true then
      F_Ps_readClause_b101 n E S a0 q_9.2
    else
      some (false, q_9.2)
  else
    F_Ps_readClause_b101 n E S a0 q_6.2
def F_Ps_readClause_b18 (n : Nat) (E : zE) (S : zS) (a0 : Nat) (l0 : Nat) (u1 : Nat) (M : zH) : Option (Bool × zH) :=
  (zck S u1 8).bind fun u_11 =>
  (F_Ta_indexIn n E S u1 l0 M).bind fun q_12 =>
  if q_12.1 = (-1) then
    some (false, q_12.2)
  else
    (zgR S a0 5 0).bind fun b_14 =>
    (zck S b_14 9).bind fun u_15 =>
    (F_Te_openClause n E S b_14 q_12.1 q_12.2).bind fun q_16 =>
    (zgR S a0 5 1).bind fun b_17 =>
    (zck S b_17 8).bind fun u_18 =>
    (F_Ta_advance n E S b_17 q_16).bind fun q_19 =>
    (zgI S q_19 a0 5 2).bind fun v_20 =>
    if v_20 = 0 then
      (F_Ps_readLaw n E S a0 q_12.1 q_19).bind fun q_22 =>
      if q_22.1 = true then
        F_Ps_readClause_b72 n E S a0 q_22.2
      else
        some (false, q_22.2)
    else
      (F_Ps_readOrder n E S a0 q_12.1 q_19).bind fun q_24 =>
      if q_24.1 = true then
        F_Ps_readClause_b72 n E S a0 q_24.2
      else
        some (false, q_24.2)
def F_Ps_readClause (n : Nat) (E : zE) (S : zS) (a0 : Nat) (M : zH) : Option (Bool × zH) :=
  (zgR S a0 5 1).bind fun b_26 =>
  (zgI S M a0 5 2).bind fun v_27 =>
  if v_27 = 0 then
    F_Ps_readClause_b18 n E S a0 1 b_26 M
  else
    F_Ps_readClause_b18 n E S a0 0 b_26 M
theorem K_Ps_readClause_b101 (n : Nat) (E : zE) (S : zS) (a0 : Nat) (M : zH) (r : Bool) (M' : zH)  (h : F_Ps_readClause_b101 n E S a0 M = some (r, M')) : zG E Y_Ps_readClause (some (.int (bI r)), S, M') 101 [(0, .ref a0)] [] S M 0 0 := by
  unfold F_Ps_readClause_b101 at h
  refine zi_aload_n 0 d_Ps_readClause_101 rfl ?_
  obtain ⟨b_1, eb_1, h⟩ := zbind h
  refine zo_getR 105 zkd_5 0 d_Ps_readClause_102 eb_1 rfl tw_215 rfl ?_
  obtain ⟨u_2, eu_2, h⟩ := zbind h
  obtain ⟨q_3, eq_3, h⟩ := zbind h
  refine zo_virt (k' := 0) (n' := 0) 108 [] [] [] zkd_9 (zck_s eu_2) (C_Te_closeClause n E S b_1 M q_3 eq_3) d_Ps_readClause_105 tw_823 tw_820 tw_821 tw_822 tw_7 dd_Te_closeClause ⟨Nat.le_of_ble_eq_true rfl, Nat.le_of_ble_eq_true rfl, Nat.le_of_ble_eq_true rfl, Nat.le_of_ble_eq_true rfl⟩ (Nat.le_of_ble_eq_true rfl) rfl rfl rfl rfl ?_
  refine zi_iconst 1 d_Ps_readClause_108 rfl ?_
  cases h
  exact zo_retB d_Ps_readClause_109 (Nat.le_of_ble_eq_true rfl) (Nat.le_of_ble_eq_true rfl) rfl
theorem K_Ps_readClause_b72 (n : Nat) (E : zE) (S : zS) (a0 : Nat) (M : zH) (r : Bool) (M' : zH)  (h : F_Ps_readClause_b72 n E S a0 M = some (r, M')) : zG E Y_Ps_readClause (some (.int (bI r)), S, M') 72 [(0, .ref a0)] [] S M 0 0 := by
  unfold F_Ps_readClause_b72 at h
  refine zi_aload_n 0 d_Ps_readClause_72 rfl ?_
  obtain ⟨b_4, eb_4, h⟩ := zbind h
  refine zo_getR 76 zkd_5 1 d_Ps_readClause_73 eb_4 rfl tw_217 rfl ?_
  refine zi_ldcS d_Ps_readClause_76 (zlit_9 E) ?_
  obtain ⟨u_5, eu_5, h⟩ := zbind h
  obtain ⟨q_6, eq_6, h⟩ := zbind h
  refine zo_virt (k' := 0) (n' := 0) 81 [.ref (eK E 9)] [] [.int (bI q_6.1)] zkd_8 (zck_s eu_5) (C_Ta_atWord n E S b_4 9 M q_6.1 q_6.2 eq_6) d_Ps_readClause_78 tw_780 tw_777 tw_778 tw_779 tw_5 dd_Ta_atWord ⟨Nat.le_of_ble_eq_true rfl, Nat.le_of_ble_eq_true rfl, Nat.le_of_ble_eq_true rfl, Nat.le_of_ble_eq_true rfl⟩ (Nat.le_of_ble_eq_true rfl) rfl rfl rfl rfl ?_
  refine zo_ifeqB d_Ps_readClause_81 rfl 84 rfl (fun c_7 => ?_) (fun c_7 => ?_)
  · rw [if_neg c_7] at h
    refine zi_lo [(0, .ref a0)] [0] rfl ?_
    exact K_Ps_readClause_b101 n E S a0 q_6.2 r M'  h
  · rw [if_pos c_7] at h
    refine zi_aload_n 0 d_Ps_readClause_84 rfl ?_
    refine zo_getR 88 zkd_5 1 d_Ps_readClause_85 eb_4 rfl tw_217 rfl ?_
    obtain ⟨q_8, eq_8, h⟩ := zbind h
    refine zo_virt (k' := 0) (n' := 0) 91 [] [] [] zkd_8 (zck_s eu_5) (C_Ta_advance n E S b_4 q_6.2 q_8 eq_8) d_Ps_readClause_88 tw_575 tw_655 tw_573 tw_574 tw_5 dd_Ta_advance ⟨Nat.le_of_ble_eq_true rfl, Nat.le_of_ble_eq_true rfl, Nat.le_of_ble_eq_true rfl, Nat.le_of_ble_eq_true rfl⟩ (Nat.le_of_ble_eq_true rfl) rfl rfl rfl rfl ?_
    refine zi_aload_n 0 d_Ps_readClause_91 rfl ?_
    refine zi_iconst 0 d_Ps_readClause_92 rfl ?_
    obtain ⟨q_9, eq_9, h⟩ := zbind h
    refine zo_virt (k' := 0) (n' := 0) 96 [.int 0] [] [.int (bI q_9.1)] zkd_5 (zgR_s eb_4).1 (C_Ps_readTest_D n E S 10 a0 0 q_8 q_9.1 q_9.2 eq_9) d_Ps_readClause_93 tw_794 tw_791 tw_793 ts_16 tw_6 dd_Ps_readTest ⟨Nat.le_of_ble_eq_true rfl, Nat.le_of_ble_eq_true rfl, Nat.le_of_ble_eq_true rfl, Nat.le_of_ble_eq_true rfl⟩ (Nat.le_of_ble_eq_true rfl) rfl rfl rfl rfl ?_
    refine zo_ifneB d_Ps_readClause_96 rfl 99 rfl (fun c_10 => ?_) (fun c_10 => ?_)
    · rw [if_pos c_10] at h
      refine zi_lo [(0, .ref a0)] [0] rfl ?_
      exact K_Ps_readClause_b101 n E S a0 q_9.2 r M'  h
    · rw [if_neg c_10] at h
      refine zi_iconst 0 d_Ps_readClause_99 rfl ?_
      cases h
      exact zo_retB d_Ps_readClause_100 (Nat.le_of_ble_eq_true rfl) (Nat.le_of_ble_eq_true rfl) rfl
theorem K_Ps_readClause_b18 (n : Nat) (E : zE) (S : zS) (a0 : Nat) (l0 : Nat) (u1 : Nat) (M : zH) (r : Bool) (M' : zH)  (h : F_Ps_readClause_b18 n E S a0 l0 u1 M = some (r, M')) : zG E Y_Ps_readClause (some (.int (bI r)), S, M') 18 [(0, .ref a0)] [.ref (eK E l0), .ref u1] S M 0 0 := by
  unfold F_Ps_readClause_b18 at h
  obtain ⟨u_11, eu_11, h⟩ := zbind h
  obtain ⟨q_12, eq_12, h⟩ := zbind h
  refine zo_virt (k' := 0) (n' := 0) 21 [.ref (eK E l0)] [] [.int q_12.1] zkd_8 (zck_s eu_11) (C_Ta_indexIn n E S u1 l0 M q_12.1 q_12.2 eq_12) d_Ps_readClause_18 tw_593 tw_590 tw_591 tw_592 tw_5 dd_Ta_indexIn ⟨Nat.le_of_ble_eq_true rfl, Nat.le_of_ble_eq_true rfl, Nat.le_of_ble_eq_true rfl, Nat.le_of_ble_eq_true rfl⟩ (Nat.le_of_ble_eq_true rfl) rfl rfl rfl rfl ?_
  refine zi_istore_n [(1, .int q_12.1), (0, .ref a0)] d_Ps_readClause_21 (by decide) rfl ?_
  refine zi_iload_n 0 d_Ps_readClause_22 rfl ?_
  refine zi_iconst (-1) d_Ps_readClause_23 rfl ?_
  refine zi_icmp_ne (tgt := 29) d_Ps_readClause_24 rfl (fun c_13 => ?_) (fun c_13 => ?_)
  · rw [if_neg c_13] at h
    refine zi_aload_n 1 d_Ps_readClause_29 rfl ?_
    obtain ⟨b_14, eb_14, h⟩ := zbind h
    refine zo_getR 33 zkd_5 0 d_Ps_readClause_30 eb_14 rfl tw_215 rfl ?_
    refine zi_iload_n 0 d_Ps_readClause_33 rfl ?_
    obtain ⟨u_15, eu_15, h⟩ := zbind h
    obtain ⟨q_16, eq_16, h⟩ := zbind h
    refine zo_virt (k' := 0) (n' := 0) 37 [.int q_12.1] [] [] zkd_9 (zck_s eu_15) (C_Te_openClause n E S b_14 q_12.1 q_12.2 q_16 eq_16) d_Ps_readClause_34 tw_649 tw_646 tw_647 tw_648 tw_7 dd_Te_openClause ⟨Nat.le_of_ble_eq_true rfl, Nat.le_of_ble_eq_true rfl, Nat.le_of_ble_eq_true rfl, Nat.le_of_ble_eq_true rfl⟩ (Nat.le_of_ble_eq_true rfl) rfl rfl rfl rfl ?_
    refine zi_aload_n 1 d_Ps_readClause_37 rfl ?_
    obtain ⟨b_17, eb_17, h⟩ := zbind h
    refine zo_getR 41 zkd_5 1 d_Ps_readClause_38 eb_17 rfl tw_217 rfl ?_
    obtain ⟨u_18, eu_18, h⟩ := zbind h
    obtain ⟨q_19, eq_19, h⟩ := zbind h
    refine zo_virt (k' := 0) (n' := 0) 44 [] [] [] zkd_8 (zck_s eu_18) (C_Ta_advance n E S b_17 q_16 q_19 eq_19) d_Ps_readClause_41 tw_575 tw_655 tw_573 tw_574 tw_5 dd_Ta_advance ⟨Nat.le_of_ble_eq_true rfl, Nat.le_of_ble_eq_true rfl, Nat.le_of_ble_eq_true rfl, Nat.le_of_ble_eq_true rfl⟩ (Nat.le_of_ble_eq_true rfl) rfl rfl rfl rfl ?_
    refine zi_aload_n 1 d_Ps_readClause_44 rfl ?_
    obtain ⟨v_20, ev_20, h⟩ := zbind h
    refine zo_getI 48 zkd_5 2 d_Ps_readClause_45 ev_20 rfl tw_218 rfl ?_
    refine zi_if_eq (tgt := 62) d_Ps_readClause_48 rfl (fun c_21 => ?_) (fun c_21 => ?_)
    · rw [if_pos c_21] at h
      refine zi_aload_n 1 d_Ps_readClause_62 rfl ?_
      refine zi_iload_n 0 d_Ps_readClause_63 rfl ?_
      obtain ⟨q_22, eq_22, h⟩ := zbind h
      refine zo_virt (k' := 0) (n' := 0) 67 [.int q_12.1] [] [.int (bI q_22.1)] zkd_5 (zgR_s eb_14).1 (C_Ps_readLaw n E S a0 q_12.1 q_19 q_22.1 q_22.2 eq_22) d_Ps_readClause_64 tw_789 tw_786 tw_788 ts_15 tw_6 dd_Ps_readLaw ⟨Nat.le_of_ble_eq_true rfl, Nat.le_of_ble_eq_true rfl, Nat.le_of_ble_eq_true rfl, Nat.le_of_ble_eq_true rfl⟩ (Nat.le_of_ble_eq_true rfl) rfl rfl rfl rfl ?_
      refine zo_ifneB d_Ps_readClause_67 rfl 70 rfl (fun c_23 => ?_) (fun c_23 => ?_)
      · rw [if_pos c_23] at h
        refine zi_lo [(0, .ref a0)] [1] rfl ?_
        exact K_Ps_readClause_b72 n E S a0 q_22.2 r M'  h
      · rw [if_neg c_23] at h
        refine zi_iconst 0 d_Ps_readClause_70 rfl ?_
        cases h
        exact zo_retB d_Ps_readClause_71 (Nat.le_of_ble_eq_true rfl) (Nat.le_of_ble_eq_true rfl) rfl
    · rw [if_neg c_21] at h
      refine zi_aload_n 1 d_Ps_readClause_51 rfl ?_
      refine zi_iload_n 0 d_Ps_readClause_52 rfl ?_
      obtain ⟨q_24, eq_24, h⟩ := zbind h
      refine zo_virt (k' := 0) (n' := 0) 56 [.int q_12.1] [] [.int (bI q_24.1)] zkd_5 (zgR_s eb_14).1 (C_Ps_readOrder n E S a0 q_12.1 q_19 q_24.1 q_24.2 eq_24) d_Ps_readClause_53 tw_659 tw_656 tw_658 ts_8 tw_6 dd_Ps_readOrder ⟨Nat.le_of_ble_eq_true rfl, Nat.le_of_ble_eq_true rfl, Nat.le_of_ble_eq_true rfl, Nat.le_of_ble_eq_true rfl⟩ (Nat.le_of_ble_eq_true rfl) rfl rfl rfl rfl ?_
      refine zo_ifeqB d_Ps_readClause_56 rfl 59 rfl (fun c_25 => ?_) (fun c_25 => ?_)
      · rw [if_neg c_25] at h
        refine zi_iconst 0 d_Ps_readClause_70 rfl ?_
        cases h
        exact zo_retB d_Ps_readClause_71 (Nat.le_of_ble_eq_true rfl) (Nat.le_of_ble_eq_true rfl) rfl
      · rw [if_pos c_25] at h
        refine zi_goto (tgt := 72) d_Ps_readClause_59 rfl ?_
        refine zi_lo [(0, .ref a0)] [1] rfl ?_
        exact K_Ps_readClause_b72 n E S a0 q_24.2 r M'  h
  · rw [if_pos c_13] at h
    refine zi_iconst 0 d_Ps_readClause_27 rfl ?_
    cases h
    exact zo_retB d_Ps_readClause_28 (Nat.le_of_ble_eq_true rfl) (Nat.le_of_ble_eq_true rfl) rfl
theorem K_Ps_readClause (n : Nat) (E : zE) (S : zS) (a0 : Nat) (M : zH) (r : Bool) (M' : zH)  (h : F_Ps_readClause n E S a0 M = some (r, M')) : zG E Y_Ps_readClause (some (.int (bI r)), S, M') 0 [(0, .ref a0)] [] S M 0 0 := by
  unfold F_Ps_readClause at h
  refine zi_aload_n 0 d_Ps_readClause_0 rfl ?_
  obtain ⟨b_26, eb_26, h⟩ := zbind h
  refine zo_getR 4 zkd_5 1 d_Ps_readClause_1 eb_26 rfl tw_217 rfl ?_
  refine zi_aload_n 0 d_Ps_readClause_4 rfl ?_
  obtain ⟨v_27, ev_27, h⟩ := zbind h
  refine zo_getI 8 zkd_5 2 d_Ps_readClause_5 ev_27 rfl tw_218 rfl ?_
  refine zi_if_eq (tgt := 16) d_Ps_readClause_8 rfl (fun c_28 => ?_) (fun c_28 => ?_)
  · rw [if_pos c_28] at h
    refine zi_ldcS d_Ps_readClause_16 (zlit_1 E) ?_
    refine zi_lo [(0, .ref a0)] [0] rfl ?_
    exact K_Ps_readClause_b18 n E S a0 1 b_26 M r M'  h
  · rw [if_neg c_28] at h
    refine zi_ldcS d_Ps_readClause_11 (zlit_0 E) ?_
    refine zi_goto (tgt := 18) d_Ps_readClause_13 rfl ?_
    refine zi_lo [(0, .ref a0)] [0] rfl ?_
    exact K_Ps_readClause_b18 n E S a0 0 b_26 M r M'  h
theorem C_Ps_readClause (n : Nat) (E : zE) (S : zS) (a0 : Nat) (M : zH) (r : Bool) (M' : zH) (h : F_Ps_readClause n E S a0 M = some (r, M')) : zC E Y_Ps_readClause [.ref a0] S M (some (.int (bI r)), S, M') :=
  zC.of (Or.inl (show plainName "NightColander$Parser" = true by decide)) (Nat.le_of_ble_eq_true rfl) (bI_nar r) (K_Ps_readClause n E S a0 M r M' h)
theorem d_Ta_atEnd_0 : decode (yB Y_Ta_atEnd) 0 = .ok (.aload_n 0, 1) := by decide +kernel
theorem d_Ta_atEnd_1 : decode (yB Y_Ta_atEnd) 1 = .ok (.getfield 19, 3) := by decide +kernel
theorem d_Ta_atEnd_4 : decode (yB Y_Ta_atEnd) 4 = .ok (.ifCond .ne 7, 3) := by decide +kernel
theorem d_Ta_atEnd_7 : decode (yB Y_Ta_atEnd) 7 = .ok (.iconst 1, 1) := by decide +kernel
theorem d_Ta_atEnd_8 : decode (yB Y_Ta_atEnd) 8 = .ok (.goto 4, 3) := by decide +kernel
theorem d_Ta_atEnd_11 : decode (yB Y_Ta_atEnd) 11 = .ok (.iconst 0, 1) := by decide +kernel
theorem d_Ta_atEnd_12 : decode (yB Y_Ta_atEnd) 12 = .ok (.ireturn, 1) := by decide +kernel
def F_Ta_atEnd (n : Nat) (E : zE) (S : zS) (a0 : Nat) (M : zH) : Option (Bool × zH) :=
  (zgI S M a0 8 2).bind fun v_1 =>
  if v_1 = 0 then
    some (true, M)
  else
    some (false, M)
theorem K_Ta_atEnd (n : Nat) (E : zE) (S : zS) (a0 : Nat) (M : zH) (r : Bool) (M' : zH)  (h : F_Ta_atEnd n E S a0 M = some (r, M')) : zG E Y_Ta_atEnd (some (.int (bI r)), S, M') 0 [(0, .ref a0)] [] S M 0 0 := by
  unfold F_Ta_atEnd at h
  refine zi_aload_n 0 d_Ta_atEnd_0 rfl ?_
  obtain ⟨v_1, ev_1, h⟩ := zbind h
  refine zo_getI 4 zkd_8 2 d_Ta_atEnd_1 ev_1 rfl tw_155 rfl ?_
  refine zi_if_ne (tgt := 11) d_Ta_atEnd_4 rfl (fun c_2 => ?_) (fun c_2 => ?_)
  · rw [if_neg c_2] at h
    refine zi_iconst 0 d_Ta_atEnd_11 rfl ?_
    cases h
    exact zo_retB d_Ta_atEnd_12 (Nat.le_of_ble_eq_true rfl) (Nat.le_of_ble_eq_true rfl) rfl
  · rw [if_pos c_2] at h
    refine zi_iconst 1 d_Ta_atEnd_7 rfl ?_
    refine zi_goto (tgt := 12) d_Ta_atEnd_8 rfl ?_
    cases h
    exact zo_retB d_Ta_atEnd_12 (Nat.le_of_ble_eq_true rfl) (Nat.le_of_ble_eq_true rfl) rfl
theorem C_Ta_atEnd (n : Nat) (E : zE) (S : zS) (a0 : Nat) (M : zH) (r : Bool) (M' : zH) (h : F_Ta_atEnd n E S a0 M = some (r, M')) : zC E Y_Ta_atEnd [.ref a0] S M (some (.int (bI r)), S, M') :=
  zC.of (Or.inl (show plainName "NightColander$Tape" = true by decide)) (Nat.le_of_ble_eq_true rfl) (bI_nar r) (K_Ta_atEnd n E S a0 M r M' h)
theorem d_Ta_place_0 : decode (yB Y_Ta_place) 0 = .ok (.aload_n 0, 1) := by decide +kernel
theorem d_Ta_place_1 : decode (yB Y_Ta_place) 1 = .ok (.getfield 22, 3) := by decide +kernel
theorem d_Ta_place_4 : decode (yB Y_Ta_place) 4 = .ok (.ireturn, 1) := by decide +kernel
def F_Ta_place (n : Nat) (E : zE) (S : zS) (a0 : Nat) (M : zH) : Option (Int32 × zH) :=
  (zgI S M a0 8 3).bind fun v_1 =>
  some (v_1, M)
theorem K_Ta_place (n : Nat) (E : zE) (S : zS) (a0 : Nat) (M : zH) (r : Int32) (M' : zH)  (h : F_Ta_place n E S a0 M = some (r, M')) : zG E Y_Ta_place (some (.int r), S, M') 0 [(0, .ref a0)] [] S M 0 0 := by
  unfold F_Ta_place at h
  refine zi_aload_n 0 d_Ta_place_0 rfl ?_
  obtain ⟨v_1, ev_1, h⟩ := zbind h
  refine zo_getI 4 zkd_8 3 d_Ta_place_1 ev_1 rfl tw_156 rfl ?_
  cases h
  exact zo_ret d_Ta_place_4 (Nat.le_of_ble_eq_true rfl) (Nat.le_of_ble_eq_true rfl) rfl
theorem C_Ta_place (n : Nat) (E : zE) (S : zS) (a0 : Nat) (M : zH) (r : Int32) (M' : zH) (h : F_Ta_place n E S a0 M = some (r, M')) : zC E Y_Ta_place [.ref a0] S M (some (.int r), S, M') :=
  zC.of (Or.inl (show plainName "NightColander$Tape" = true by decide)) (Nat.le_of_ble_eq_true rfl) (trivial) (K_Ta_place n E S a0 M r M' h)
theorem d_Ta_rewind_0 : decode (yB Y_Ta_rewind) 0 = .ok (.aload_n 0, 1) := by decide +kernel
theorem d_Ta_rewind_1 : decode (yB Y_Ta_rewind) 1 = .ok (.iconst 0, 1) := by decide +kernel
theorem d_Ta_rewind_2 : decode (yB Y_Ta_rewind) 2 = .ok (.putfield 25, 3) := by decide +kernel
theorem d_Ta_rewind_5 : decode (yB Y_Ta_rewind) 5 = .ok (.aload_n 0, 1) := by decide +kernel
theorem d_Ta_rewind_6 : decode (yB Y_Ta_rewind) 6 = .ok (.invokevirtual 31, 3) := by decide +kernel
theorem d_Ta_rewind_9 : decode (yB Y_Ta_rewind) 9 = .ok (.return_, 1) := by decide +kernel
def F_Ta_rewind (n : Nat) (E : zE) (S : zS) (a0 : Nat) (M : zH) : Option (zH) :=
  (zpI S M a0 8 4 0).bind fun m_1 =>
  (zck S a0 8).bind fun u_2 =>
  (F_Ta_advance n E S a0 m_1).bind fun q_3 =>
  some (q_3)
theorem K_Ta_rewind (n : Nat) (E : zE) (S : zS) (a0 : Nat) (M : zH) (M' : zH)  (h : F_Ta_rewind n E S a0 M = some M') : zG E Y_Ta_rewind (none, S, M') 0 [(0, .ref a0)] [] S M 0 0 := by
  unfold F_Ta_rewind at h
  refine zi_aload_n 0 d_Ta_rewind_0 rfl ?_
  refine zi_iconst 0 d_Ta_rewind_1 rfl ?_
  obtain ⟨m_1, em_1, h⟩ := zbind h
  refine zo_putI 5 zkd_8 4 d_Ta_rewind_2 em_1 rfl rfl rfl tw_157 rfl ?_
  refine zi_aload_n 0 d_Ta_rewind_5 rfl ?_
  obtain ⟨u_2, eu_2, h⟩ := zbind h
  obtain ⟨q_3, eq_3, h⟩ := zbind h
  refine zo_virt (k' := 0) (n' := 0) 9 [] [] [] zkd_8 (zck_s eu_2) (C_Ta_advance n E S a0 m_1 q_3 eq_3) d_Ta_rewind_6 tw_575 tw_572 tw_573 tw_574 tw_5 dd_Ta_advance ⟨Nat.le_of_ble_eq_true rfl, Nat.le_of_ble_eq_true rfl, Nat.le_of_ble_eq_true rfl, Nat.le_of_ble_eq_true rfl⟩ (Nat.le_of_ble_eq_true rfl) rfl rfl rfl rfl ?_
  cases h
  exact zo_ret d_Ta_rewind_9 (Nat.le_of_ble_eq_true rfl) (Nat.le_of_ble_eq_true rfl) rfl
theorem C_Ta_rewind (n : Nat) (E : zE) (S : zS) (a0 : Nat) (M : zH) (M' : zH) (h : F_Ta_rewind n E S a0 M = some M') : zC E Y_Ta_rewind [.ref a0] S M (none, S, M') :=
  zC.of (Or.inl (show plainName "NightColander$Tape" = true by decide)) (Nat.le_of_ble_eq_true rfl) (trivial) (K_Ta_rewind n E S a0 M M' h)
theorem d_Te_clear_0 : decode (yB Y_Te_clear) 0 = .ok (.aload_n 0, 1) := by decide +kernel
theorem d_Te_clear_1 : decode (yB Y_Te_clear) 1 = .ok (.iconst 0, 1) := by decide +kernel
theorem d_Te_clear_2 : decode (yB Y_Te_clear) 2 = .ok (.putfield 7, 3) := by decide +kernel
theorem d_Te_clear_5 : decode (yB Y_Te_clear) 5 = .ok (.aload_n 0, 1) := by decide +kernel
theorem d_Te_clear_6 : decode (yB Y_Te_clear) 6 = .ok (.iconst 0, 1) := by decide +kernel
theorem d_Te_clear_7 : decode (yB Y_Te_clear) 7 = .ok (.putfield 13, 3) := by decide +kernel
theorem d_Te_clear_10 : decode (yB Y_Te_clear) 10 = .ok (.return_, 1) := by decide +kernel
def F_Te_clear (n : Nat) (E : zE) (S : zS) (a0 : Nat) (M : zH) : Option (zH) :=
  (zpI S M a0 9 5 0).bind fun m_1 =>
  (zpI S m_1 a0 9 6 0).bind fun m_2 =>
  some (m_2)
theorem K_Te_clear (n : Nat) (E : zE) (S : zS) (a0 : Nat) (M : zH) (M' : zH)  (h : F_Te_clear n E S a0 M = some M') : zG E Y_Te_clear (none, S, M') 0 [(0, .ref a0)] [] S M 0 0 := by
  unfold F_Te_clear at h
  refine zi_aload_n 0 d_Te_clear_0 rfl ?_
  refine zi_iconst 0 d_Te_clear_1 rfl ?_
  obtain ⟨m_1, em_1, h⟩ := zbind h
  refine zo_putI 5 zkd_9 5 d_Te_clear_2 em_1 rfl rfl rfl tw_195 rfl ?_
  refine zi_aload_n 0 d_Te_clear_5 rfl ?_
  refine zi_iconst 0 d_Te_clear_6 rfl ?_
  obtain ⟨m_2, em_2, h⟩ := zbind h
  refine zo_putI 10 zkd_9 6 d_Te_clear_7 em_2 rfl rfl rfl tw_197 rfl ?_
  cases h
  exact zo_ret d_Te_clear_10 (Nat.le_of_ble_eq_true rfl) (Nat.le_of_ble_eq_true rfl) rfl
theorem C_Te_clear (n : Nat) (E : zE) (S : zS) (a0 : Nat) (M : zH) (M' : zH) (h : F_Te_clear n E S a0 M = some M') : zC E Y_Te_clear [.ref a0] S M (none, S, M') :=
  zC.of (Or.inl (show plainName "NightColander$Text" = true by decide)) (Nat.le_of_ble_eq_true rfl) (trivial) (K_Te_clear n E S a0 M M' h)
theorem d_Ps_parse_0 : decode (yB Y_Ps_parse) 0 = .ok (.aload_n 0, 1) := by decide +kernel
theorem d_Ps_parse_1 : decode (yB Y_Ps_parse) 1 = .ok (.iload_n 1, 1) := by decide +kernel
theorem d_Ps_parse_2 : decode (yB Y_Ps_parse) 2 = .ok (.putfield 18, 3) := by decide +kernel
theorem d_Ps_parse_5 : decode (yB Y_Ps_parse) 5 = .ok (.aload_n 0, 1) := by decide +kernel
theorem d_Ps_parse_6 : decode (yB Y_Ps_parse) 6 = .ok (.iconst 0, 1) := by decide +kernel
theorem d_Ps_parse_7 : decode (yB Y_Ps_parse) 7 = .ok (.putfield 22, 3) := by decide +kernel
theorem d_Ps_parse_10 : decode (yB Y_Ps_parse) 10 = .ok (.aload_n 0, 1) := by decide +kernel
theorem d_Ps_parse_11 : decode (yB Y_Ps_parse) 11 = .ok (.getfield 12, 3) := by decide +kernel
theorem d_Ps_parse_14 : decode (yB Y_Ps_parse) 14 = .ok (.invokevirtual 30, 3) := by decide +kernel
theorem d_Ps_parse_17 : decode (yB Y_Ps_parse) 17 = .ok (.aload_n 0, 1) := by decide +kernel
theorem d_Ps_parse_18 : decode (yB Y_Ps_parse) 18 = .ok (.getfield 26, 3) := by decide +kernel
theorem d_Ps_parse_21 : decode (yB Y_Ps_parse) 21 = .ok (.invokevirtual 33, 3) := by decide +kernel
theorem d_Ps_parse_24 : decode (yB Y_Ps_parse) 24 = .ok (.iconst 0, 1) := by decide +kernel
theorem d_Ps_parse_25 : decode (yB Y_Ps_parse) 25 = .ok (.istore_n 2, 1) := by decide +kernel
theorem d_Ps_parse_26 : decode (yB Y_Ps_parse) 26 = .ok (.iload_n 2, 1) := by decide +kernel
theorem d_Ps_parse_27 : decode (yB Y_Ps_parse) 27 = .ok (.bipush 12, 2) := by decide +kernel
theorem d_Ps_parse_29 : decode (yB Y_Ps_parse) 29 = .ok (.if_icmp .ge 63, 3) := by decide +kernel
theorem d_Ps_parse_32 : decode (yB Y_Ps_parse) 32 = .ok (.aload_n 0, 1) := by decide +kernel
theorem d_Ps_parse_33 : decode (yB Y_Ps_parse) 33 = .ok (.invokevirtual 38, 3) := by decide +kernel
theorem d_Ps_parse_36 : decode (yB Y_Ps_parse) 36 = .ok (.ifCond .ne 11, 3) := by decide +kernel
theorem d_Ps_parse_39 : decode (yB Y_Ps_parse) 39 = .ok (.aload_n 0, 1) := by decide +kernel
theorem d_Ps_parse_40 : decode (yB Y_Ps_parse) 40 = .ok (.getfield 26, 3) := by decide +kernel
theorem d_Ps_parse_43 : decode (yB Y_Ps_parse) 43 = .ok (.invokevirtual 42, 3) := by decide +kernel
theorem d_Ps_parse_46 : decode (yB Y_Ps_parse) 46 = .ok (.ireturn, 1) := by decide +kernel
theorem d_Ps_parse_47 : decode (yB Y_Ps_parse) 47 = .ok (.aload_n 0, 1) := by decide +kernel
theorem d_Ps_parse_48 : decode (yB Y_Ps_parse) 48 = .ok (.getfield 26, 3) := by decide +kernel
theorem d_Ps_parse_51 : decode (yB Y_Ps_parse) 51 = .ok (.invokevirtual 46, 3) := by decide +kernel
theorem d_Ps_parse_54 : decode (yB Y_Ps_parse) 54 = .ok (.ifCond .eq 5, 3) := by decide +kernel
theorem d_Ps_parse_57 : decode (yB Y_Ps_parse) 57 = .ok (.iconst (-1), 1) := by decide +kernel
theorem d_Ps_parse_58 : decode (yB Y_Ps_parse) 58 = .ok (.ireturn, 1) := by decide +kernel
theorem d_Ps_parse_59 : decode (yB Y_Ps_parse) 59 = .ok (.aload_n 0, 1) := by decide +kernel
theorem d_Ps_parse_60 : decode (yB Y_Ps_parse) 60 = .ok (.getfield 26, 3) := by decide +kernel
theorem d_Ps_parse_63 : decode (yB Y_Ps_parse) 63 = .ok (.bipush 59, 2) := by decide +kernel
theorem d_Ps_parse_65 : decode (yB Y_Ps_parse) 65 = .ok (.invokevirtual 49, 3) := by decide +kernel
theorem d_Ps_parse_68 : decode (yB Y_Ps_parse) 68 = .ok (.ifCond .ne 11, 3) := by decide +kernel
theorem d_Ps_parse_71 : decode (yB Y_Ps_parse) 71 = .ok (.aload_n 0, 1) := by decide +kernel
theorem d_Ps_parse_72 : decode (yB Y_Ps_parse) 72 = .ok (.getfield 26, 3) := by decide +kernel
theorem d_Ps_parse_75 : decode (yB Y_Ps_parse) 75 = .ok (.invokevirtual 42, 3) := by decide +kernel
theorem d_Ps_parse_78 : decode (yB Y_Ps_parse) 78 = .ok (.ireturn, 1) := by decide +kernel
theorem d_Ps_parse_79 : decode (yB Y_Ps_parse) 79 = .ok (.aload_n 0, 1) := by decide +kernel
theorem d_Ps_parse_80 : decode (yB Y_Ps_parse) 80 = .ok (.getfield 26, 3) := by decide +kernel
theorem d_Ps_parse_83 : decode (yB Y_Ps_parse) 83 = .ok (.invokevirtual 53, 3) := by decide +kernel
theorem d_Ps_parse_86 : decode (yB Y_Ps_parse) 86 = .ok (.iinc 2 1, 3) := by decide +kernel
theorem d_Ps_parse_89 : decode (yB Y_Ps_parse) 89 = .ok (.goto (-63), 3) := by decide +kernel
theorem d_Ps_parse_92 : decode (yB Y_Ps_parse) 92 = .ok (.aload_n 0, 1) := by decide +kernel
theorem d_Ps_parse_93 : decode (yB Y_Ps_parse) 93 = .ok (.getfield 26, 3) := by decide +kernel
theorem d_Ps_parse_96 : decode (yB Y_Ps_parse) 96 = .ok (.invokevirtual 42, 3) := by decide +kernel
theorem d_Ps_parse_99 : decode (yB Y_Ps_parse) 99 = .ok (.ireturn, 1) := by decide +kernel
def F_Ps_parse_L26 (n : Nat) (E : zE) (S : zS) (r26 : Nat × Int32 × zH → Option (Int32 × zH)) (a0 : Nat) (x2 : Int32) (M : zH) : Option (Int32 × zH) :=
  if 12 ≤ x2 then
    (zgR S a0 5 1).bind fun b_2 =>
    (zck S b_2 8).bind fun u_3 =>
    (F_Ta_place n E S b_2 M).bind fun q_4 =>
    some (q_4.1, q_4.2)
  else
    (zck S a0 5).bind fun u_5 =>
    (F_Ps_readClause n E S a0 M).bind fun q_6 =>
    if q_6.1 = true then
      (zgR S a0 5 1).bind fun b_8 =>
      (zck S b_8 8).bind fun u_9 =>
      (F_Ta_atEnd n E S b_8 q_6.2).bind fun q_10 =>
      if q_10.1 = true then
        some ((-1), q_10.2)
      else
        (F_Ta_atSign n E S b_8 59 q_10.2).bind fun q_12 =>
        if q_12.1 = true then
          (F_Ta_advance n E S b_8 q_12.2).bind fun q_14 =>
          r26 (a0, x2 + 1, q_14)
        else
          (F_Ta_place n E S b_8 q_12.2).bind fun q_15 =>
          some (q_15.1, q_15.2)
    else
      (zgR S a0 5 1).bind fun b_16 =>
      (zck S b_16 8).bind fun u_17 =>
      (F_Ta_place n E S b_16 q_6.2).bind fun q_18 =>
      some (q_18.1, q_18.2)
def F_Ps_parse_b26 (n : Nat) (E : zE) (S : zS) : Nat × Int32 × zH → Option (Int32 × zH) := zfix (fun r26 s => F_Ps_parse_L26 n E S r26 s.1 s.2.1 s.2.2) n
def F_Ps_parse (n : Nat) (E : zE) (S : zS) (a0 : Nat) (x1 : Int32) (M : zH) : Option (Int32 × zH) :=
  (zpZ S M a0 5 2 x1).bind fun m_19 =>
  (zpI S m_19 a0 5 3 0).bind fun m_20 =>
  (zgR S a0 5 0).bind fun b_21 =>
  (zck S b_21 9).bind fun u_22 =>
  (F_Te_clear n E S b_21 m_20).bind fun q_23 =>
  (zgR S a0 5 1).bind fun b_24 =>
  (zck S b_24 8).bind fun u_25 =>
  (F_Ta_rewind n E S b_24 q_23).bind fun q_26 =>
  F_Ps_parse_b26 n E S (a0, 0, q_26)
theorem K_Ps_parse_L26 (n : Nat) (E : zE) (S : zS) (r26 : Nat × Int32 × zH → Option (Int32 × zH)) (a0 : Nat) (x2 : Int32) (M : zH) (r : Int32) (M' : zH) (hr26 : ∀ (a0 : Nat) (x2 : Int32) (M : zH), r26 (a0, x2, M) = some (r, M') → zG E Y_Ps_parse (some (.int r), S, M') 26 [(0, .ref a0), (2, .int x2)] [] S M 0 0) (h : F_Ps_parse_L26 n E S r26 a0 x2 M = some (r, M')) : zG E Y_Ps_parse (some (.int r), S, M') 26 [(0, .ref a0), (2, .int x2)] [] S M 0 0 := by
  unfold F_Ps_parse_L26 at h
  refine zi_iload_n 1 d_Ps_parse_26 rfl ?_
  refine zi_bipush 12 d_Ps_parse_27 rfl ?_
  refine zi_icmp_ge (tgt := 92) d_Ps_parse_29 rfl (fun c_1 => ?_) (fun c_1 => ?_)
  · rw [if_pos c_1] at h
    refine zi_aload_n 0 d_Ps_parse_92 rfl ?_
    obtain ⟨b_2, eb_2, h⟩ := zbind h
    refine zo_getR 96 zkd_5 1 d_Ps_parse_93 eb_2 rfl tw_217 rfl ?_
    obtain ⟨u_3, eu_3, h⟩ := zbind h
    obtain ⟨q_4, eq_4, h⟩ := zbind h
    refine zo_virt (k' := 0) (n' := 0) 99 [] [] [.int q_4.1] zkd_8 (zck_s eu_3) (C_Ta_place n E S b_2 M q_4.1 q_4.2 eq_4) d_Ps_parse_96 tw_827 tw_824 tw_825 tw_826 tw_5 dd_Ta_place ⟨Nat.le_of_ble_eq_true rfl, Nat.le_of_ble_eq_true rfl, Nat.le_of_ble_eq_true rfl, Nat.le_of_ble_eq_true rfl⟩ (Nat.le_of_ble_eq_true rfl) rfl rfl rfl rfl ?_
    cases h
    exact zo_ret d_Ps_parse_99 (Nat.le_of_ble_eq_true rfl) (Nat.le_of_ble_eq_true rfl) rfl
  · rw [if_neg c_1] at h
    refine zi_aload_n 0 d_Ps_parse_32 rfl ?_
    obtain ⟨u_5, eu_5, h⟩ := zbind h
    obtain ⟨q_6, eq_6, h⟩ := zbind h
    refine zo_virt (k' := 0) (n' := 0) 36 [] [] [.int (bI q_6.1)] zkd_5 (zck_s eu_5) (C_Ps_readClause n E S a0 M q_6.1 q_6.2 eq_6) d_Ps_parse_33 tw_587 tw_584 tw_586 ts_6 tw_6 dd_Ps_readClause ⟨Nat.le_of_ble_eq_true rfl, Nat.le_of_ble_eq_true rfl, Nat.le_of_ble_eq_true rfl, Nat.le_of_ble_eq_true rfl⟩ (Nat.le_of_ble_eq_true rfl) rfl rfl rfl rfl ?_
    refine zo_ifneB d_Ps_parse_36 rfl 39 rfl (fun c_7 => ?_) (fun c_7 => ?_)
    · rw [if_pos c_7] at h
      refine zi_aload_n 0 d_Ps_parse_47 rfl ?_
      obtain ⟨b_8, eb_8, h⟩ := zbind h
      refine zo_getR 51 zkd_5 1 d_Ps_parse_48 eb_8 rfl tw_217 rfl ?_
      obtain ⟨u_9, eu_9, h⟩ := zbind h
      obtain ⟨q_10, eq_10, h⟩ := zbind h
      refine zo_virt (k' := 0) (n' := 0) 54 [] [] [.int (bI q_10.1)] zkd_8 (zck_s eu_9) (C_Ta_atEnd n E S b_8 q_6.2 q_10.1 q_10.2 eq_10) d_Ps_parse_51 tw_831 tw_828 tw_829 tw_830 tw_5 dd_Ta_atEnd ⟨Nat.le_of_ble_eq_true rfl, Nat.le_of_ble_eq_true rfl, Nat.le_of_ble_eq_true rfl, Nat.le_of_ble_eq_true rfl⟩ (Nat.le_of_ble_eq_true rfl) rfl rfl rfl rfl ?_
      refine zo_ifeqB d_Ps_parse_54 rfl 57 rfl (fun c_11 => ?_) (fun c_11 => ?_)
      · rw [if_neg c_11] at h
        refine zi_aload_n 0 d_Ps_parse_59 rfl ?_
        refine zo_getR 63 zkd_5 1 d_Ps_parse_60 eb_8 rfl tw_217 rfl ?_
        refine zi_bipush 59 d_Ps_parse_63 rfl ?_
        obtain ⟨q_12, eq_12, h⟩ := zbind h
        refine zo_virt (k' := 0) (n' := 0) 68 [.int 59] [] [.int (bI q_12.1)] zkd_8 (zck_s eu_9) (C_Ta_atSign n E S b_8 59 q_10.2 q_12.1 q_12.2 eq_12) d_Ps_parse_65 tw_681 tw_678 tw_679 tw_680 tw_5 dd_Ta_atSign ⟨Nat.le_of_ble_eq_true rfl, Nat.le_of_ble_eq_true rfl, Nat.le_of_ble_eq_true rfl, Nat.le_of_ble_eq_true rfl⟩ (Nat.le_of_ble_eq_true rfl) rfl rfl rfl rfl ?_
        refine zo_ifneB d_Ps_parse_68 rfl 71 rfl (fun c_13 => ?_) (fun c_13 => ?_)
        · rw [if_pos c_13] at h
          refine zi_aload_n 0 d_Ps_parse_79 rfl ?_
          refine zo_getR 83 zkd_5 1 d_Ps_parse_80 eb_8 rfl tw_217 rfl ?_
          obtain ⟨q_14, eq_14, h⟩ := zbind h
          refine zo_virt (k' := 0) (n' := 0) 86 [] [] [] zkd_8 (zck_s eu_9) (C_Ta_advance n E S b_8 q_12.2 q_14 eq_14) d_Ps_parse_83 tw_575 tw_655 tw_573 tw_574 tw_5 dd_Ta_advance ⟨Nat.le_of_ble_eq_true rfl, Nat.le_of_ble_eq_true rfl, Nat.le_of_ble_eq_true rfl, Nat.le_of_ble_eq_true rfl⟩ (Nat.le_of_ble_eq_true rfl) rfl rfl rfl rfl ?_
          refine zi_iinc 1 (x2 + 1) [(2, .int (x2 + 1)), (0, .ref a0)] d_Ps_parse_86 rfl rfl (by decide) rfl ?_
          refine zi_goto (tgt := 26) d_Ps_parse_89 rfl ?_
          refine zi_lo [(0, .ref a0), (2, .int (x2 + 1))] [1, 0] rfl ?_
          exact hr26 a0 (x2 + 1) q_14 h
        · rw [if_neg c_13] at h
          refine zi_aload_n 0 d_Ps_parse_71 rfl ?_
          refine zo_getR 75 zkd_5 1 d_Ps_parse_72 eb_8 rfl tw_217 rfl ?_
          obtain ⟨q_15, eq_15, h⟩ := zbind h
          refine zo_virt (k' := 0) (n' := 0) 78 [] [] [.int q_15.1] zkd_8 (zck_s eu_9) (C_Ta_place n E S b_8 q_12.2 q_15.1 q_15.2 eq_15) d_Ps_parse_75 tw_827 tw_824 tw_825 tw_826 tw_5 dd_Ta_place ⟨Nat.le_of_ble_eq_true rfl, Nat.le_of_ble_eq_true rfl, Nat.le_of_ble_eq_true rfl, Nat.le_of_ble_eq_true rfl⟩ (Nat.le_of_ble_eq_true rfl) rfl rfl rfl rfl ?_
          cases h
          exact zo_ret d_Ps_parse_78 (Nat.le_of_ble_eq_true rfl) (Nat.le_of_ble_eq_true rfl) rfl
      · rw [if_pos c_11] at h
        refine zi_iconst (-1) d_Ps_parse_57 rfl ?_
        cases h
        exact zo_ret d_Ps_parse_58 (Nat.le_of_ble_eq_true rfl) (Nat.le_of_ble_eq_true rfl) rfl
    · rw [if_neg c_7] at h
      refine zi_aload_n 0 d_Ps_parse_39 rfl ?_
      obtain ⟨b_16, eb_16, h⟩ := zbind h
      refine zo_getR 43 zkd_5 1 d_Ps_parse_40 eb_16 rfl tw_217 rfl ?_
      obtain ⟨u_17, eu_17, h⟩ := zbind h
      obtain ⟨q_18, eq_18, h⟩ := zbind h
      refine zo_virt (k' := 0) (n' := 0) 46 [] [] [.int q_18.1] zkd_8 (zck_s eu_17) (C_Ta_place n E S b_16 q_6.2 q_18.1 q_18.2 eq_18) d_Ps_parse_43 tw_827 tw_824 tw_825 tw_826 tw_5 dd_Ta_place ⟨Nat.le_of_ble_eq_true rfl, Nat.le_of_ble_eq_true rfl, Nat.le_of_ble_eq_true rfl, Nat.le_of_ble_eq_true rfl⟩ (Nat.le_of_ble_eq_true rfl) rfl rfl rfl rfl ?_
      cases h
      exact zo_ret d_Ps_parse_46 (Nat.le_of_ble_eq_true rfl) (Nat.le_of_ble_eq_true rfl) rfl
theorem K_Ps_parse_b26 (n : Nat) (E : zE) (S : zS) (a0 : Nat) (x2 : Int32) (M : zH) (r : Int32) (M' : zH)  (h : F_Ps_parse_b26 n E S (a0, x2, M) = some (r, M')) : zG E Y_Ps_parse (some (.int r), S, M') 26 [(0, .ref a0), (2, .int x2)] [] S M 0 0 := by
  have key : ∀ (k : Nat) (a0 : Nat) (x2 : Int32) (M : zH), zfix (fun r26 s => F_Ps_parse_L26 n E S r26 s.1 s.2.1 s.2.2) k (a0, x2, M) = some (r, M') → zG E Y_Ps_parse (some (.int r), S, M') 26 [(0, .ref a0), (2, .int x2)] [] S M 0 0 := by
    intro k
    induction k with
    | zero => intro a0 x2 M h; cases h
    | succ k ih => intro a0 x2 M h; exact K_Ps_parse_L26 n E S _ a0 x2 M r M'  (fun a0 x2 M h => ih a0 x2 M h) h
  exact key n a0 x2 M h
theorem K_Ps_parse (n : Nat) (E : zE) (S : zS) (a0 : Nat) (x1 : Int32) (M : zH) (r : Int32) (M' : zH)  (h : F_Ps_parse n E S a0 x1 M = some (r, M')) : zG E Y_Ps_parse (some (.int r), S, M') 0 [(0, .ref a0), (1, .int x1)] [] S M 0 0 := by
  unfold F_Ps_parse at h
  refine zi_aload_n 0 d_Ps_parse_0 rfl ?_
  refine zi_iload_n 1 d_Ps_parse_1 rfl ?_
  obtain ⟨m_19, em_19, h⟩ := zbind h
  refine zo_putZ 5 zkd_5 2 d_Ps_parse_2 em_19 rfl rfl rfl tw_218 rfl ?_
  refine zi_aload_n 0 d_Ps_parse_5 rfl ?_
  refine zi_iconst 0 d_Ps_parse_6 rfl ?_
  obtain ⟨m_20, em_20, h⟩ := zbind h
  refine zo_putI 10 zkd_5 3 d_Ps_parse_7 em_20 rfl rfl rfl tw_219 rfl ?_
  refine zi_aload_n 0 d_Ps_parse_10 rfl ?_
  obtain ⟨b_21, eb_21, h⟩ := zbind h
  refine zo_getR 14 zkd_5 0 d_Ps_parse_11 eb_21 rfl tw_215 rfl ?_
  obtain ⟨u_22, eu_22, h⟩ := zbind h
  obtain ⟨q_23, eq_23, h⟩ := zbind h
  refine zo_virt (k' := 0) (n' := 0) 17 [] [] [] zkd_9 (zck_s eu_22) (C_Te_clear n E S b_21 m_20 q_23 eq_23) d_Ps_parse_14 tw_567 tw_564 tw_565 tw_566 tw_7 dd_Te_clear ⟨Nat.le_of_ble_eq_true rfl, Nat.le_of_ble_eq_true rfl, Nat.le_of_ble_eq_true rfl, Nat.le_of_ble_eq_true rfl⟩ (Nat.le_of_ble_eq_true rfl) rfl rfl rfl rfl ?_
  refine zi_aload_n 0 d_Ps_parse_17 rfl ?_
  obtain ⟨b_24, eb_24, h⟩ := zbind h
  refine zo_getR 21 zkd_5 1 d_Ps_parse_18 eb_24 rfl tw_217 rfl ?_
  obtain ⟨u_25, eu_25, h⟩ := zbind h
  obtain ⟨q_26, eq_26, h⟩ := zbind h
  refine zo_virt (k' := 0) (n' := 0) 24 [] [] [] zkd_8 (zck_s eu_25) (C_Ta_rewind n E S b_24 q_23 q_26 eq_26) d_Ps_parse_21 tw_571 tw_568 tw_569 tw_570 tw_5 dd_Ta_rewind ⟨Nat.le_of_ble_eq_true rfl, Nat.le_of_ble_eq_true rfl, Nat.le_of_ble_eq_true rfl, Nat.le_of_ble_eq_true rfl⟩ (Nat.le_of_ble_eq_true rfl) rfl rfl rfl rfl ?_
  refine zi_iconst 0 d_Ps_parse_24 rfl ?_
  refine zi_istore_n [(2, .int 0), (0, .ref a0), (1, .int x1)] d_Ps_parse_25 (by decide) rfl ?_
  refine zi_lo [(0, .ref a0), (2, .int 0)] [1, 0] rfl ?_
  exact K_Ps_parse_b26 n E S a0 0 q_26 r M'  h
theorem C_Ps_parse (n : Nat) (E : zE) (S : zS) (a0 : Nat) (x1 : Int32) (M : zH) (r : Int32) (M' : zH) (h : F_Ps_parse n E S a0 x1 M = some (r, M')) : zC E Y_Ps_parse [.ref a0, .int x1] S M (some (.int r), S, M') :=
  zC.of (Or.inl (show plainName "NightColander$Parser" = true by decide)) (Nat.le_of_ble_eq_true rfl) (trivial) (K_Ps_parse n E S a0 x1 M r M' h)
