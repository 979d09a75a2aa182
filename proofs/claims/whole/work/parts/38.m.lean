/-! METHODS (printed by gen/build.py): Mo_readPlain Mo_readExpression Mo_readLaw Mo_law Mo_isLaw Mo_force Mo_keepAll Mo_remember -/
theorem d_Mo_readPlain_0 : decode (yB Y_Mo_readPlain) 0 = .ok (.aload_n 0, 1) := by decide +kernel
theorem d_Mo_readPlain_1 : decode (yB Y_Mo_readPlain) 1 = .ok (.ldc2_w 353, 3) := by decide +kernel
theorem d_Mo_readPlain_4 : decode (yB Y_Mo_readPlain) 4 = .ok (.invokevirtual 312, 3) := by decide +kernel
theorem d_Mo_readPlain_7 : decode (yB Y_Mo_readPlain) 7 = .ok (.ifCond .eq 16, 3) := by decide +kernel
theorem d_Mo_readPlain_10 : decode (yB Y_Mo_readPlain) 10 = .ok (.aload_n 0, 1) := by decide +kernel
theorem d_Mo_readPlain_11 : decode (yB Y_Mo_readPlain) 11 = .ok (.bipush 28, 2) := by decide +kernel
theorem d_Mo_readPlain_13 : decode (yB Y_Mo_readPlain) 13 = .ok (.iconst 0, 1) := by decide +kernel
theorem d_Mo_readPlain_14 : decode (yB Y_Mo_readPlain) 14 = .ok (.invokevirtual 319, 3) := by decide +kernel
theorem d_Mo_readPlain_17 : decode (yB Y_Mo_readPlain) 17 = .ok (.aload_n 0, 1) := by decide +kernel
theorem d_Mo_readPlain_18 : decode (yB Y_Mo_readPlain) 18 = .ok (.invokevirtual 260, 3) := by decide +kernel
theorem d_Mo_readPlain_21 : decode (yB Y_Mo_readPlain) 21 = .ok (.iconst 0, 1) := by decide +kernel
theorem d_Mo_readPlain_22 : decode (yB Y_Mo_readPlain) 22 = .ok (.ireturn, 1) := by decide +kernel
theorem d_Mo_readPlain_23 : decode (yB Y_Mo_readPlain) 23 = .ok (.aload_n 0, 1) := by decide +kernel
theorem d_Mo_readPlain_24 : decode (yB Y_Mo_readPlain) 24 = .ok (.bipush 40, 2) := by decide +kernel
theorem d_Mo_readPlain_26 : decode (yB Y_Mo_readPlain) 26 = .ok (.invokevirtual 325, 3) := by decide +kernel
theorem d_Mo_readPlain_29 : decode (yB Y_Mo_readPlain) 29 = .ok (.ifCond .eq 11, 3) := by decide +kernel
theorem d_Mo_readPlain_32 : decode (yB Y_Mo_readPlain) 32 = .ok (.aload_n 0, 1) := by decide +kernel
theorem d_Mo_readPlain_33 : decode (yB Y_Mo_readPlain) 33 = .ok (.bipush 31, 2) := by decide +kernel
theorem d_Mo_readPlain_35 : decode (yB Y_Mo_readPlain) 35 = .ok (.invokevirtual 328, 3) := by decide +kernel
theorem d_Mo_readPlain_38 : decode (yB Y_Mo_readPlain) 38 = .ok (.iconst 0, 1) := by decide +kernel
theorem d_Mo_readPlain_39 : decode (yB Y_Mo_readPlain) 39 = .ok (.ireturn, 1) := by decide +kernel
theorem d_Mo_readPlain_40 : decode (yB Y_Mo_readPlain) 40 = .ok (.aload_n 0, 1) := by decide +kernel
theorem d_Mo_readPlain_41 : decode (yB Y_Mo_readPlain) 41 = .ok (.invokevirtual 355, 3) := by decide +kernel
theorem d_Mo_readPlain_44 : decode (yB Y_Mo_readPlain) 44 = .ok (.ireturn, 1) := by decide +kernel
def F_Mo_readPlain (n : Nat) (E : zE) (S : zS) (a0 : Nat) (M : zH) : Option (Int32 × zH) :=
  (zck S a0 11).bind fun u_1 =>
  (F_Mo_isWord n E S a0 14836 M).bind fun q_2 =>
  if q_2.1 = true then
    (F_Mo_push n E S a0 28 0 q_2.2).bind fun q_4 =>
    (F_Mo_next n E S a0 q_4).bind fun q_5 =>
    some (0, q_5)
  else
    (F_Mo_isSign n E S a0 40 q_2.2).bind fun q_6 =>
    if q_6.1 = true then
      (F_Mo_openBracket n E S a0 31 q_6.2).bind fun q_8 =>
      some (0, q_8)
    else
      (F_Mo_readPart n E S a0 q_6.2).bind fun q_9 =>
      some (q_9.1, q_9.2)
theorem K_Mo_readPlain (n : Nat) (E : zE) (S : zS) (a0 : Nat) (M : zH) (r : Int32) (M' : zH)  (h : F_Mo_readPlain n E S a0 M = some (r, M')) : zG E Y_Mo_readPlain (some (.int r), S, M') 0 [(0, .ref a0)] [] S M 0 0 := by
  unfold F_Mo_readPlain at h
  refine zi_aload_n 0 d_Mo_readPlain_0 rfl ?_
  refine zi_ldc2 d_Mo_readPlain_1 tw_1608 ?_
  obtain ⟨u_1, eu_1, h⟩ := zbind h
  obtain ⟨q_2, eq_2, h⟩ := zbind h
  refine zo_virt (k' := 0) (n' := 0) 7 [.long 14836] [] [.int (bI q_2.1)] zkd_11 (zck_s eu_1) (C_Mo_isWord n E S a0 14836 M q_2.1 q_2.2 eq_2) d_Mo_readPlain_4 tw_1595 tw_1592 tw_1594 ts_58 tw_13 dd_Mo_isWord ⟨Nat.le_of_ble_eq_true rfl, Nat.le_of_ble_eq_true rfl, Nat.le_of_ble_eq_true rfl, Nat.le_of_ble_eq_true rfl⟩ (Nat.le_of_ble_eq_true rfl) rfl rfl rfl rfl ?_
  refine zo_ifeqB d_Mo_readPlain_7 rfl 10 rfl (fun c_3 => ?_) (fun c_3 => ?_)
  · rw [if_neg c_3] at h
    refine zi_aload_n 0 d_Mo_readPlain_23 rfl ?_
    refine zi_bipush 40 d_Mo_readPlain_24 rfl ?_
    obtain ⟨q_6, eq_6, h⟩ := zbind h
    refine zo_virt (k' := 0) (n' := 0) 29 [.int 40] [] [.int (bI q_6.1)] zkd_11 (zck_s eu_1) (C_Mo_isSign n E S a0 40 q_2.2 q_6.1 q_6.2 eq_6) d_Mo_readPlain_26 tw_1616 tw_1613 tw_1615 ts_63 tw_13 dd_Mo_isSign ⟨Nat.le_of_ble_eq_true rfl, Nat.le_of_ble_eq_true rfl, Nat.le_of_ble_eq_true rfl, Nat.le_of_ble_eq_true rfl⟩ (Nat.le_of_ble_eq_true rfl) rfl rfl rfl rfl ?_
    refine zo_ifeqB d_Mo_readPlain_29 rfl 32 rfl (fun c_7 => ?_) (fun c_7 => ?_)
    · rw [if_neg c_7] at h
      refine zi_aload_n 0 d_Mo_readPlain_40 rfl ?_
      obtain ⟨q_9, eq_9, h⟩ := zbind h
      refine zo_virt (k' := 0) (n' := 0) 44 [] [] [.int q_9.1] zkd_11 (zck_s eu_1) (C_Mo_readPart n E S a0 q_6.2 q_9.1 q_9.2 eq_9) d_Mo_readPlain_41 tw_1624 tw_1621 tw_1623 ts_65 tw_13 dd_Mo_readPart ⟨Nat.le_of_ble_eq_true rfl, Nat.le_of_ble_eq_true rfl, Nat.le_of_ble_eq_true rfl, Nat.le_of_ble_eq_true rfl⟩ (Nat.le_of_ble_eq_true rfl) rfl rfl rfl rfl ?_
      cases h
      exact zo_ret d_Mo_readPlain_44 (Nat.le_of_ble_eq_true rfl) (Nat.le_of_ble_eq_true rfl) rfl
    · rw [if_pos c_7] at h
      refine zi_aload_n 0 d_Mo_readPlain_32 rfl ?_
      refine zi_bipush 31 d_Mo_readPlain_33 rfl ?_
      obtain ⟨q_8, eq_8, h⟩ := zbind h
      refine zo_virt (k' := 0) (n' := 0) 38 [.int 31] [] [] zkd_11 (zck_s eu_1) (C_Mo_openBracket n E S a0 31 q_6.2 q_8 eq_8) d_Mo_readPlain_35 tw_1620 tw_1617 tw_1619 ts_64 tw_13 dd_Mo_openBracket ⟨Nat.le_of_ble_eq_true rfl, Nat.le_of_ble_eq_true rfl, Nat.le_of_ble_eq_true rfl, Nat.le_of_ble_eq_true rfl⟩ (Nat.le_of_ble_eq_true rfl) rfl rfl rfl rfl ?_
      refine zi_iconst 0 d_Mo_readPlain_38 rfl ?_
      cases h
      exact zo_ret d_Mo_readPlain_39 (Nat.le_of_ble_eq_true rfl) (Nat.le_of_ble_eq_true rfl) rfl
  · rw [if_pos c_3] at h
    refine zi_aload_n 0 d_Mo_readPlain_10 rfl ?_
    refine zi_bipush 28 d_Mo_readPlain_11 rfl ?_
    refine zi_iconst 0 d_Mo_readPlain_13 rfl ?_
    obtain ⟨q_4, eq_4, h⟩ := zbind h
    refine zo_virt (k' := 0) (n' := 0) 17 [.int 28, .int 0] [] [] zkd_11 (zck_s eu_1) (C_Mo_push n E S a0 28 0 q_2.2 q_4 eq_4) d_Mo_readPlain_14 tw_1612 tw_1609 tw_1611 ts_62 tw_13 dd_Mo_push ⟨Nat.le_of_ble_eq_true rfl, Nat.le_of_ble_eq_true rfl, Nat.le_of_ble_eq_true rfl, Nat.le_of_ble_eq_true rfl⟩ (Nat.le_of_ble_eq_true rfl) rfl rfl rfl rfl ?_
    refine zi_aload_n 0 d_Mo_readPlain_17 rfl ?_
    obtain ⟨q_5, eq_5, h⟩ := zbind h
    refine zo_virt (k' := 0) (n' := 0) 21 [] [] [] zkd_11 (zck_s eu_1) (C_Mo_next n E S a0 q_4 q_5 eq_5) d_Mo_readPlain_18 tw_1577 tw_1574 tw_1576 ts_56 tw_13 dd_Mo_next ⟨Nat.le_of_ble_eq_true rfl, Nat.le_of_ble_eq_true rfl, Nat.le_of_ble_eq_true rfl, Nat.le_of_ble_eq_true rfl⟩ (Nat.le_of_ble_eq_true rfl) rfl rfl rfl rfl ?_
    refine zi_iconst 0 d_Mo_readPlain_21 rfl ?_
    cases h
    exact zo_ret d_Mo_readPlain_22 (Nat.le_of_ble_eq_true rfl) (Nat.le_of_ble_eq_true rfl) rfl
theorem C_Mo_readPlain (n : Nat) (E : zE) (S : zS) (a0 : Nat) (M : zH) (r : Int32) (M' : zH) (h : F_Mo_readPlain n E S a0 M = some (r, M')) : zC E Y_Mo_readPlain [.ref a0] S M (some (.int r), S, M') :=
  zC.of (Or.inl (show plainName "NightColanderModel" = true by decide)) (Nat.le_of_ble_eq_true rfl) (trivial) (K_Mo_readPlain n E S a0 M r M' h)
theorem d_Mo_readExpression_0 : decode (yB Y_Mo_readExpression) 0 = .ok (.aload_n 0, 1) := by decide +kernel
theorem d_Mo_readExpression_1 : decode (yB Y_Mo_readExpression) 1 = .ok (.iconst 0, 1) := by decide +kernel
theorem d_Mo_readExpression_2 : decode (yB Y_Mo_readExpression) 2 = .ok (.putfield 294, 3) := by decide +kernel
theorem d_Mo_readExpression_5 : decode (yB Y_Mo_readExpression) 5 = .ok (.aload_n 0, 1) := by decide +kernel
theorem d_Mo_readExpression_6 : decode (yB Y_Mo_readExpression) 6 = .ok (.iconst 0, 1) := by decide +kernel
theorem d_Mo_readExpression_7 : decode (yB Y_Mo_readExpression) 7 = .ok (.putfield 316, 3) := by decide +kernel
theorem d_Mo_readExpression_10 : decode (yB Y_Mo_readExpression) 10 = .ok (.iload_n 1, 1) := by decide +kernel
theorem d_Mo_readExpression_11 : decode (yB Y_Mo_readExpression) 11 = .ok (.ifCond .eq 7, 3) := by decide +kernel
theorem d_Mo_readExpression_14 : decode (yB Y_Mo_readExpression) 14 = .ok (.iconst 0, 1) := by decide +kernel
theorem d_Mo_readExpression_15 : decode (yB Y_Mo_readExpression) 15 = .ok (.goto 4, 3) := by decide +kernel
theorem d_Mo_readExpression_18 : decode (yB Y_Mo_readExpression) 18 = .ok (.iconst 1, 1) := by decide +kernel
theorem d_Mo_readExpression_19 : decode (yB Y_Mo_readExpression) 19 = .ok (.istore_n 2, 1) := by decide +kernel
theorem d_Mo_readExpression_20 : decode (yB Y_Mo_readExpression) 20 = .ok (.aload_n 0, 1) := by decide +kernel
theorem d_Mo_readExpression_21 : decode (yB Y_Mo_readExpression) 21 = .ok (.getfield 256, 3) := by decide +kernel
theorem d_Mo_readExpression_24 : decode (yB Y_Mo_readExpression) 24 = .ok (.ifCond .ne 52, 3) := by decide +kernel
theorem d_Mo_readExpression_27 : decode (yB Y_Mo_readExpression) 27 = .ok (.iload_n 2, 1) := by decide +kernel
theorem d_Mo_readExpression_28 : decode (yB Y_Mo_readExpression) 28 = .ok (.iconst 4, 1) := by decide +kernel
theorem d_Mo_readExpression_29 : decode (yB Y_Mo_readExpression) 29 = .ok (.if_icmp .eq 47, 3) := by decide +kernel
theorem d_Mo_readExpression_32 : decode (yB Y_Mo_readExpression) 32 = .ok (.iload_n 2, 1) := by decide +kernel
theorem d_Mo_readExpression_33 : decode (yB Y_Mo_readExpression) 33 = .ok (.ifCond .ne 10, 3) := by decide +kernel
theorem d_Mo_readExpression_36 : decode (yB Y_Mo_readExpression) 36 = .ok (.aload_n 0, 1) := by decide +kernel
theorem d_Mo_readExpression_37 : decode (yB Y_Mo_readExpression) 37 = .ok (.invokevirtual 372, 3) := by decide +kernel
theorem d_Mo_readExpression_40 : decode (yB Y_Mo_readExpression) 40 = .ok (.goto 32, 3) := by decide +kernel
theorem d_Mo_readExpression_43 : decode (yB Y_Mo_readExpression) 43 = .ok (.iload_n 2, 1) := by decide +kernel
theorem d_Mo_readExpression_44 : decode (yB Y_Mo_readExpression) 44 = .ok (.iconst 1, 1) := by decide +kernel
theorem d_Mo_readExpression_45 : decode (yB Y_Mo_readExpression) 45 = .ok (.if_icmp .ne 10, 3) := by decide +kernel
theorem d_Mo_readExpression_48 : decode (yB Y_Mo_readExpression) 48 = .ok (.aload_n 0, 1) := by decide +kernel
theorem d_Mo_readExpression_49 : decode (yB Y_Mo_readExpression) 49 = .ok (.invokevirtual 355, 3) := by decide +kernel
theorem d_Mo_readExpression_52 : decode (yB Y_Mo_readExpression) 52 = .ok (.goto 20, 3) := by decide +kernel
theorem d_Mo_readExpression_55 : decode (yB Y_Mo_readExpression) 55 = .ok (.iload_n 2, 1) := by decide +kernel
theorem d_Mo_readExpression_56 : decode (yB Y_Mo_readExpression) 56 = .ok (.iconst 3, 1) := by decide +kernel
theorem d_Mo_readExpression_57 : decode (yB Y_Mo_readExpression) 57 = .ok (.if_icmp .ne 11, 3) := by decide +kernel
theorem d_Mo_readExpression_60 : decode (yB Y_Mo_readExpression) 60 = .ok (.aload_n 0, 1) := by decide +kernel
theorem d_Mo_readExpression_61 : decode (yB Y_Mo_readExpression) 61 = .ok (.iload_n 1, 1) := by decide +kernel
theorem d_Mo_readExpression_62 : decode (yB Y_Mo_readExpression) 62 = .ok (.invokevirtual 375, 3) := by decide +kernel
theorem d_Mo_readExpression_65 : decode (yB Y_Mo_readExpression) 65 = .ok (.goto 7, 3) := by decide +kernel
theorem d_Mo_readExpression_68 : decode (yB Y_Mo_readExpression) 68 = .ok (.aload_n 0, 1) := by decide +kernel
theorem d_Mo_readExpression_69 : decode (yB Y_Mo_readExpression) 69 = .ok (.invokevirtual 379, 3) := by decide +kernel
theorem d_Mo_readExpression_72 : decode (yB Y_Mo_readExpression) 72 = .ok (.istore_n 2, 1) := by decide +kernel
theorem d_Mo_readExpression_73 : decode (yB Y_Mo_readExpression) 73 = .ok (.goto (-53), 3) := by decide +kernel
theorem d_Mo_readExpression_76 : decode (yB Y_Mo_readExpression) 76 = .ok (.aload_n 0, 1) := by decide +kernel
theorem d_Mo_readExpression_77 : decode (yB Y_Mo_readExpression) 77 = .ok (.iconst 1, 1) := by decide +kernel
theorem d_Mo_readExpression_78 : decode (yB Y_Mo_readExpression) 78 = .ok (.invokevirtual 358, 3) := by decide +kernel
theorem d_Mo_readExpression_81 : decode (yB Y_Mo_readExpression) 81 = .ok (.return_, 1) := by decide +kernel
def F_Mo_readExpression_b72 (n : Nat) (E : zE) (S : zS) (r20 : Nat × Int32 × Int32 × zH → Option (zH)) (a0 : Nat) (x1 : Int32) (s0 : Int32) (M : zH) : Option (zH) :=
  r20 (a0, x1, s0, M)
def F_Mo_readExpression_b76 (n : Nat) (E : zE) (S : zS) (a0 : Nat) (M : zH) : Option (zH) :=
  (zck S a0 11).bind fun u_1 =>
  (F_Mo_settle n E S a0 1 M).bind fun q_2 =>
  some (q_2)
def F_Mo_readExpression_L20 (n : Nat) (E : zE) (S : zS) (r20 : Nat × Int32 × Int32 × zH → Option (zH)) (a0 : Nat) (x1 : Int32) (x2 : Int32) (M : zH) : Option (zH) :=
  (zgI S M a0 11 19).bind fun v_3 =>
  if v_3 = 0 then
    if x2 = 4 then
      F_Mo_readExpression_b76 n E S a0 M
    else
      if x2 = 0 then
        (F_Mo_readPlain n E S a0 M).bind fun q_7 =>
        F_Mo_readExpression_b72 n E S r20 a0 x1 q_7.1 q_7.2
      else
        if x2 = 1 then
          (F_Mo_readPart n E S a0 M).bind fun q_9 =>
          F_Mo_readExpression_b72 n E S r20 a0 x1 q_9.1 q_9.2
        else
          if x2 = 3 then
            (F_Mo_behindSum n E S a0 x1 M).bind fun q_11 =>
            F_Mo_readExpression_b72 n E S r20 a0 x1 q_11.1 q_11.2
          else
            (F_Mo_behindTest n E S a0 M).bind fun q_12 =>
            F_Mo_readExpression_b72 n E S r20 a0 x1 q_12.1 q_12.2
  else
    F_Mo_readExpression_b76 n E S a0 M
def F_Mo_readExpression_b20 (n : Nat) (E : zE) (S : zS) : Nat × Int32 × Int32 × zH → Option (zH) := zfix (fun r20 s => F_Mo_readExpression_L20 n E S r20 s.1 s.2.1 s.2.2.1 s.2.2.2) n
def F_Mo_readExpression_b19 (n : Nat) (E : zE) (S : zS) (a0 : Nat) (x1 : Int32) (s0 : Int32) (M : zH) : Option (zH) :=
  F_Mo_readExpression_b20 n E S (a0, x1, s0, M)
def F_Mo_readExpression (n : Nat) (E : zE) (S : zS) (a0 : Nat) (x1 : Int32) (M : zH) : Option (zH) :=
  (zpI S M a0 11 29 0).bind fun m_13 =>
  (zpI S m_13 a0 11 30 0).bind fun m_14 =>
  if x1 = 0 then
    F_Mo_readExpression_b19 n E S a0 x1 1 m_14
  else
    F_Mo_readExpression_b19 n E S a0 x1 0 m_14
theorem K_Mo_readExpression_b72 (n : Nat) (E : zE) (S : zS) (r20 : Nat × Int32 × Int32 × zH → Option (zH)) (a0 : Nat) (x1 : Int32) (s0 : Int32) (M : zH) (M' : zH) (hr20 : ∀ (a0 : Nat) (x1 : Int32) (x2 : Int32) (M : zH), r20 (a0, x1, x2, M) = some M' → zG E Y_Mo_readExpression (none, S, M') 20 [(0, .ref a0), (1, .int x1), (2, .int x2)] [] S M 0 0) (h : F_Mo_readExpression_b72 n E S r20 a0 x1 s0 M = some M') : zG E Y_Mo_readExpression (none, S, M') 72 [(0, .ref a0), (1, .int x1)] [.int s0] S M 0 0 := by
  unfold F_Mo_readExpression_b72 at h
  refine zi_istore_n [(2, .int s0), (0, .ref a0), (1, .int x1)] d_Mo_readExpression_72 (by decide) rfl ?_
  refine zi_goto (tgt := 20) d_Mo_readExpression_73 rfl ?_
  refine zi_lo [(0, .ref a0), (1, .int x1), (2, .int s0)] [1, 2, 0] rfl ?_
  exact hr20 a0 x1 s0 M h
theorem K_Mo_readExpression_b76 (n : Nat) (E : zE) (S : zS) (a0 : Nat) (M : zH) (M' : zH)  (h : F_Mo_readExpression_b76 n E S a0 M = some M') : zG E Y_Mo_readExpression (none, S, M') 76 [(0, .ref a0)] [] S M 0 0 := by
  unfold F_Mo_readExpression_b76 at h
  refine zi_aload_n 0 d_Mo_readExpression_76 rfl ?_
  refine zi_iconst 1 d_Mo_readExpression_77 rfl ?_
  obtain ⟨u_1, eu_1, h⟩ := zbind h
  obtain ⟨q_2, eq_2, h⟩ := zbind h
  refine zo_virt (k' := 0) (n' := 0) 81 [.int 1] [] [] zkd_11 (zck_s eu_1) (C_Mo_settle n E S a0 1 M q_2 eq_2) d_Mo_readExpression_78 tw_1657 tw_1654 tw_1656 ts_72 tw_13 dd_Mo_settle ⟨Nat.le_of_ble_eq_true rfl, Nat.le_of_ble_eq_true rfl, Nat.le_of_ble_eq_true rfl, Nat.le_of_ble_eq_true rfl⟩ (Nat.le_of_ble_eq_true rfl) rfl rfl rfl rfl ?_
  cases h
  exact zo_ret d_Mo_readExpression_81 (Nat.le_of_ble_eq_true rfl) (Nat.le_of_ble_eq_true rfl) rfl
theorem K_Mo_readExpression_L20 (n : Nat) (E : zE) (S : zS) (r20 : Nat × Int32 × Int32 × zH → Option (zH)) (a0 : Nat) (x1 : Int32) (x2 : Int32) (M : zH) (M' : zH) (hr20 : ∀ (a0 : Nat) (x1 : Int32) (x2 : Int32) (M : zH), r20 (a0, x1, x2, M) = some M' → zG E Y_Mo_readExpression (none, S, M') 20 [(0, .ref a0), (1, .int x1), (2, .int x2)] [] S M 0 0) (h : F_Mo_readExpression_L20 n E S r20 a0 x1 x2 M = some M') : zG E Y_Mo_readExpression (none, S, M') 20 [(0, .ref a0), (1, .int x1), (2, .int x2)] [] S M 0 0 := by
  unfold F_Mo_readExpression_L20 at h
  refine zi_aload_n 0 d_Mo_readExpression_20 rfl ?_
  obtain ⟨v_3, ev_3, h⟩ := zbind h
  refine zo_getI 24 zkd_11 19 d_Mo_readExpression_21 ev_3 rfl tw_1248 rfl ?_
  refine zi_if_ne (tgt := 76) d_Mo_readExpression_24 rfl (fun c_4 => ?_) (fun c_4 => ?_)
  · rw [if_neg c_4] at h
    refine zi_lo [(0, .ref a0)] [0] rfl ?_
    exact K_Mo_readExpression_b76 n E S a0 M M'  h
  · rw [if_pos c_4] at h
    refine zi_iload_n 2 d_Mo_readExpression_27 rfl ?_
    refine zi_iconst 4 d_Mo_readExpression_28 rfl ?_
    refine zi_icmp_eq (tgt := 76) d_Mo_readExpression_29 rfl (fun c_5 => ?_) (fun c_5 => ?_)
    · rw [if_pos c_5] at h
      refine zi_lo [(0, .ref a0)] [0] rfl ?_
      exact K_Mo_readExpression_b76 n E S a0 M M'  h
    · rw [if_neg c_5] at h
      refine zi_iload_n 2 d_Mo_readExpression_32 rfl ?_
      refine zi_if_ne (tgt := 43) d_Mo_readExpression_33 rfl (fun c_6 => ?_) (fun c_6 => ?_)
      · rw [if_neg c_6] at h
        refine zi_iload_n 2 d_Mo_readExpression_43 rfl ?_
        refine zi_iconst 1 d_Mo_readExpression_44 rfl ?_
        refine zi_icmp_ne (tgt := 55) d_Mo_readExpression_45 rfl (fun c_8 => ?_) (fun c_8 => ?_)
        · rw [if_neg c_8] at h
          refine zi_iload_n 2 d_Mo_readExpression_55 rfl ?_
          refine zi_iconst 3 d_Mo_readExpression_56 rfl ?_
          refine zi_icmp_ne (tgt := 68) d_Mo_readExpression_57 rfl (fun c_10 => ?_) (fun c_10 => ?_)
          · rw [if_neg c_10] at h
            refine zi_aload_n 0 d_Mo_readExpression_68 rfl ?_
            obtain ⟨q_12, eq_12, h⟩ := zbind h
            refine zo_virt (k' := 0) (n' := 0) 72 [] [] [.int q_12.1] zkd_11 (zgI_s ev_3).1 (C_Mo_behindTest n E S a0 M q_12.1 q_12.2 eq_12) d_Mo_readExpression_69 tw_1673 tw_1670 tw_1672 ts_75 tw_13 dd_Mo_behindTest ⟨Nat.le_of_ble_eq_true rfl, Nat.le_of_ble_eq_true rfl, Nat.le_of_ble_eq_true rfl, Nat.le_of_ble_eq_true rfl⟩ (Nat.le_of_ble_eq_true rfl) rfl rfl rfl rfl ?_
            refine zi_lo [(0, .ref a0), (1, .int x1)] [0, 1] rfl ?_
            exact K_Mo_readExpression_b72 n E S r20 a0 x1 q_12.1 q_12.2 M' hr20 h
          · rw [if_pos c_10] at h
            refine zi_aload_n 0 d_Mo_readExpression_60 rfl ?_
            refine zi_iload_n 1 d_Mo_readExpression_61 rfl ?_
            obtain ⟨q_11, eq_11, h⟩ := zbind h
            refine zo_virt (k' := 0) (n' := 0) 65 [.int x1] [] [.int q_11.1] zkd_11 (zgI_s ev_3).1 (C_Mo_behindSum n E S a0 x1 M q_11.1 q_11.2 eq_11) d_Mo_readExpression_62 tw_1650 tw_1647 tw_1649 ts_71 tw_13 dd_Mo_behindSum ⟨Nat.le_of_ble_eq_true rfl, Nat.le_of_ble_eq_true rfl, Nat.le_of_ble_eq_true rfl, Nat.le_of_ble_eq_true rfl⟩ (Nat.le_of_ble_eq_true rfl) rfl rfl rfl rfl ?_
            refine zi_goto (tgt := 72) d_Mo_readExpression_65 rfl ?_
            refine zi_lo [(0, .ref a0), (1, .int x1)] [0, 1] rfl ?_
            exact K_Mo_readExpression_b72 n E S r20 a0 x1 q_11.1 q_11.2 M' hr20 h
        · rw [if_pos c_8] at h
          refine zi_aload_n 0 d_Mo_readExpression_48 rfl ?_
          obtain ⟨q_9, eq_9, h⟩ := zbind h
          refine zo_virt (k' := 0) (n' := 0) 52 [] [] [.int q_9.1] zkd_11 (zgI_s ev_3).1 (C_Mo_readPart n E S a0 M q_9.1 q_9.2 eq_9) d_Mo_readExpression_49 tw_1624 tw_1621 tw_1623 ts_65 tw_13 dd_Mo_readPart ⟨Nat.le_of_ble_eq_true rfl, Nat.le_of_ble_eq_true rfl, Nat.le_of_ble_eq_true rfl, Nat.le_of_ble_eq_true rfl⟩ (Nat.le_of_ble_eq_true rfl) rfl rfl rfl rfl ?_
          refine zi_goto (tgt := 72) d_Mo_readExpression_52 rfl ?_
          refine zi_lo [(0, .ref a0), (1, .int x1)] [0, 1] rfl ?_
          exact K_Mo_readExpression_b72 n E S r20 a0 x1 q_9.1 q_9.2 M' hr20 h
      · rw [if_pos c_6] at h
        refine zi_aload_n 0 d_Mo_readExpression_36 rfl ?_
        obtain ⟨q_7, eq_7, h⟩ := zbind h
        refine zo_virt (k' := 0) (n' := 0) 40 [] [] [.int q_7.1] zkd_11 (zgI_s ev_3).1 (C_Mo_readPlain n E S a0 M q_7.1 q_7.2 eq_7) d_Mo_readExpression_37 tw_1607 tw_1604 tw_1606 ts_61 tw_13 dd_Mo_readPlain ⟨Nat.le_of_ble_eq_true rfl, Nat.le_of_ble_eq_true rfl, Nat.le_of_ble_eq_true rfl, Nat.le_of_ble_eq_true rfl⟩ (Nat.le_of_ble_eq_true rfl) rfl rfl rfl rfl ?_
        refine zi_goto (tgt := 72) d_Mo_readExpression_40 rfl ?_
        refine zi_lo [(0, .ref a0), (1, .int x1)] [0, 1] rfl ?_
        exact K_Mo_readExpression_b72 n E S r20 a0 x1 q_7.1 q_7.2 M' hr20 h
theorem K_Mo_readExpression_b20 (n : Nat) (E : zE) (S : zS) (a0 : Nat) (x1 : Int32) (x2 : Int32) (M : zH) (M' : zH)  (h : F_Mo_readExpression_b20 n E S (a0, x1, x2, M) = some M') : zG E Y_Mo_readExpression (none, S, M') 20 [(0, .ref a0), (1, .int x1), (2, .int x2)] [] S M 0 0 := by
  have key : ∀ (k : Nat) (a0 : Nat) (x1 : Int32) (x2 : Int32) (M : zH), zfix (fun r20 s => F_Mo_readExpression_L20 n E S r20 s.1 s.2.1 s.2.2.1 s.2.2.2) k (a0, x1, x2, M) = some M' → zG E Y_Mo_readExpression (none, S, M') 20 [(0, .ref a0), (1, .int x1), (2, .int x2)] [] S M 0 0 := by
    intro k
    induction k with
    | zero => intro a0 x1 x2 M h; cases h
    | succ k ih => intro a0 x1 x2 M h; exact K_Mo_readExpression_L20 n E S _ a0 x1 x2 M M'  (fun a0 x1 x2 M h => ih a0 x1 x2 M h) h
  exact key n a0 x1 x2 M h
theorem K_Mo_readExpression_b19 (n : Nat) (E : zE) (S : zS) (a0 : Nat) (x1 : Int32) (s0 : Int32) (M : zH) (M' : zH)  (h : F_Mo_readExpression_b19 n E S a0 x1 s0 M = some M') : zG E Y_Mo_readExpression (none, S, M') 19 [(0, .ref a0), (1, .int x1)] [.int s0] S M 0 0 := by
  unfold F_Mo_readExpression_b19 at h
  refine zi_istore_n [(2, .int s0), (0, .ref a0), (1, .int x1)] d_Mo_readExpression_19 (by decide) rfl ?_
  refine zi_lo [(0, .ref a0), (1, .int x1), (2, .int s0)] [1, 2, 0] rfl ?_
  exact K_Mo_readExpression_b20 n E S a0 x1 s0 M M'  h
theorem K_Mo_readExpression (n : Nat) (E : zE) (S : zS) (a0 : Nat) (x1 : Int32) (M : zH) (M' : zH)  (h : F_Mo_readExpression n E S a0 x1 M = some M') : zG E Y_Mo_readExpression (none, S, M') 0 [(0, .ref a0), (1, .int x1)] [] S M 0 0 := by
  unfold F_Mo_readExpression at h
  refine zi_aload_n 0 d_Mo_readExpression_0 rfl ?_
  refine zi_iconst 0 d_Mo_readExpression_1 rfl ?_
  obtain ⟨m_13, em_13, h⟩ := zbind h
  refine zo_putI 5 zkd_11 29 d_Mo_readExpression_2 em_13 rfl rfl rfl tw_1258 rfl ?_
  refine zi_aload_n 0 d_Mo_readExpression_5 rfl ?_
  refine zi_iconst 0 d_Mo_readExpression_6 rfl ?_
  obtain ⟨m_14, em_14, h⟩ := zbind h
  refine zo_putI 10 zkd_11 30 d_Mo_readExpression_7 em_14 rfl rfl rfl tw_1259 rfl ?_
  refine zi_iload_n 1 d_Mo_readExpression_10 rfl ?_
  refine zi_if_eq (tgt := 18) d_Mo_readExpression_11 rfl (fun c_15 => ?_) (fun c_15 => ?_)
  · rw [if_pos c_15] at h
    refine zi_iconst 1 d_Mo_readExpression_18 rfl ?_
    refine zi_lo [(0, .ref a0), (1, .int x1)] [0, 1] rfl ?_
    exact K_Mo_readExpression_b19 n E S a0 x1 1 m_14 M'  h
  · rw [if_neg c_15] at h
    refine zi_iconst 0 d_Mo_readExpression_14 rfl ?_
    refine zi_goto (tgt := 19) d_Mo_readExpression_15 rfl ?_
    refine zi_lo [(0, .ref a0), (1, .int x1)] [0, 1] rfl ?_
    exact K_Mo_readExpression_b19 n E S a0 x1 0 m_14 M'  h
theorem C_Mo_readExpression (n : Nat) (E : zE) (S : zS) (a0 : Nat) (x1 : Int32) (M : zH) (M' : zH) (h : F_Mo_readExpression n E S a0 x1 M = some M') : zC E Y_Mo_readExpression [.ref a0, .int x1] S M (none, S, M') :=
  zC.of (Or.inl (show plainName "NightColanderModel" = true by decide)) (Nat.le_of_ble_eq_true rfl) (trivial) (K_Mo_readExpression n E S a0 x1 M M' h)
theorem d_Mo_readLaw_0 : decode (yB Y_Mo_readLaw) 0 = .ok (.iconst (-1), 1) := by decide +kernel
theorem d_Mo_readLaw_1 : decode (yB Y_Mo_readLaw) 1 = .ok (.istore_n 1, 1) := by decide +kernel
theorem d_Mo_readLaw_2 : decode (yB Y_Mo_readLaw) 2 = .ok (.iconst 0, 1) := by decide +kernel
theorem d_Mo_readLaw_3 : decode (yB Y_Mo_readLaw) 3 = .ok (.istore_n 2, 1) := by decide +kernel
theorem d_Mo_readLaw_4 : decode (yB Y_Mo_readLaw) 4 = .ok (.iload_n 2, 1) := by decide +kernel
theorem d_Mo_readLaw_5 : decode (yB Y_Mo_readLaw) 5 = .ok (.iconst 4, 1) := by decide +kernel
theorem d_Mo_readLaw_6 : decode (yB Y_Mo_readLaw) 6 = .ok (.if_icmp .ge 28, 3) := by decide +kernel
theorem d_Mo_readLaw_9 : decode (yB Y_Mo_readLaw) 9 = .ok (.aload_n 0, 1) := by decide +kernel
theorem d_Mo_readLaw_10 : decode (yB Y_Mo_readLaw) 10 = .ok (.aload_n 0, 1) := by decide +kernel
theorem d_Mo_readLaw_11 : decode (yB Y_Mo_readLaw) 11 = .ok (.getfield 100, 3) := by decide +kernel
theorem d_Mo_readLaw_14 : decode (yB Y_Mo_readLaw) 14 = .ok (.iload_n 2, 1) := by decide +kernel
theorem d_Mo_readLaw_15 : decode (yB Y_Mo_readLaw) 15 = .ok (.laload, 1) := by decide +kernel
theorem d_Mo_readLaw_16 : decode (yB Y_Mo_readLaw) 16 = .ok (.invokevirtual 312, 3) := by decide +kernel
theorem d_Mo_readLaw_19 : decode (yB Y_Mo_readLaw) 19 = .ok (.ifCond .eq 7, 3) := by decide +kernel
theorem d_Mo_readLaw_22 : decode (yB Y_Mo_readLaw) 22 = .ok (.iload_n 2, 1) := by decide +kernel
theorem d_Mo_readLaw_23 : decode (yB Y_Mo_readLaw) 23 = .ok (.goto 4, 3) := by decide +kernel
theorem d_Mo_readLaw_26 : decode (yB Y_Mo_readLaw) 26 = .ok (.iload_n 1, 1) := by decide +kernel
theorem d_Mo_readLaw_27 : decode (yB Y_Mo_readLaw) 27 = .ok (.istore_n 1, 1) := by decide +kernel
theorem d_Mo_readLaw_28 : decode (yB Y_Mo_readLaw) 28 = .ok (.iinc 2 1, 3) := by decide +kernel
theorem d_Mo_readLaw_31 : decode (yB Y_Mo_readLaw) 31 = .ok (.goto (-27), 3) := by decide +kernel
theorem d_Mo_readLaw_34 : decode (yB Y_Mo_readLaw) 34 = .ok (.aload_n 0, 1) := by decide +kernel
theorem d_Mo_readLaw_35 : decode (yB Y_Mo_readLaw) 35 = .ok (.iload_n 1, 1) := by decide +kernel
theorem d_Mo_readLaw_36 : decode (yB Y_Mo_readLaw) 36 = .ok (.iconst (-1), 1) := by decide +kernel
theorem d_Mo_readLaw_37 : decode (yB Y_Mo_readLaw) 37 = .ok (.if_icmp .eq 16, 3) := by decide +kernel
theorem d_Mo_readLaw_40 : decode (yB Y_Mo_readLaw) 40 = .ok (.aload_n 0, 1) := by decide +kernel
theorem d_Mo_readLaw_41 : decode (yB Y_Mo_readLaw) 41 = .ok (.getfield 385, 3) := by decide +kernel
theorem d_Mo_readLaw_44 : decode (yB Y_Mo_readLaw) 44 = .ok (.bipush 12, 2) := by decide +kernel
theorem d_Mo_readLaw_46 : decode (yB Y_Mo_readLaw) 46 = .ok (.if_icmp .ge 7, 3) := by decide +kernel
theorem d_Mo_readLaw_49 : decode (yB Y_Mo_readLaw) 49 = .ok (.iconst 1, 1) := by decide +kernel
theorem d_Mo_readLaw_50 : decode (yB Y_Mo_readLaw) 50 = .ok (.goto 4, 3) := by decide +kernel
theorem d_Mo_readLaw_53 : decode (yB Y_Mo_readLaw) 53 = .ok (.iconst 0, 1) := by decide +kernel
theorem d_Mo_readLaw_54 : decode (yB Y_Mo_readLaw) 54 = .ok (.invokevirtual 287, 3) := by decide +kernel
theorem d_Mo_readLaw_57 : decode (yB Y_Mo_readLaw) 57 = .ok (.aload_n 0, 1) := by decide +kernel
theorem d_Mo_readLaw_58 : decode (yB Y_Mo_readLaw) 58 = .ok (.getfield 256, 3) := by decide +kernel
theorem d_Mo_readLaw_61 : decode (yB Y_Mo_readLaw) 61 = .ok (.ifCond .eq 4, 3) := by decide +kernel
theorem d_Mo_readLaw_64 : decode (yB Y_Mo_readLaw) 64 = .ok (.return_, 1) := by decide +kernel
theorem d_Mo_readLaw_65 : decode (yB Y_Mo_readLaw) 65 = .ok (.bipush 8, 2) := by decide +kernel
theorem d_Mo_readLaw_67 : decode (yB Y_Mo_readLaw) 67 = .ok (.aload_n 0, 1) := by decide +kernel
theorem d_Mo_readLaw_68 : decode (yB Y_Mo_readLaw) 68 = .ok (.getfield 385, 3) := by decide +kernel
theorem d_Mo_readLaw_71 : decode (yB Y_Mo_readLaw) 71 = .ok (.imul, 1) := by decide +kernel
theorem d_Mo_readLaw_72 : decode (yB Y_Mo_readLaw) 72 = .ok (.istore_n 2, 1) := by decide +kernel
theorem d_Mo_readLaw_73 : decode (yB Y_Mo_readLaw) 73 = .ok (.iconst 0, 1) := by decide +kernel
theorem d_Mo_readLaw_74 : decode (yB Y_Mo_readLaw) 74 = .ok (.istore_n 3, 1) := by decide +kernel
theorem d_Mo_readLaw_75 : decode (yB Y_Mo_readLaw) 75 = .ok (.iload_n 3, 1) := by decide +kernel
theorem d_Mo_readLaw_76 : decode (yB Y_Mo_readLaw) 76 = .ok (.bipush 8, 2) := by decide +kernel
theorem d_Mo_readLaw_78 : decode (yB Y_Mo_readLaw) 78 = .ok (.if_icmp .ge 18, 3) := by decide +kernel
theorem d_Mo_readLaw_81 : decode (yB Y_Mo_readLaw) 81 = .ok (.aload_n 0, 1) := by decide +kernel
theorem d_Mo_readLaw_82 : decode (yB Y_Mo_readLaw) 82 = .ok (.getfield 42, 3) := by decide +kernel
theorem d_Mo_readLaw_85 : decode (yB Y_Mo_readLaw) 85 = .ok (.iload_n 2, 1) := by decide +kernel
theorem d_Mo_readLaw_86 : decode (yB Y_Mo_readLaw) 86 = .ok (.iload_n 3, 1) := by decide +kernel
theorem d_Mo_readLaw_87 : decode (yB Y_Mo_readLaw) 87 = .ok (.iadd, 1) := by decide +kernel
theorem d_Mo_readLaw_88 : decode (yB Y_Mo_readLaw) 88 = .ok (.iconst 0, 1) := by decide +kernel
theorem d_Mo_readLaw_89 : decode (yB Y_Mo_readLaw) 89 = .ok (.iastore, 1) := by decide +kernel
theorem d_Mo_readLaw_90 : decode (yB Y_Mo_readLaw) 90 = .ok (.iinc 3 1, 3) := by decide +kernel
theorem d_Mo_readLaw_93 : decode (yB Y_Mo_readLaw) 93 = .ok (.goto (-18), 3) := by decide +kernel
theorem d_Mo_readLaw_96 : decode (yB Y_Mo_readLaw) 96 = .ok (.aload_n 0, 1) := by decide +kernel
theorem d_Mo_readLaw_97 : decode (yB Y_Mo_readLaw) 97 = .ok (.getfield 42, 3) := by decide +kernel
theorem d_Mo_readLaw_100 : decode (yB Y_Mo_readLaw) 100 = .ok (.iload_n 2, 1) := by decide +kernel
theorem d_Mo_readLaw_101 : decode (yB Y_Mo_readLaw) 101 = .ok (.iload_n 1, 1) := by decide +kernel
theorem d_Mo_readLaw_102 : decode (yB Y_Mo_readLaw) 102 = .ok (.iastore, 1) := by decide +kernel
theorem d_Mo_readLaw_103 : decode (yB Y_Mo_readLaw) 103 = .ok (.aload_n 0, 1) := by decide +kernel
theorem d_Mo_readLaw_104 : decode (yB Y_Mo_readLaw) 104 = .ok (.dup, 1) := by decide +kernel
theorem d_Mo_readLaw_105 : decode (yB Y_Mo_readLaw) 105 = .ok (.getfield 385, 3) := by decide +kernel
theorem d_Mo_readLaw_108 : decode (yB Y_Mo_readLaw) 108 = .ok (.iconst 1, 1) := by decide +kernel
theorem d_Mo_readLaw_109 : decode (yB Y_Mo_readLaw) 109 = .ok (.iadd, 1) := by decide +kernel
theorem d_Mo_readLaw_110 : decode (yB Y_Mo_readLaw) 110 = .ok (.putfield 385, 3) := by decide +kernel
theorem d_Mo_readLaw_113 : decode (yB Y_Mo_readLaw) 113 = .ok (.aload_n 0, 1) := by decide +kernel
theorem d_Mo_readLaw_114 : decode (yB Y_Mo_readLaw) 114 = .ok (.getfield 42, 3) := by decide +kernel
theorem d_Mo_readLaw_117 : decode (yB Y_Mo_readLaw) 117 = .ok (.iload_n 2, 1) := by decide +kernel
theorem d_Mo_readLaw_118 : decode (yB Y_Mo_readLaw) 118 = .ok (.iconst 3, 1) := by decide +kernel
theorem d_Mo_readLaw_119 : decode (yB Y_Mo_readLaw) 119 = .ok (.iadd, 1) := by decide +kernel
theorem d_Mo_readLaw_120 : decode (yB Y_Mo_readLaw) 120 = .ok (.aload_n 0, 1) := by decide +kernel
theorem d_Mo_readLaw_121 : decode (yB Y_Mo_readLaw) 121 = .ok (.getfield 291, 3) := by decide +kernel
theorem d_Mo_readLaw_124 : decode (yB Y_Mo_readLaw) 124 = .ok (.iastore, 1) := by decide +kernel
theorem d_Mo_readLaw_125 : decode (yB Y_Mo_readLaw) 125 = .ok (.iload_n 1, 1) := by decide +kernel
theorem d_Mo_readLaw_126 : decode (yB Y_Mo_readLaw) 126 = .ok (.iconst 3, 1) := by decide +kernel
theorem d_Mo_readLaw_127 : decode (yB Y_Mo_readLaw) 127 = .ok (.if_icmp .eq 8, 3) := by decide +kernel
theorem d_Mo_readLaw_130 : decode (yB Y_Mo_readLaw) 130 = .ok (.aload_n 0, 1) := by decide +kernel
theorem d_Mo_readLaw_131 : decode (yB Y_Mo_readLaw) 131 = .ok (.iconst 0, 1) := by decide +kernel
theorem d_Mo_readLaw_132 : decode (yB Y_Mo_readLaw) 132 = .ok (.invokevirtual 388, 3) := by decide +kernel
theorem d_Mo_readLaw_135 : decode (yB Y_Mo_readLaw) 135 = .ok (.aload_n 0, 1) := by decide +kernel
theorem d_Mo_readLaw_136 : decode (yB Y_Mo_readLaw) 136 = .ok (.getfield 42, 3) := by decide +kernel
theorem d_Mo_readLaw_139 : decode (yB Y_Mo_readLaw) 139 = .ok (.iload_n 2, 1) := by decide +kernel
theorem d_Mo_readLaw_140 : decode (yB Y_Mo_readLaw) 140 = .ok (.iconst 4, 1) := by decide +kernel
theorem d_Mo_readLaw_141 : decode (yB Y_Mo_readLaw) 141 = .ok (.iadd, 1) := by decide +kernel
theorem d_Mo_readLaw_142 : decode (yB Y_Mo_readLaw) 142 = .ok (.aload_n 0, 1) := by decide +kernel
theorem d_Mo_readLaw_143 : decode (yB Y_Mo_readLaw) 143 = .ok (.getfield 291, 3) := by decide +kernel
theorem d_Mo_readLaw_146 : decode (yB Y_Mo_readLaw) 146 = .ok (.iastore, 1) := by decide +kernel
theorem d_Mo_readLaw_147 : decode (yB Y_Mo_readLaw) 147 = .ok (.aload_n 0, 1) := by decide +kernel
theorem d_Mo_readLaw_148 : decode (yB Y_Mo_readLaw) 148 = .ok (.getfield 42, 3) := by decide +kernel
theorem d_Mo_readLaw_151 : decode (yB Y_Mo_readLaw) 151 = .ok (.iload_n 2, 1) := by decide +kernel
theorem d_Mo_readLaw_152 : decode (yB Y_Mo_readLaw) 152 = .ok (.iconst 5, 1) := by decide +kernel
theorem d_Mo_readLaw_153 : decode (yB Y_Mo_readLaw) 153 = .ok (.iadd, 1) := by decide +kernel
theorem d_Mo_readLaw_154 : decode (yB Y_Mo_readLaw) 154 = .ok (.aload_n 0, 1) := by decide +kernel
theorem d_Mo_readLaw_155 : decode (yB Y_Mo_readLaw) 155 = .ok (.getfield 291, 3) := by decide +kernel
theorem d_Mo_readLaw_158 : decode (yB Y_Mo_readLaw) 158 = .ok (.iastore, 1) := by decide +kernel
theorem d_Mo_readLaw_159 : decode (yB Y_Mo_readLaw) 159 = .ok (.aload_n 0, 1) := by decide +kernel
theorem d_Mo_readLaw_160 : decode (yB Y_Mo_readLaw) 160 = .ok (.getfield 256, 3) := by decide +kernel
theorem d_Mo_readLaw_163 : decode (yB Y_Mo_readLaw) 163 = .ok (.ifCond .ne 22, 3) := by decide +kernel
theorem d_Mo_readLaw_166 : decode (yB Y_Mo_readLaw) 166 = .ok (.aload_n 0, 1) := by decide +kernel
theorem d_Mo_readLaw_167 : decode (yB Y_Mo_readLaw) 167 = .ok (.ldc2_w 391, 3) := by decide +kernel
theorem d_Mo_readLaw_170 : decode (yB Y_Mo_readLaw) 170 = .ok (.invokevirtual 312, 3) := by decide +kernel
theorem d_Mo_readLaw_173 : decode (yB Y_Mo_readLaw) 173 = .ok (.ifCond .eq 12, 3) := by decide +kernel
theorem d_Mo_readLaw_176 : decode (yB Y_Mo_readLaw) 176 = .ok (.aload_n 0, 1) := by decide +kernel
theorem d_Mo_readLaw_177 : decode (yB Y_Mo_readLaw) 177 = .ok (.invokevirtual 260, 3) := by decide +kernel
theorem d_Mo_readLaw_180 : decode (yB Y_Mo_readLaw) 180 = .ok (.aload_n 0, 1) := by decide +kernel
theorem d_Mo_readLaw_181 : decode (yB Y_Mo_readLaw) 181 = .ok (.iconst 1, 1) := by decide +kernel
theorem d_Mo_readLaw_182 : decode (yB Y_Mo_readLaw) 182 = .ok (.invokevirtual 388, 3) := by decide +kernel
theorem d_Mo_readLaw_185 : decode (yB Y_Mo_readLaw) 185 = .ok (.aload_n 0, 1) := by decide +kernel
theorem d_Mo_readLaw_186 : decode (yB Y_Mo_readLaw) 186 = .ok (.getfield 42, 3) := by decide +kernel
theorem d_Mo_readLaw_189 : decode (yB Y_Mo_readLaw) 189 = .ok (.iload_n 2, 1) := by decide +kernel
theorem d_Mo_readLaw_190 : decode (yB Y_Mo_readLaw) 190 = .ok (.bipush 6, 2) := by decide +kernel
theorem d_Mo_readLaw_192 : decode (yB Y_Mo_readLaw) 192 = .ok (.iadd, 1) := by decide +kernel
theorem d_Mo_readLaw_193 : decode (yB Y_Mo_readLaw) 193 = .ok (.aload_n 0, 1) := by decide +kernel
theorem d_Mo_readLaw_194 : decode (yB Y_Mo_readLaw) 194 = .ok (.getfield 291, 3) := by decide +kernel
theorem d_Mo_readLaw_197 : decode (yB Y_Mo_readLaw) 197 = .ok (.iastore, 1) := by decide +kernel
theorem d_Mo_readLaw_198 : decode (yB Y_Mo_readLaw) 198 = .ok (.return_, 1) := by decide +kernel
def F_Mo_readLaw_b27 (n : Nat) (E : zE) (S : zS) (r4 : Nat × Int32 × Int32 × zH → Option (zH)) (a0 : Nat) (x2 : Int32) (s0 : Int32) (M : zH) : Option (zH) :=
  r4 (a0, s0, x2 + 1, M)
def F_Mo_readLaw_b185 (n : Nat) (E : zE) (S : zS) (a0 : Nat) (x2 : Int32) (M : zH) : Option (zH) :=
  (zgR S a0 11 22).bind fun b_1 =>
  (zgI S M a0 11 23).bind fun v_2 =>
  (zstI S M b_1 (x2 + 6) v_2).bind fun m_3 =>
  some (m_3)
def F_Mo_readLaw_b135 (n : Nat) (E : zE) (S : zS) (a0 : Nat) (x2 : Int32) (M : zH) : Option (zH) :=
  (zgR S a0 11 22).bind fun b_4 =>
  (zgI S M a0 11 23).bind fun v_5 =>
  (zstI S M b_4 (x2 + 4) v_5).bind fun m_6 =>
  (zgI S m_6 a0 11 23).bind fun v_7 =>
  (zstI S m_6 b_4 (x2 + 5) v_7).bind fun m_8 =>
  (zgI S m_8 a0 11 19).bind fun v_9 =>
  if v_9 = 0 then
    (F_Mo_isWord n E S a0 294 m_8).bind fun q_11 =>
    if q_11.1 = true then
      (F_Mo_next n E S a0 q_11.2).bind fun q_13 =>
      (F_Mo_readExpression n E S a0 1 q_13).bind fun q_14 =>
      F_Mo_readLaw_b185 n E S a0 x2 q_14
    else
      F_Mo_readLaw_b185 n E S a0 x2 q_11.2
  else
    F_Mo_readLaw_b185 n E S a0 x2 m_8
def F_Mo_readLaw_L75 (n : Nat) (E : zE) (S : zS) (r75 : Nat × Int32 × Int32 × Int32 × zH → Option (zH)) (a0 : Nat) (x1 : Int32) (x2 : Int32) (x3 : Int32) (M : zH) : Option (zH) :=
  if 8 ≤ x3 then
    (zgR S a0 11 22).bind fun b_16 =>
    (zstI S M b_16 x2 x1).bind fun m_17 =>
    (zgI S m_17 a0 11 21).bind fun v_18 =>
    (zpI S m_17 a0 11 21 (v_18 + 1)).bind fun m_19 =>
    (zgI S m_19 a0 11 23).bind fun v_20 =>
    (zstI S m_19 b_16 (x2 + 3) v_20).bind fun m_21 =>
    if x1 = 3 then
      F_Mo_readLaw_b135 n E S a0 x2 m_21
    else
      (F_Mo_readExpression n E S a0 0 m_21).bind fun q_23 =>
      F_Mo_readLaw_b135 n E S a0 x2 q_23
  else
    (zgR S a0 11 22).bind fun b_24 =>
    (zstI S M b_24 (x2 + x3) 0).bind fun m_25 =>
    r75 (a0, x1, x2, x3 + 1, m_25)
def F_Mo_readLaw_b75 (n : Nat) (E : zE) (S : zS) : Nat × Int32 × Int32 × Int32 × zH → Option (zH) := zfix (fun r75 s => F_Mo_readLaw_L75 n E S r75 s.1 s.2.1 s.2.2.1 s.2.2.2.1 s.2.2.2.2) n
def F_Mo_readLaw_b54 (n : Nat) (E : zE) (S : zS) (a0 : Nat) (x1 : Int32) (s0 : Int32) (u1 : Nat) (M : zH) : Option (zH) :=
  (zck S u1 11).bind fun u_26 =>
  (F_Mo_must n E S u1 s0 M).bind fun q_27 =>
  (zgI S q_27 a0 11 19).bind fun v_28 =>
  if v_28 = 0 then
    (zgI S q_27 a0 11 21).bind fun v_30 =>
    F_Mo_readLaw_b75 n E S (a0, x1, 8 * v_30, 0, q_27)
  else
    some (q_27)
def F_Mo_readLaw_b53 (n : Nat) (E : zE) (S : zS) (a0 : Nat) (x1 : Int32) (u0 : Nat) (M : zH) : Option (zH) :=
  F_Mo_readLaw_b54 n E S a0 x1 0 u0 M
def F_Mo_readLaw_L4 (n : Nat) (E : zE) (S : zS) (r4 : Nat × Int32 × Int32 × zH → Option (zH)) (a0 : Nat) (x1 : Int32) (x2 : Int32) (M : zH) : Option (zH) :=
  if 4 ≤ x2 then
    if x1 = (-1) then
      F_Mo_readLaw_b53 n E S a0 x1 a0 M
    else
      (zgI S M a0 11 21).bind fun v_33 =>
      if 12 ≤ v_33 then
        F_Mo_readLaw_b53 n E S a0 x1 a0 M
      else
        F_Mo_readLaw_b54 n E S a0 x1 1 a0 M
  else
    (zgR S a0 11 33).bind fun b_35 =>
    (zldJ S M b_35 x2).bind fun v_36 =>
    (F_Mo_isWord n E S a0 v_36 M).bind fun q_37 =>
    if q_37.1 = true then
      F_Mo_readLaw_b27 n E S r4 a0 x2 x2 q_37.2
    else
      F_Mo_readLaw_b27 n E S r4 a0 x2 x1 q_37.2
def F_Mo_readLaw_b4 (n : Nat) (E : zE) (S : zS) : Nat × Int32 × Int32 × zH → Option (zH) := zfix (fun r4 s => F_Mo_readLaw_L4 n E S r4 s.1 s.2.1 s.2.2.1 s.2.2.2) n
def F_Mo_readLaw (n : Nat) (E : zE) (S : zS) (a0 : Nat) (M : zH) : Option (zH) :=
  F_Mo_readLaw_b4 n E S (a0, (-1), 0, M)
theorem K_Mo_readLaw_b27 (n : Nat) (E : zE) (S : zS) (r4 : Nat × Int32 × Int32 × zH → Option (zH)) (a0 : Nat) (x2 : Int32) (s0 : Int32) (M : zH) (M' : zH) (hr4 : ∀ (a0 : Nat) (x1 : Int32) (x2 : Int32) (M : zH), r4 (a0, x1, x2, M) = some M' → zG E Y_Mo_readLaw (none, S, M') 4 [(0, .ref a0), (1, .int x1), (2, .int x2)] [] S M 0 0) (h : F_Mo_readLaw_b27 n E S r4 a0 x2 s0 M = some M') : zG E Y_Mo_readLaw (none, S, M') 27 [(0, .ref a0), (2, .int x2)] [.int s0] S M 0 0 := by
  unfold F_Mo_readLaw_b27 at h
  refine zi_istore_n [(1, .int s0), (0, .ref a0), (2, .int x2)] d_Mo_readLaw_27 (by decide) rfl ?_
  refine zi_iinc 2 (x2 + 1) [(2, .int (x2 + 1)), (1, .int s0), (0, .ref a0)] d_Mo_readLaw_28 rfl rfl (by decide) rfl ?_
  refine zi_goto (tgt := 4) d_Mo_readLaw_31 rfl ?_
  refine zi_lo [(0, .ref a0), (1, .int s0), (2, .int (x2 + 1))] [2, 1, 0] rfl ?_
  exact hr4 a0 s0 (x2 + 1) M h
theorem K_Mo_readLaw_b185 (n : Nat) (E : zE) (S : zS) (a0 : Nat) (x2 : Int32) (M : zH) (M' : zH)  (h : F_Mo_readLaw_b185 n E S a0 x2 M = some M') : zG E Y_Mo_readLaw (none, S, M') 185 [(0, .ref a0), (2, .int x2)] [] S M 0 0 := by
  unfold F_Mo_readLaw_b185 at h
  refine zi_aload_n 0 d_Mo_readLaw_185 rfl ?_
  obtain ⟨b_1, eb_1, h⟩ := zbind h
  refine zo_getR 189 zkd_11 22 d_Mo_readLaw_186 eb_1 rfl tw_1251 rfl ?_
  refine zi_iload_n 1 d_Mo_readLaw_189 rfl ?_
  refine zi_bipush 6 d_Mo_readLaw_190 rfl ?_
  refine zi_iadd d_Mo_readLaw_192 ?_
  refine zi_aload_n 0 d_Mo_readLaw_193 rfl ?_
  obtain ⟨v_2, ev_2, h⟩ := zbind h
  refine zo_getI 197 zkd_11 23 d_Mo_readLaw_194 ev_2 rfl tw_1252 rfl ?_
  obtain ⟨m_3, em_3, h⟩ := zbind h
  refine zo_iast 198 d_Mo_readLaw_197 em_3 rfl ?_
  cases h
  exact zo_ret d_Mo_readLaw_198 (Nat.le_of_ble_eq_true rfl) (Nat.le_of_ble_eq_true rfl) rfl
theorem K_Mo_readLaw_b135 (n : Nat) (E : zE) (S : zS) (a0 : Nat) (x2 : Int32) (M : zH) (M' : zH)  (h : F_Mo_readLaw_b135 n E S a0 x2 M = some M') : zG E Y_Mo_readLaw (none, S, M') 135 [(0, .ref a0), (2, .int x2)] [] S M 0 0 := by
  unfold F_Mo_readLaw_b135 at h
  refine zi_aload_n 0 d_Mo_readLaw_135 rfl ?_
  obtain ⟨b_4, eb_4, h⟩ := zbind h
  refine zo_getR 139 zkd_11 22 d_Mo_readLaw_136 eb_4 rfl tw_1251 rfl ?_
  refine zi_iload_n 1 d_Mo_readLaw_139 rfl ?_
  refine zi_iconst 4 d_Mo_readLaw_140 rfl ?_
  refine zi_iadd d_Mo_readLaw_141 ?_
  refine zi_aload_n 0 d_Mo_readLaw_142 rfl ?_
  obtain ⟨v_5, ev_5, h⟩ := zbind h
  refine zo_getI 146 zkd_11 23 d_Mo_readLaw_143 ev_5 rfl tw_1252 rfl ?_
  obtain ⟨m_6, em_6, h⟩ := zbind h
  refine zo_iast 147 d_Mo_readLaw_146 em_6 rfl ?_
  refine zi_aload_n 0 d_Mo_readLaw_147 rfl ?_
  refine zo_getR 151 zkd_11 22 d_Mo_readLaw_148 eb_4 rfl tw_1251 rfl ?_
  refine zi_iload_n 1 d_Mo_readLaw_151 rfl ?_
  refine zi_iconst 5 d_Mo_readLaw_152 rfl ?_
  refine zi_iadd d_Mo_readLaw_153 ?_
  refine zi_aload_n 0 d_Mo_readLaw_154 rfl ?_
  obtain ⟨v_7, ev_7, h⟩ := zbind h
  refine zo_getI 158 zkd_11 23 d_Mo_readLaw_155 ev_7 rfl tw_1252 rfl ?_
  obtain ⟨m_8, em_8, h⟩ := zbind h
  refine zo_iast 159 d_Mo_readLaw_158 em_8 rfl ?_
  refine zi_aload_n 0 d_Mo_readLaw_159 rfl ?_
  obtain ⟨v_9, ev_9, h⟩ := zbind h
  refine zo_getI 163 zkd_11 19 d_Mo_readLaw_160 ev_9 rfl tw_1248 rfl ?_
  refine zi_if_ne (tgt := 185) d_Mo_readLaw_163 rfl (fun c_10 => ?_) (fun c_10 => ?_)
  · rw [if_neg c_10] at h
    refine zi_lo [(0, .ref a0), (2, .int x2)] [0, 1] rfl ?_
    exact K_Mo_readLaw_b185 n E S a0 x2 m_8 M'  h
  · rw [if_pos c_10] at h
    refine zi_aload_n 0 d_Mo_readLaw_166 rfl ?_
    refine zi_ldc2 d_Mo_readLaw_167 tw_1676 ?_
    obtain ⟨q_11, eq_11, h⟩ := zbind h
    refine zo_virt (k' := 0) (n' := 0) 173 [.long 294] [] [.int (bI q_11.1)] zkd_11 (zgR_s eb_4).1 (C_Mo_isWord n E S a0 294 m_8 q_11.1 q_11.2 eq_11) d_Mo_readLaw_170 tw_1595 tw_1592 tw_1594 ts_58 tw_13 dd_Mo_isWord ⟨Nat.le_of_ble_eq_true rfl, Nat.le_of_ble_eq_true rfl, Nat.le_of_ble_eq_true rfl, Nat.le_of_ble_eq_true rfl⟩ (Nat.le_of_ble_eq_true rfl) rfl rfl rfl rfl ?_
    refine zo_ifeqB d_Mo_readLaw_173 rfl 176 rfl (fun c_12 => ?_) (fun c_12 => ?_)
    · rw [if_neg c_12] at h
      refine zi_lo [(0, .ref a0), (2, .int x2)] [0, 1] rfl ?_
      exact K_Mo_readLaw_b185 n E S a0 x2 q_11.2 M'  h
    · rw [if_pos c_12] at h
      refine zi_aload_n 0 d_Mo_readLaw_176 rfl ?_
      obtain ⟨q_13, eq_13, h⟩ := zbind h
      refine zo_virt (k' := 0) (n' := 0) 180 [] [] [] zkd_11 (zgR_s eb_4).1 (C_Mo_next n E S a0 q_11.2 q_13 eq_13) d_Mo_readLaw_177 tw_1577 tw_1574 tw_1576 ts_56 tw_13 dd_Mo_next ⟨Nat.le_of_ble_eq_true rfl, Nat.le_of_ble_eq_true rfl, Nat.le_of_ble_eq_true rfl, Nat.le_of_ble_eq_true rfl⟩ (Nat.le_of_ble_eq_true rfl) rfl rfl rfl rfl ?_
      refine zi_aload_n 0 d_Mo_readLaw_180 rfl ?_
      refine zi_iconst 1 d_Mo_readLaw_181 rfl ?_
      obtain ⟨q_14, eq_14, h⟩ := zbind h
      refine zo_virt (k' := 0) (n' := 0) 185 [.int 1] [] [] zkd_11 (zgR_s eb_4).1 (C_Mo_readExpression n E S a0 1 q_13 q_14 eq_14) d_Mo_readLaw_182 tw_1603 tw_1600 tw_1602 ts_60 tw_13 dd_Mo_readExpression ⟨Nat.le_of_ble_eq_true rfl, Nat.le_of_ble_eq_true rfl, Nat.le_of_ble_eq_true rfl, Nat.le_of_ble_eq_true rfl⟩ (Nat.le_of_ble_eq_true rfl) rfl rfl rfl rfl ?_
      refine zi_lo [(0, .ref a0), (2, .int x2)] [0, 1] rfl ?_
      exact K_Mo_readLaw_b185 n E S a0 x2 q_14 M'  h
theorem K_Mo_readLaw_L75 (n : Nat) (E : zE) (S : zS) (r75 : Nat × Int32 × Int32 × Int32 × zH → Option (zH)) (a0 : Nat) (x1 : Int32) (x2 : Int32) (x3 : Int32) (M : zH) (M' : zH) (hr75 : ∀ (a0 : Nat) (x1 : Int32) (x2 : Int32) (x3 : Int32) (M : zH), r75 (a0, x1, x2, x3, M) = some M' → zG E Y_Mo_readLaw (none, S, M') 75 [(0, .ref a0), (1, .int x1), (2, .int x2), (3, .int x3)] [] S M 0 0) (h : F_Mo_readLaw_L75 n E S r75 a0 x1 x2 x3 M = some M') : zG E Y_Mo_readLaw (none, S, M') 75 [(0, .ref a0), (1, .int x1), (2, .int x2), (3, .int x3)] [] S M 0 0 := by
  unfold F_Mo_readLaw_L75 at h
  refine zi_iload_n 3 d_Mo_readLaw_75 rfl ?_
  refine zi_bipush 8 d_Mo_readLaw_76 rfl ?_
  refine zi_icmp_ge (tgt := 96) d_Mo_readLaw_78 rfl (fun c_15 => ?_) (fun c_15 => ?_)
  · rw [if_pos c_15] at h
    refine zi_aload_n 0 d_Mo_readLaw_96 rfl ?_
    obtain ⟨b_16, eb_16, h⟩ := zbind h
    refine zo_getR 100 zkd_11 22 d_Mo_readLaw_97 eb_16 rfl tw_1251 rfl ?_
    refine zi_iload_n 2 d_Mo_readLaw_100 rfl ?_
    refine zi_iload_n 1 d_Mo_readLaw_101 rfl ?_
    obtain ⟨m_17, em_17, h⟩ := zbind h
    refine zo_iast 103 d_Mo_readLaw_102 em_17 rfl ?_
    refine zi_aload_n 0 d_Mo_readLaw_103 rfl ?_
    refine zi_dup d_Mo_readLaw_104 rfl ?_
    obtain ⟨v_18, ev_18, h⟩ := zbind h
    refine zo_getI 108 zkd_11 21 d_Mo_readLaw_105 ev_18 rfl tw_1250 rfl ?_
    refine zi_iconst 1 d_Mo_readLaw_108 rfl ?_
    refine zi_iadd d_Mo_readLaw_109 ?_
    obtain ⟨m_19, em_19, h⟩ := zbind h
    refine zo_putI 113 zkd_11 21 d_Mo_readLaw_110 em_19 rfl rfl rfl tw_1250 rfl ?_
    refine zi_aload_n 0 d_Mo_readLaw_113 rfl ?_
    refine zo_getR 117 zkd_11 22 d_Mo_readLaw_114 eb_16 rfl tw_1251 rfl ?_
    refine zi_iload_n 2 d_Mo_readLaw_117 rfl ?_
    refine zi_iconst 3 d_Mo_readLaw_118 rfl ?_
    refine zi_iadd d_Mo_readLaw_119 ?_
    refine zi_aload_n 0 d_Mo_readLaw_120 rfl ?_
    obtain ⟨v_20, ev_20, h⟩ := zbind h
    refine zo_getI 124 zkd_11 23 d_Mo_readLaw_121 ev_20 rfl tw_1252 rfl ?_
    obtain ⟨m_21, em_21, h⟩ := zbind h
    refine zo_iast 125 d_Mo_readLaw_124 em_21 rfl ?_
    refine zi_iload_n 1 d_Mo_readLaw_125 rfl ?_
    refine zi_iconst 3 d_Mo_readLaw_126 rfl ?_
    refine zi_icmp_eq (tgt := 135) d_Mo_readLaw_127 rfl (fun c_22 => ?_) (fun c_22 => ?_)
    · rw [if_pos c_22] at h
      refine zi_lo [(0, .ref a0), (2, .int x2)] [0, 2] rfl ?_
      exact K_Mo_readLaw_b135 n E S a0 x2 m_21 M'  h
    · rw [if_neg c_22] at h
      refine zi_aload_n 0 d_Mo_readLaw_130 rfl ?_
      refine zi_iconst 0 d_Mo_readLaw_131 rfl ?_
      obtain ⟨q_23, eq_23, h⟩ := zbind h
      refine zo_virt (k' := 0) (n' := 0) 135 [.int 0] [] [] zkd_11 (zgR_s eb_16).1 (C_Mo_readExpression n E S a0 0 m_21 q_23 eq_23) d_Mo_readLaw_132 tw_1603 tw_1600 tw_1602 ts_60 tw_13 dd_Mo_readExpression ⟨Nat.le_of_ble_eq_true rfl, Nat.le_of_ble_eq_true rfl, Nat.le_of_ble_eq_true rfl, Nat.le_of_ble_eq_true rfl⟩ (Nat.le_of_ble_eq_true rfl) rfl rfl rfl rfl ?_
      refine zi_lo [(0, .ref a0), (2, .int x2)] [0, 2] rfl ?_
      exact K_Mo_readLaw_b135 n E S a0 x2 q_23 M'  h
  · rw [if_neg c_15] at h
    refine zi_aload_n 0 d_Mo_readLaw_81 rfl ?_
    obtain ⟨b_24, eb_24, h⟩ := zbind h
    refine zo_getR 85 zkd_11 22 d_Mo_readLaw_82 eb_24 rfl tw_1251 rfl ?_
    refine zi_iload_n 2 d_Mo_readLaw_85 rfl ?_
    refine zi_iload_n 3 d_Mo_readLaw_86 rfl ?_
    refine zi_iadd d_Mo_readLaw_87 ?_
    refine zi_iconst 0 d_Mo_readLaw_88 rfl ?_
    obtain ⟨m_25, em_25, h⟩ := zbind h
    refine zo_iast 90 d_Mo_readLaw_89 em_25 rfl ?_
    refine zi_iinc 3 (x3 + 1) [(3, .int (x3 + 1)), (0, .ref a0), (1, .int x1), (2, .int x2)] d_Mo_readLaw_90 rfl rfl (by decide) rfl ?_
    refine zi_goto (tgt := 75) d_Mo_readLaw_93 rfl ?_
    refine zi_lo [(0, .ref a0), (1, .int x1), (2, .int x2), (3, .int (x3 + 1))] [1, 2, 3, 0] rfl ?_
    exact hr75 a0 x1 x2 (x3 + 1) m_25 h
theorem K_Mo_readLaw_b75 (n : Nat) (E : zE) (S : zS) (a0 : Nat) (x1 : Int32) (x2 : Int32) (x3 : Int32) (M : zH) (M' : zH)  (h : F_Mo_readLaw_b75 n E S (a0, x1, x2, x3, M) = some M') : zG E Y_Mo_readLaw (none, S, M') 75 [(0, .ref a0), (1, .int x1), (2, .int x2), (3, .int x3)] [] S M 0 0 := by
  have key : ∀ (k : Nat) (a0 : Nat) (x1 : Int32) (x2 : Int32) (x3 : Int32) (M : zH), zfix (fun r75 s => F_Mo_readLaw_L75 n E S r75 s.1 s.2.1 s.2.2.1 s.2.2.2.1 s.2.2.2.2) k (a0, x1, x2, x3, M) = some M' → zG E Y_Mo_readLaw (none, S, M') 75 [(0, .ref a0), (1, .int x1), (2, .int x2), (3, .int x3)] [] S M 0 0 := by
    intro k
    induction k with
    | zero => intro a0 x1 x2 x3 M h; cases h
    | succ k ih => intro a0 x1 x2 x3 M h; exact K_Mo_readLaw_L75 n E S _ a0 x1 x2 x3 M M'  (fun a0 x1 x2 x3 M h => ih a0 x1 x2 x3 M h) h
  exact key n a0 x1 x2 x3 M h
theorem K_Mo_readLaw_b54 (n : Nat) (E : zE) (S : zS) (a0 : Nat) (x1 : Int32) (s0 : Int32) (u1 : Nat) (M : zH) (M' : zH)  (h : F_Mo_readLaw_b54 n E S a0 x1 s0 u1 M = some M') : zG E Y_Mo_readLaw (none, S, M') 54 [(0, .ref a0), (1, .int x1)] [.int s0, .ref u1] S M 0 0 := by
  unfold F_Mo_readLaw_b54 at h
  obtain ⟨u_26, eu_26, h⟩ := zbind h
  obtain ⟨q_27, eq_27, h⟩ := zbind h
  refine zo_virt (k' := 0) (n' := 0) 57 [.int s0] [] [] zkd_11 (zck_s eu_26) (C_Mo_must n E S u1 s0 M q_27 eq_27) d_Mo_readLaw_54 tw_1599 tw_1596 tw_1598 ts_59 tw_13 dd_Mo_must ⟨Nat.le_of_ble_eq_true rfl, Nat.le_of_ble_eq_true rfl, Nat.le_of_ble_eq_true rfl, Nat.le_of_ble_eq_true rfl⟩ (Nat.le_of_ble_eq_true rfl) rfl rfl rfl rfl ?_
  refine zi_aload_n 0 d_Mo_readLaw_57 rfl ?_
  obtain ⟨v_28, ev_28, h⟩ := zbind h
  refine zo_getI 61 zkd_11 19 d_Mo_readLaw_58 ev_28 rfl tw_1248 rfl ?_
  refine zi_if_eq (tgt := 65) d_Mo_readLaw_61 rfl (fun c_29 => ?_) (fun c_29 => ?_)
  · rw [if_pos c_29] at h
    refine zi_bipush 8 d_Mo_readLaw_65 rfl ?_
    refine zi_aload_n 0 d_Mo_readLaw_67 rfl ?_
    obtain ⟨v_30, ev_30, h⟩ := zbind h
    refine zo_getI 71 zkd_11 21 d_Mo_readLaw_68 ev_30 rfl tw_1250 rfl ?_
    refine zi_imul d_Mo_readLaw_71 ?_
    refine zi_istore_n [(2, .int (8 * v_30)), (0, .ref a0), (1, .int x1)] d_Mo_readLaw_72 (by decide) rfl ?_
    refine zi_iconst 0 d_Mo_readLaw_73 rfl ?_
    refine zi_istore_n [(3, .int 0), (2, .int (8 * v_30)), (0, .ref a0), (1, .int x1)] d_Mo_readLaw_74 (by decide) rfl ?_
    refine zi_lo [(0, .ref a0), (1, .int x1), (2, .int (8 * v_30)), (3, .int 0)] [2, 3, 1, 0] rfl ?_
    exact K_Mo_readLaw_b75 n E S a0 x1 (8 * v_30) 0 q_27 M'  h
  · rw [if_neg c_29] at h
    cases h
    exact zo_ret d_Mo_readLaw_64 (Nat.le_of_ble_eq_true rfl) (Nat.le_of_ble_eq_true rfl) rfl
theorem K_Mo_readLaw_b53 (n : Nat) (E : zE) (S : zS) (a0 : Nat) (x1 : Int32) (u0 : Nat) (M : zH) (M' : zH)  (h : F_Mo_readLaw_b53 n E S a0 x1 u0 M = some M') : zG E Y_Mo_readLaw (none, S, M') 53 [(0, .ref a0), (1, .int x1)] [.ref u0] S M 0 0 := by
  unfold F_Mo_readLaw_b53 at h
  refine zi_iconst 0 d_Mo_readLaw_53 rfl ?_
  refine zi_lo [(0, .ref a0), (1, .int x1)] [0, 1] rfl ?_
  exact K_Mo_readLaw_b54 n E S a0 x1 0 u0 M M'  h
theorem K_Mo_readLaw_L4 (n : Nat) (E : zE) (S : zS) (r4 : Nat × Int32 × Int32 × zH → Option (zH)) (a0 : Nat) (x1 : Int32) (x2 : Int32) (M : zH) (M' : zH) (hr4 : ∀ (a0 : Nat) (x1 : Int32) (x2 : Int32) (M : zH), r4 (a0, x1, x2, M) = some M' → zG E Y_Mo_readLaw (none, S, M') 4 [(0, .ref a0), (1, .int x1), (2, .int x2)] [] S M 0 0) (h : F_Mo_readLaw_L4 n E S r4 a0 x1 x2 M = some M') : zG E Y_Mo_readLaw (none, S, M') 4 [(0, .ref a0), (1, .int x1), (2, .int x2)] [] S M 0 0 := by
  unfold F_Mo_readLaw_L4 at h
  refine zi_iload_n 2 d_Mo_readLaw_4 rfl ?_
  refine zi_iconst 4 d_Mo_readLaw_5 rfl ?_
  refine zi_icmp_ge (tgt := 34) d_Mo_readLaw_6 rfl (fun c_31 => ?_) (fun c_31 => ?_)
  · rw [if_pos c_31] at h
    refine zi_aload_n 0 d_Mo_readLaw_34 rfl ?_
    refine zi_iload_n 1 d_Mo_readLaw_35 rfl ?_
    refine zi_iconst (-1) d_Mo_readLaw_36 rfl ?_
    refine zi_icmp_eq (tgt := 53) d_Mo_readLaw_37 rfl (fun c_32 => ?_) (fun c_32 => ?_)
    · rw [if_pos c_32] at h
      refine zi_lo [(0, .ref a0), (1, .int x1)] [0, 1] rfl ?_
      exact K_Mo_readLaw_b53 n E S a0 x1 a0 M M'  h
    · rw [if_neg c_32] at h
      refine zi_aload_n 0 d_Mo_readLaw_40 rfl ?_
      obtain ⟨v_33, ev_33, h⟩ := zbind h
      refine zo_getI 44 zkd_11 21 d_Mo_readLaw_41 ev_33 rfl tw_1250 rfl ?_
      refine zi_bipush 12 d_Mo_readLaw_44 rfl ?_
      refine zi_icmp_ge (tgt := 53) d_Mo_readLaw_46 rfl (fun c_34 => ?_) (fun c_34 => ?_)
      · rw [if_pos c_34] at h
        refine zi_lo [(0, .ref a0), (1, .int x1)] [0, 1] rfl ?_
        exact K_Mo_readLaw_b53 n E S a0 x1 a0 M M'  h
      · rw [if_neg c_34] at h
        refine zi_iconst 1 d_Mo_readLaw_49 rfl ?_
        refine zi_goto (tgt := 54) d_Mo_readLaw_50 rfl ?_
        refine zi_lo [(0, .ref a0), (1, .int x1)] [0, 1] rfl ?_
        exact K_Mo_readLaw_b54 n E S a0 x1 1 a0 M M'  h
  · rw [if_neg c_31] at h
    refine zi_aload_n 0 d_Mo_readLaw_9 rfl ?_
    refine zi_aload_n 0 d_Mo_readLaw_10 rfl ?_
    obtain ⟨b_35, eb_35, h⟩ := zbind h
    refine zo_getR 14 zkd_11 33 d_Mo_readLaw_11 eb_35 rfl tw_1262 rfl ?_
    refine zi_iload_n 2 d_Mo_readLaw_14 rfl ?_
    obtain ⟨v_36, ev_36, h⟩ := zbind h
    refine zo_lald 16 d_Mo_readLaw_15 ev_36 rfl ?_
    obtain ⟨q_37, eq_37, h⟩ := zbind h
    refine zo_virt (k' := 0) (n' := 0) 19 [.long v_36] [] [.int (bI q_37.1)] zkd_11 (zgR_s eb_35).1 (C_Mo_isWord n E S a0 v_36 M q_37.1 q_37.2 eq_37) d_Mo_readLaw_16 tw_1595 tw_1592 tw_1594 ts_58 tw_13 dd_Mo_isWord ⟨Nat.le_of_ble_eq_true rfl, Nat.le_of_ble_eq_true rfl, Nat.le_of_ble_eq_true rfl, Nat.le_of_ble_eq_true rfl⟩ (Nat.le_of_ble_eq_true rfl) rfl rfl rfl rfl ?_
    refine zo_ifeqB d_Mo_readLaw_19 rfl 22 rfl (fun c_38 => ?_) (fun c_38 => ?_)
    · rw [if_neg c_38] at h
      refine zi_iload_n 1 d_Mo_readLaw_26 rfl ?_
      refine zi_lo [(0, .ref a0), (2, .int x2)] [0, 2] rfl ?_
      exact K_Mo_readLaw_b27 n E S r4 a0 x2 x1 q_37.2 M' hr4 h
    · rw [if_pos c_38] at h
      refine zi_iload_n 2 d_Mo_readLaw_22 rfl ?_
      refine zi_goto (tgt := 27) d_Mo_readLaw_23 rfl ?_
      refine zi_lo [(0, .ref a0), (2, .int x2)] [0, 2] rfl ?_
      exact K_Mo_readLaw_b27 n E S r4 a0 x2 x2 q_37.2 M' hr4 h
theorem K_Mo_readLaw_b4 (n : Nat) (E : zE) (S : zS) (a0 : Nat) (x1 : Int32) (x2 : Int32) (M : zH) (M' : zH)  (h : F_Mo_readLaw_b4 n E S (a0, x1, x2, M) = some M') : zG E Y_Mo_readLaw (none, S, M') 4 [(0, .ref a0), (1, .int x1), (2, .int x2)] [] S M 0 0 := by
  have key : ∀ (k : Nat) (a0 : Nat) (x1 : Int32) (x2 : Int32) (M : zH), zfix (fun r4 s => F_Mo_readLaw_L4 n E S r4 s.1 s.2.1 s.2.2.1 s.2.2.2) k (a0, x1, x2, M) = some M' → zG E Y_Mo_readLaw (none, S, M') 4 [(0, .ref a0), (1, .int x1), (2, .int x2)] [] S M 0 0 := by
    intro k
    induction k with
    | zero => intro a0 x1 x2 M h; cases h
    | succ k ih => intro a0 x1 x2 M h; exact K_Mo_readLaw_L4 n E S _ a0 x1 x2 M M'  (fun a0 x1 x2 M h => ih a0 x1 x2 M h) h
  exact key n a0 x1 x2 M h
theorem K_Mo_readLaw (n : Nat) (E : zE) (S : zS) (a0 : Nat) (M : zH) (M' : zH)  (h : F_Mo_readLaw n E S a0 M = some M') : zG E Y_Mo_readLaw (none, S, M') 0 [(0, .ref a0)] [] S M 0 0 := by
  unfold F_Mo_readLaw at h
  refine zi_iconst (-1) d_Mo_readLaw_0 rfl ?_
  refine zi_istore_n [(1, .int (-1)), (0, .ref a0)] d_Mo_readLaw_1 (by decide) rfl ?_
  refine zi_iconst 0 d_Mo_readLaw_2 rfl ?_
  refine zi_istore_n [(2, .int 0), (1, .int (-1)), (0, .ref a0)] d_Mo_readLaw_3 (by decide) rfl ?_
  refine zi_lo [(0, .ref a0), (1, .int (-1)), (2, .int 0)] [2, 1, 0] rfl ?_
  exact K_Mo_readLaw_b4 n E S a0 (-1) 0 M M'  h
theorem C_Mo_readLaw (n : Nat) (E : zE) (S : zS) (a0 : Nat) (M : zH) (M' : zH) (h : F_Mo_readLaw n E S a0 M = some M') : zC E Y_Mo_readLaw [.ref a0] S M (none, S, M') :=
  zC.of (Or.inl (show plainName "NightColanderModel" = true by decide)) (Nat.le_of_ble_eq_true rfl) (trivial) (K_Mo_readLaw n E S a0 M M' h)
theorem d_Mo_law_0 : decode (yB Y_Mo_law) 0 = .ok (.aload_n 0, 1) := by decide +kernel
theorem d_Mo_law_1 : decode (yB Y_Mo_law) 1 = .ok (.iconst 0, 1) := by decide +kernel
theorem d_Mo_law_2 : decode (yB Y_Mo_law) 2 = .ok (.putfield 156, 3) := by decide +kernel
theorem d_Mo_law_5 : decode (yB Y_Mo_law) 5 = .ok (.aload_n 0, 1) := by decide +kernel
theorem d_Mo_law_6 : decode (yB Y_Mo_law) 6 = .ok (.getfield 13, 3) := by decide +kernel
theorem d_Mo_law_9 : decode (yB Y_Mo_law) 9 = .ok (.iconst 2, 1) := by decide +kernel
theorem d_Mo_law_10 : decode (yB Y_Mo_law) 10 = .ok (.iaload, 1) := by decide +kernel
theorem d_Mo_law_11 : decode (yB Y_Mo_law) 11 = .ok (.bipush 6, 2) := by decide +kernel
theorem d_Mo_law_13 : decode (yB Y_Mo_law) 13 = .ok (.if_icmp .ne 15, 3) := by decide +kernel
theorem d_Mo_law_16 : decode (yB Y_Mo_law) 16 = .ok (.aload_n 0, 1) := by decide +kernel
theorem d_Mo_law_17 : decode (yB Y_Mo_law) 17 = .ok (.iconst 0, 1) := by decide +kernel
theorem d_Mo_law_18 : decode (yB Y_Mo_law) 18 = .ok (.putfield 244, 3) := by decide +kernel
theorem d_Mo_law_21 : decode (yB Y_Mo_law) 21 = .ok (.aload_n 0, 1) := by decide +kernel
theorem d_Mo_law_22 : decode (yB Y_Mo_law) 22 = .ok (.bipush (-5), 2) := by decide +kernel
theorem d_Mo_law_24 : decode (yB Y_Mo_law) 24 = .ok (.invokevirtual 165, 3) := by decide +kernel
theorem d_Mo_law_27 : decode (yB Y_Mo_law) 27 = .ok (.ireturn, 1) := by decide +kernel
theorem d_Mo_law_28 : decode (yB Y_Mo_law) 28 = .ok (.aload_n 0, 1) := by decide +kernel
theorem d_Mo_law_29 : decode (yB Y_Mo_law) 29 = .ok (.iconst 0, 1) := by decide +kernel
theorem d_Mo_law_30 : decode (yB Y_Mo_law) 30 = .ok (.invokevirtual 393, 3) := by decide +kernel
theorem d_Mo_law_33 : decode (yB Y_Mo_law) 33 = .ok (.aload_n 0, 1) := by decide +kernel
theorem d_Mo_law_34 : decode (yB Y_Mo_law) 34 = .ok (.invokevirtual 396, 3) := by decide +kernel
theorem d_Mo_law_37 : decode (yB Y_Mo_law) 37 = .ok (.aload_n 0, 1) := by decide +kernel
theorem d_Mo_law_38 : decode (yB Y_Mo_law) 38 = .ok (.getfield 256, 3) := by decide +kernel
theorem d_Mo_law_41 : decode (yB Y_Mo_law) 41 = .ok (.ifCond .ne 23, 3) := by decide +kernel
theorem d_Mo_law_44 : decode (yB Y_Mo_law) 44 = .ok (.aload_n 0, 1) := by decide +kernel
theorem d_Mo_law_45 : decode (yB Y_Mo_law) 45 = .ok (.bipush 59, 2) := by decide +kernel
theorem d_Mo_law_47 : decode (yB Y_Mo_law) 47 = .ok (.invokevirtual 325, 3) := by decide +kernel
theorem d_Mo_law_50 : decode (yB Y_Mo_law) 50 = .ok (.ifCond .eq 14, 3) := by decide +kernel
theorem d_Mo_law_53 : decode (yB Y_Mo_law) 53 = .ok (.aload_n 0, 1) := by decide +kernel
theorem d_Mo_law_54 : decode (yB Y_Mo_law) 54 = .ok (.invokevirtual 260, 3) := by decide +kernel
theorem d_Mo_law_57 : decode (yB Y_Mo_law) 57 = .ok (.aload_n 0, 1) := by decide +kernel
theorem d_Mo_law_58 : decode (yB Y_Mo_law) 58 = .ok (.invokevirtual 396, 3) := by decide +kernel
theorem d_Mo_law_61 : decode (yB Y_Mo_law) 61 = .ok (.goto (-24), 3) := by decide +kernel
theorem d_Mo_law_64 : decode (yB Y_Mo_law) 64 = .ok (.aload_n 0, 1) := by decide +kernel
theorem d_Mo_law_65 : decode (yB Y_Mo_law) 65 = .ok (.invokevirtual 399, 3) := by decide +kernel
theorem d_Mo_law_68 : decode (yB Y_Mo_law) 68 = .ok (.aload_n 0, 1) := by decide +kernel
theorem d_Mo_law_69 : decode (yB Y_Mo_law) 69 = .ok (.getfield 256, 3) := by decide +kernel
theorem d_Mo_law_72 : decode (yB Y_Mo_law) 72 = .ok (.ifCond .eq 10, 3) := by decide +kernel
theorem d_Mo_law_75 : decode (yB Y_Mo_law) 75 = .ok (.aload_n 0, 1) := by decide +kernel
theorem d_Mo_law_76 : decode (yB Y_Mo_law) 76 = .ok (.bipush (-6), 2) := by decide +kernel
theorem d_Mo_law_78 : decode (yB Y_Mo_law) 78 = .ok (.invokevirtual 165, 3) := by decide +kernel
theorem d_Mo_law_81 : decode (yB Y_Mo_law) 81 = .ok (.ireturn, 1) := by decide +kernel
theorem d_Mo_law_82 : decode (yB Y_Mo_law) 82 = .ok (.bipush 80, 2) := by decide +kernel
theorem d_Mo_law_84 : decode (yB Y_Mo_law) 84 = .ok (.sipush 900, 3) := by decide +kernel
theorem d_Mo_law_87 : decode (yB Y_Mo_law) 87 = .ok (.aload_n 0, 1) := by decide +kernel
theorem d_Mo_law_88 : decode (yB Y_Mo_law) 88 = .ok (.getfield 13, 3) := by decide +kernel
theorem d_Mo_law_91 : decode (yB Y_Mo_law) 91 = .ok (.iconst 2, 1) := by decide +kernel
theorem d_Mo_law_92 : decode (yB Y_Mo_law) 92 = .ok (.iaload, 1) := by decide +kernel
theorem d_Mo_law_93 : decode (yB Y_Mo_law) 93 = .ok (.imul, 1) := by decide +kernel
theorem d_Mo_law_94 : decode (yB Y_Mo_law) 94 = .ok (.iadd, 1) := by decide +kernel
theorem d_Mo_law_95 : decode (yB Y_Mo_law) 95 = .ok (.istore_n 1, 1) := by decide +kernel
theorem d_Mo_law_96 : decode (yB Y_Mo_law) 96 = .ok (.aload_n 0, 1) := by decide +kernel
theorem d_Mo_law_97 : decode (yB Y_Mo_law) 97 = .ok (.getfield 13, 3) := by decide +kernel
theorem d_Mo_law_100 : decode (yB Y_Mo_law) 100 = .ok (.iload_n 1, 1) := by decide +kernel
theorem d_Mo_law_101 : decode (yB Y_Mo_law) 101 = .ok (.iconst 1, 1) := by decide +kernel
theorem d_Mo_law_102 : decode (yB Y_Mo_law) 102 = .ok (.iadd, 1) := by decide +kernel
theorem d_Mo_law_103 : decode (yB Y_Mo_law) 103 = .ok (.aload_n 0, 1) := by decide +kernel
theorem d_Mo_law_104 : decode (yB Y_Mo_law) 104 = .ok (.getfield 385, 3) := by decide +kernel
theorem d_Mo_law_107 : decode (yB Y_Mo_law) 107 = .ok (.iastore, 1) := by decide +kernel
theorem d_Mo_law_108 : decode (yB Y_Mo_law) 108 = .ok (.iconst 0, 1) := by decide +kernel
theorem d_Mo_law_109 : decode (yB Y_Mo_law) 109 = .ok (.istore_n 2, 1) := by decide +kernel
theorem d_Mo_law_110 : decode (yB Y_Mo_law) 110 = .ok (.iload_n 2, 1) := by decide +kernel
theorem d_Mo_law_111 : decode (yB Y_Mo_law) 111 = .ok (.bipush 8, 2) := by decide +kernel
theorem d_Mo_law_113 : decode (yB Y_Mo_law) 113 = .ok (.aload_n 0, 1) := by decide +kernel
theorem d_Mo_law_114 : decode (yB Y_Mo_law) 114 = .ok (.getfield 385, 3) := by decide +kernel
theorem d_Mo_law_117 : decode (yB Y_Mo_law) 117 = .ok (.imul, 1) := by decide +kernel
theorem d_Mo_law_118 : decode (yB Y_Mo_law) 118 = .ok (.if_icmp .ge 25, 3) := by decide +kernel
theorem d_Mo_law_121 : decode (yB Y_Mo_law) 121 = .ok (.aload_n 0, 1) := by decide +kernel
theorem d_Mo_law_122 : decode (yB Y_Mo_law) 122 = .ok (.getfield 13, 3) := by decide +kernel
theorem d_Mo_law_125 : decode (yB Y_Mo_law) 125 = .ok (.iload_n 1, 1) := by decide +kernel
theorem d_Mo_law_126 : decode (yB Y_Mo_law) 126 = .ok (.iconst 2, 1) := by decide +kernel
theorem d_Mo_law_127 : decode (yB Y_Mo_law) 127 = .ok (.iadd, 1) := by decide +kernel
theorem d_Mo_law_128 : decode (yB Y_Mo_law) 128 = .ok (.iload_n 2, 1) := by decide +kernel
theorem d_Mo_law_129 : decode (yB Y_Mo_law) 129 = .ok (.iadd, 1) := by decide +kernel
theorem d_Mo_law_130 : decode (yB Y_Mo_law) 130 = .ok (.aload_n 0, 1) := by decide +kernel
theorem d_Mo_law_131 : decode (yB Y_Mo_law) 131 = .ok (.getfield 42, 3) := by decide +kernel
theorem d_Mo_law_134 : decode (yB Y_Mo_law) 134 = .ok (.iload_n 2, 1) := by decide +kernel
theorem d_Mo_law_135 : decode (yB Y_Mo_law) 135 = .ok (.iaload, 1) := by decide +kernel
theorem d_Mo_law_136 : decode (yB Y_Mo_law) 136 = .ok (.iastore, 1) := by decide +kernel
theorem d_Mo_law_137 : decode (yB Y_Mo_law) 137 = .ok (.iinc 2 1, 3) := by decide +kernel
theorem d_Mo_law_140 : decode (yB Y_Mo_law) 140 = .ok (.goto (-30), 3) := by decide +kernel
theorem d_Mo_law_143 : decode (yB Y_Mo_law) 143 = .ok (.iconst 0, 1) := by decide +kernel
theorem d_Mo_law_144 : decode (yB Y_Mo_law) 144 = .ok (.istore_n 2, 1) := by decide +kernel
theorem d_Mo_law_145 : decode (yB Y_Mo_law) 145 = .ok (.iload_n 2, 1) := by decide +kernel
theorem d_Mo_law_146 : decode (yB Y_Mo_law) 146 = .ok (.aload_n 0, 1) := by decide +kernel
theorem d_Mo_law_147 : decode (yB Y_Mo_law) 147 = .ok (.getfield 291, 3) := by decide +kernel
theorem d_Mo_law_150 : decode (yB Y_Mo_law) 150 = .ok (.if_icmp .ge 49, 3) := by decide +kernel
theorem d_Mo_law_153 : decode (yB Y_Mo_law) 153 = .ok (.aload_n 0, 1) := by decide +kernel
theorem d_Mo_law_154 : decode (yB Y_Mo_law) 154 = .ok (.getfield 13, 3) := by decide +kernel
theorem d_Mo_law_157 : decode (yB Y_Mo_law) 157 = .ok (.iload_n 1, 1) := by decide +kernel
theorem d_Mo_law_158 : decode (yB Y_Mo_law) 158 = .ok (.bipush 98, 2) := by decide +kernel
theorem d_Mo_law_160 : decode (yB Y_Mo_law) 160 = .ok (.iadd, 1) := by decide +kernel
theorem d_Mo_law_161 : decode (yB Y_Mo_law) 161 = .ok (.iconst 2, 1) := by decide +kernel
theorem d_Mo_law_162 : decode (yB Y_Mo_law) 162 = .ok (.iload_n 2, 1) := by decide +kernel
theorem d_Mo_law_163 : decode (yB Y_Mo_law) 163 = .ok (.imul, 1) := by decide +kernel
theorem d_Mo_law_164 : decode (yB Y_Mo_law) 164 = .ok (.iadd, 1) := by decide +kernel
theorem d_Mo_law_165 : decode (yB Y_Mo_law) 165 = .ok (.aload_n 0, 1) := by decide +kernel
theorem d_Mo_law_166 : decode (yB Y_Mo_law) 166 = .ok (.getfield 45, 3) := by decide +kernel
theorem d_Mo_law_169 : decode (yB Y_Mo_law) 169 = .ok (.iload_n 2, 1) := by decide +kernel
theorem d_Mo_law_170 : decode (yB Y_Mo_law) 170 = .ok (.iaload, 1) := by decide +kernel
theorem d_Mo_law_171 : decode (yB Y_Mo_law) 171 = .ok (.iastore, 1) := by decide +kernel
theorem d_Mo_law_172 : decode (yB Y_Mo_law) 172 = .ok (.aload_n 0, 1) := by decide +kernel
theorem d_Mo_law_173 : decode (yB Y_Mo_law) 173 = .ok (.getfield 13, 3) := by decide +kernel
theorem d_Mo_law_176 : decode (yB Y_Mo_law) 176 = .ok (.iload_n 1, 1) := by decide +kernel
theorem d_Mo_law_177 : decode (yB Y_Mo_law) 177 = .ok (.bipush 98, 2) := by decide +kernel
theorem d_Mo_law_179 : decode (yB Y_Mo_law) 179 = .ok (.iadd, 1) := by decide +kernel
theorem d_Mo_law_180 : decode (yB Y_Mo_law) 180 = .ok (.iconst 2, 1) := by decide +kernel
theorem d_Mo_law_181 : decode (yB Y_Mo_law) 181 = .ok (.iload_n 2, 1) := by decide +kernel
theorem d_Mo_law_182 : decode (yB Y_Mo_law) 182 = .ok (.imul, 1) := by decide +kernel
theorem d_Mo_law_183 : decode (yB Y_Mo_law) 183 = .ok (.iadd, 1) := by decide +kernel
theorem d_Mo_law_184 : decode (yB Y_Mo_law) 184 = .ok (.iconst 1, 1) := by decide +kernel
theorem d_Mo_law_185 : decode (yB Y_Mo_law) 185 = .ok (.iadd, 1) := by decide +kernel
theorem d_Mo_law_186 : decode (yB Y_Mo_law) 186 = .ok (.aload_n 0, 1) := by decide +kernel
theorem d_Mo_law_187 : decode (yB Y_Mo_law) 187 = .ok (.getfield 48, 3) := by decide +kernel
theorem d_Mo_law_190 : decode (yB Y_Mo_law) 190 = .ok (.iload_n 2, 1) := by decide +kernel
theorem d_Mo_law_191 : decode (yB Y_Mo_law) 191 = .ok (.iaload, 1) := by decide +kernel
theorem d_Mo_law_192 : decode (yB Y_Mo_law) 192 = .ok (.iastore, 1) := by decide +kernel
theorem d_Mo_law_193 : decode (yB Y_Mo_law) 193 = .ok (.iinc 2 1, 3) := by decide +kernel
theorem d_Mo_law_196 : decode (yB Y_Mo_law) 196 = .ok (.goto (-51), 3) := by decide +kernel
theorem d_Mo_law_199 : decode (yB Y_Mo_law) 199 = .ok (.aload_n 0, 1) := by decide +kernel
theorem d_Mo_law_200 : decode (yB Y_Mo_law) 200 = .ok (.getfield 13, 3) := by decide +kernel
theorem d_Mo_law_203 : decode (yB Y_Mo_law) 203 = .ok (.iconst 2, 1) := by decide +kernel
theorem d_Mo_law_204 : decode (yB Y_Mo_law) 204 = .ok (.dup2, 1) := by decide +kernel
theorem d_Mo_law_205 : decode (yB Y_Mo_law) 205 = .ok (.iaload, 1) := by decide +kernel
theorem d_Mo_law_206 : decode (yB Y_Mo_law) 206 = .ok (.iconst 1, 1) := by decide +kernel
theorem d_Mo_law_207 : decode (yB Y_Mo_law) 207 = .ok (.iadd, 1) := by decide +kernel
theorem d_Mo_law_208 : decode (yB Y_Mo_law) 208 = .ok (.iastore, 1) := by decide +kernel
theorem d_Mo_law_209 : decode (yB Y_Mo_law) 209 = .ok (.aload_n 0, 1) := by decide +kernel
theorem d_Mo_law_210 : decode (yB Y_Mo_law) 210 = .ok (.aload_n 0, 1) := by decide +kernel
theorem d_Mo_law_211 : decode (yB Y_Mo_law) 211 = .ok (.getfield 13, 3) := by decide +kernel
theorem d_Mo_law_214 : decode (yB Y_Mo_law) 214 = .ok (.iconst 2, 1) := by decide +kernel
theorem d_Mo_law_215 : decode (yB Y_Mo_law) 215 = .ok (.iaload, 1) := by decide +kernel
theorem d_Mo_law_216 : decode (yB Y_Mo_law) 216 = .ok (.iconst 1, 1) := by decide +kernel
theorem d_Mo_law_217 : decode (yB Y_Mo_law) 217 = .ok (.isub, 1) := by decide +kernel
theorem d_Mo_law_218 : decode (yB Y_Mo_law) 218 = .ok (.invokevirtual 165, 3) := by decide +kernel
theorem d_Mo_law_221 : decode (yB Y_Mo_law) 221 = .ok (.ireturn, 1) := by decide +kernel
def F_Mo_law_L145 (n : Nat) (E : zE) (S : zS) (r145 : Nat × Int32 × Int32 × zH → Option (Int32 × zH)) (a0 : Nat) (x1 : Int32) (x2 : Int32) (M : zH) : Option (Int32 × zH) :=
  (zgI S M a0 11 23).bind fun v_1 =>
  if v_1 ≤ x2 then
    (zgR S a0 11 3).bind fun b_3 =>
    (zldI S M b_3 2).bind fun v_4 =>
    (zstI S M b_3 2 (v_4 + 1)).bind fun m_5 =>
    (zldI S m_5 b_3 2).bind fun v_6 =>
    (F_Mo_tell n E S a0 (v_6 - 1) m_5).bind fun q_7 =>
    some (q_7.1, q_7.2)
  else
    (zgR S a0 11 3).bind fun b_8 =>
    (zgR S a0 11 24).bind fun b_9 =>
    (zldI S M b_9 x2).bind fun v_10 =>
    (zstI S M b_8 ((x1 + 98) + (2 * x2)) v_10).bind fun m_11 =>
    (zgR S a0 11 25).bind fun b_12 =>
    (zldI S m_11 b_12 x2).bind fun v_13 =>
    (zstI S m_11 b_8 (((x1 + 98) + (2 * x2)) + 1) v_13).bind fun m_14 =>
    r145 (a0, x1, x2 + 1, m_14)
def F_Mo_law_b145 (n : Nat) (E : zE) (S : zS) : Nat × Int32 × Int32 × zH → Option (Int32 × zH) := zfix (fun r145 s => F_Mo_law_L145 n E S r145 s.1 s.2.1 s.2.2.1 s.2.2.2) n
def F_Mo_law_L110 (n : Nat) (E : zE) (S : zS) (r110 : Nat × Int32 × Int32 × zH → Option (Int32 × zH)) (a0 : Nat) (x1 : Int32) (x2 : Int32) (M : zH) : Option (Int32 × zH) :=
  (zgI S M a0 11 21).bind fun v_15 =>
  if (8 * v_15) ≤ x2 then
    F_Mo_law_b145 n E S (a0, x1, 0, M)
  else
    (zgR S a0 11 3).bind fun b_17 =>
    (zgR S a0 11 22).bind fun b_18 =>
    (zldI S M b_18 x2).bind fun v_19 =>
    (zstI S M b_17 ((x1 + 2) + x2) v_19).bind fun m_20 =>
    r110 (a0, x1, x2 + 1, m_20)
def F_Mo_law_b110 (n : Nat) (E : zE) (S : zS) : Nat × Int32 × Int32 × zH → Option (Int32 × zH) := zfix (fun r110 s => F_Mo_law_L110 n E S r110 s.1 s.2.1 s.2.2.1 s.2.2.2) n
def F_Mo_law_b64 (n : Nat) (E : zE) (S : zS) (a0 : Nat) (M : zH) : Option (Int32 × zH) :=
  (zck S a0 11).bind fun u_21 =>
  (F_Mo_endText n E S a0 M).bind fun q_22 =>
  (zgI S q_22 a0 11 19).bind fun v_23 =>
  if v_23 = 0 then
    (zgR S a0 11 3).bind fun b_25 =>
    (zldI S q_22 b_25 2).bind fun v_26 =>
    (zgI S q_22 a0 11 21).bind fun v_27 =>
    (zstI S q_22 b_25 ((80 + (900 * v_26)) + 1) v_27).bind fun m_28 =>
    F_Mo_law_b110 n E S (a0, 80 + (900 * v_26), 0, m_28)
  else
    (F_Mo_tell n E S a0 (-6) q_22).bind fun q_29 =>
    some (q_29.1, q_29.2)
def F_Mo_law_L37 (n : Nat) (E : zE) (S : zS) (r37 : Nat × zH → Option (Int32 × zH)) (a0 : Nat) (M : zH) : Option (Int32 × zH) :=
  (zgI S M a0 11 19).bind fun v_30 =>
  if v_30 = 0 then
    (F_Mo_isSign n E S a0 59 M).bind fun q_32 =>
    if q_32.1 = true then
      (F_Mo_next n E S a0 q_32.2).bind fun q_34 =>
      (F_Mo_readLaw n E S a0 q_34).bind fun q_35 =>
      r37 (a0, q_35)
    else
      F_Mo_law_b64 n E S a0 q_32.2
  else
    F_Mo_law_b64 n E S a0 M
def F_Mo_law_b37 (n : Nat) (E : zE) (S : zS) : Nat × zH → Option (Int32 × zH) := zfix (fun r37 s => F_Mo_law_L37 n E S r37 s.1 s.2) n
def F_Mo_law (n : Nat) (E : zE) (S : zS) (a0 : Nat) (M : zH) : Option (Int32 × zH) :=
  (zpI S M a0 11 0 0).bind fun m_36 =>
  (zgR S a0 11 3).bind fun b_37 =>
  (zldI S m_36 b_37 2).bind fun v_38 =>
  if v_38 = 6 then
    (zpI S m_36 a0 11 13 0).bind fun m_40 =>
    (F_Mo_tell n E S a0 (-5) m_40).bind fun q_41 =>
    some (q_41.1, q_41.2)
  else
    (F_Mo_beginText n E S a0 0 m_36).bind fun q_42 =>
    (F_Mo_readLaw n E S a0 q_42).bind fun q_43 =>
    F_Mo_law_b37 n E S (a0, q_43)
theorem K_Mo_law_L145 (n : Nat) (E : zE) (S : zS) (r145 : Nat × Int32 × Int32 × zH → Option (Int32 × zH)) (a0 : Nat) (x1 : Int32) (x2 : Int32) (M : zH) (r : Int32) (M' : zH) (hr145 : ∀ (a0 : Nat) (x1 : Int32) (x2 : Int32) (M : zH), r145 (a0, x1, x2, M) = some (r, M') → zG E Y_Mo_law (some (.int r), S, M') 145 [(0, .ref a0), (1, .int x1), (2, .int x2)] [] S M 0 0) (h : F_Mo_law_L145 n E S r145 a0 x1 x2 M = some (r, M')) : zG E Y_Mo_law (some (.int r), S, M') 145 [(0, .ref a0), (1, .int x1), (2, .int x2)] [] S M 0 0 := by
  unfold F_Mo_law_L145 at h
  refine zi_iload_n 2 d_Mo_law_145 rfl ?_
  refine zi_aload_n 0 d_Mo_law_146 rfl ?_
  obtain ⟨v_1, ev_1, h⟩ := zbind h
  refine zo_getI 150 zkd_11 23 d_Mo_law_147 ev_1 rfl tw_1252 rfl ?_
  refine zi_icmp_ge (tgt := 199) d_Mo_law_150 rfl (fun c_2 => ?_) (fun c_2 => ?_)
  · rw [if_pos c_2] at h
    refine zi_aload_n 0 d_Mo_law_199 rfl ?_
    obtain ⟨b_3, eb_3, h⟩ := zbind h
    refine zo_getR 203 zkd_11 3 d_Mo_law_200 eb_3 rfl tw_1232 rfl ?_
    refine zi_iconst 2 d_Mo_law_203 rfl ?_
    refine zi_dup2 d_Mo_law_204 rfl rfl ?_
    obtain ⟨v_4, ev_4, h⟩ := zbind h
    refine zo_iald 206 d_Mo_law_205 ev_4 rfl ?_
    refine zi_iconst 1 d_Mo_law_206 rfl ?_
    refine zi_iadd d_Mo_law_207 ?_
    obtain ⟨m_5, em_5, h⟩ := zbind h
    refine zo_iast 209 d_Mo_law_208 em_5 rfl ?_
    refine zi_aload_n 0 d_Mo_law_209 rfl ?_
    refine zi_aload_n 0 d_Mo_law_210 rfl ?_
    refine zo_getR 214 zkd_11 3 d_Mo_law_211 eb_3 rfl tw_1232 rfl ?_
    refine zi_iconst 2 d_Mo_law_214 rfl ?_
    obtain ⟨v_6, ev_6, h⟩ := zbind h
    refine zo_iald 216 d_Mo_law_215 ev_6 rfl ?_
    refine zi_iconst 1 d_Mo_law_216 rfl ?_
    refine zi_isub d_Mo_law_217 ?_
    obtain ⟨q_7, eq_7, h⟩ := zbind h
    refine zo_virt (k' := 0) (n' := 0) 221 [.int (v_6 - 1)] [] [.int q_7.1] zkd_11 (zgI_s ev_1).1 (C_Mo_tell n E S a0 (v_6 - 1) m_5 q_7.1 q_7.2 eq_7) d_Mo_law_218 tw_1408 tw_1405 tw_1407 ts_36 tw_13 dd_Mo_tell ⟨Nat.le_of_ble_eq_true rfl, Nat.le_of_ble_eq_true rfl, Nat.le_of_ble_eq_true rfl, Nat.le_of_ble_eq_true rfl⟩ (Nat.le_of_ble_eq_true rfl) rfl rfl rfl rfl ?_
    cases h
    exact zo_ret d_Mo_law_221 (Nat.le_of_ble_eq_true rfl) (Nat.le_of_ble_eq_true rfl) rfl
  · rw [if_neg c_2] at h
    refine zi_aload_n 0 d_Mo_law_153 rfl ?_
    obtain ⟨b_8, eb_8, h⟩ := zbind h
    refine zo_getR 157 zkd_11 3 d_Mo_law_154 eb_8 rfl tw_1232 rfl ?_
    refine zi_iload_n 1 d_Mo_law_157 rfl ?_
    refine zi_bipush 98 d_Mo_law_158 rfl ?_
    refine zi_iadd d_Mo_law_160 ?_
    refine zi_iconst 2 d_Mo_law_161 rfl ?_
    refine zi_iload_n 2 d_Mo_law_162 rfl ?_
    refine zi_imul d_Mo_law_163 ?_
    refine zi_iadd d_Mo_law_164 ?_
    refine zi_aload_n 0 d_Mo_law_165 rfl ?_
    obtain ⟨b_9, eb_9, h⟩ := zbind h
    refine zo_getR 169 zkd_11 24 d_Mo_law_166 eb_9 rfl tw_1253 rfl ?_
    refine zi_iload_n 2 d_Mo_law_169 rfl ?_
    obtain ⟨v_10, ev_10, h⟩ := zbind h
    refine zo_iald 171 d_Mo_law_170 ev_10 rfl ?_
    obtain ⟨m_11, em_11, h⟩ := zbind h
    refine zo_iast 172 d_Mo_law_171 em_11 rfl ?_
    refine zi_aload_n 0 d_Mo_law_172 rfl ?_
    refine zo_getR 176 zkd_11 3 d_Mo_law_173 eb_8 rfl tw_1232 rfl ?_
    refine zi_iload_n 1 d_Mo_law_176 rfl ?_
    refine zi_bipush 98 d_Mo_law_177 rfl ?_
    refine zi_iadd d_Mo_law_179 ?_
    refine zi_iconst 2 d_Mo_law_180 rfl ?_
    refine zi_iload_n 2 d_Mo_law_181 rfl ?_
    refine zi_imul d_Mo_law_182 ?_
    refine zi_iadd d_Mo_law_183 ?_
    refine zi_iconst 1 d_Mo_law_184 rfl ?_
    refine zi_iadd d_Mo_law_185 ?_
    refine zi_aload_n 0 d_Mo_law_186 rfl ?_
    obtain ⟨b_12, eb_12, h⟩ := zbind h
    refine zo_getR 190 zkd_11 25 d_Mo_law_187 eb_12 rfl tw_1254 rfl ?_
    refine zi_iload_n 2 d_Mo_law_190 rfl ?_
    obtain ⟨v_13, ev_13, h⟩ := zbind h
    refine zo_iald 192 d_Mo_law_191 ev_13 rfl ?_
    obtain ⟨m_14, em_14, h⟩ := zbind h
    refine zo_iast 193 d_Mo_law_192 em_14 rfl ?_
    refine zi_iinc 2 (x2 + 1) [(2, .int (x2 + 1)), (0, .ref a0), (1, .int x1)] d_Mo_law_193 rfl rfl (by decide) rfl ?_
    refine zi_goto (tgt := 145) d_Mo_law_196 rfl ?_
    refine zi_lo [(0, .ref a0), (1, .int x1), (2, .int (x2 + 1))] [1, 2, 0] rfl ?_
    exact hr145 a0 x1 (x2 + 1) m_14 h
theorem K_Mo_law_b145 (n : Nat) (E : zE) (S : zS) (a0 : Nat) (x1 : Int32) (x2 : Int32) (M : zH) (r : Int32) (M' : zH)  (h : F_Mo_law_b145 n E S (a0, x1, x2, M) = some (r, M')) : zG E Y_Mo_law (some (.int r), S, M') 145 [(0, .ref a0), (1, .int x1), (2, .int x2)] [] S M 0 0 := by
  have key : ∀ (k : Nat) (a0 : Nat) (x1 : Int32) (x2 : Int32) (M : zH), zfix (fun r145 s => F_Mo_law_L145 n E S r145 s.1 s.2.1 s.2.2.1 s.2.2.2) k (a0, x1, x2, M) = some (r, M') → zG E Y_Mo_law (some (.int r), S, M') 145 [(0, .ref a0), (1, .int x1), (2, .int x2)] [] S M 0 0 := by
    intro k
    induction k with
    | zero => intro a0 x1 x2 M h; cases h
    | succ k ih => intro a0 x1 x2 M h; exact K_Mo_law_L145 n E S _ a0 x1 x2 M r M'  (fun a0 x1 x2 M h => ih a0 x1 x2 M h) h
  exact key n a0 x1 x2 M h
theorem K_Mo_law_L110 (n : Nat) (E : zE) (S : zS) (r110 : Nat × Int32 × Int32 × zH → Option (Int32 × zH)) (a0 : Nat) (x1 : Int32) (x2 : Int32) (M : zH) (r : Int32) (M' : zH) (hr110 : ∀ (a0 : Nat) (x1 : Int32) (x2 : Int32) (M : zH), r110 (a0, x1, x2, M) = some (r, M') → zG E Y_Mo_law (some (.int r), S, M') 110 [(0, .ref a0), (1, .int x1), (2, .int x2)] [] S M 0 0) (h : F_Mo_law_L110 n E S r110 a0 x1 x2 M = some (r, M')) : zG E Y_Mo_law (some (.int r), S, M') 110 [(0, .ref a0), (1, .int x1), (2, .int x2)] [] S M 0 0 := by
  unfold F_Mo_law_L110 at h
  refine zi_iload_n 2 d_Mo_law_110 rfl ?_
  refine zi_bipush 8 d_Mo_law_111 rfl ?_
  refine zi_aload_n 0 d_Mo_law_113 rfl ?_
  obtain ⟨v_15, ev_15, h⟩ := zbind h
  refine zo_getI 117 zkd_11 21 d_Mo_law_114 ev_15 rfl tw_1250 rfl ?_
  refine zi_imul d_Mo_law_117 ?_
  refine zi_icmp_ge (tgt := 143) d_Mo_law_118 rfl (fun c_16 => ?_) (fun c_16 => ?_)
  · rw [if_pos c_16] at h
    refine zi_iconst 0 d_Mo_law_143 rfl ?_
    refine zi_istore_n [(2, .int 0), (0, .ref a0), (1, .int x1)] d_Mo_law_144 (by decide) rfl ?_
    refine zi_lo [(0, .ref a0), (1, .int x1), (2, .int 0)] [1, 2, 0] rfl ?_
    exact K_Mo_law_b145 n E S a0 x1 0 M r M'  h
  · rw [if_neg c_16] at h
    refine zi_aload_n 0 d_Mo_law_121 rfl ?_
    obtain ⟨b_17, eb_17, h⟩ := zbind h
    refine zo_getR 125 zkd_11 3 d_Mo_law_122 eb_17 rfl tw_1232 rfl ?_
    refine zi_iload_n 1 d_Mo_law_125 rfl ?_
    refine zi_iconst 2 d_Mo_law_126 rfl ?_
    refine zi_iadd d_Mo_law_127 ?_
    refine zi_iload_n 2 d_Mo_law_128 rfl ?_
    refine zi_iadd d_Mo_law_129 ?_
    refine zi_aload_n 0 d_Mo_law_130 rfl ?_
    obtain ⟨b_18, eb_18, h⟩ := zbind h
    refine zo_getR 134 zkd_11 22 d_Mo_law_131 eb_18 rfl tw_1251 rfl ?_
    refine zi_iload_n 2 d_Mo_law_134 rfl ?_
    obtain ⟨v_19, ev_19, h⟩ := zbind h
    refine zo_iald 136 d_Mo_law_135 ev_19 rfl ?_
    obtain ⟨m_20, em_20, h⟩ := zbind h
    refine zo_iast 137 d_Mo_law_136 em_20 rfl ?_
    refine zi_iinc 2 (x2 + 1) [(2, .int (x2 + 1)), (0, .ref a0), (1, .int x1)] d_Mo_law_137 rfl rfl (by decide) rfl ?_
    refine zi_goto (tgt := 110) d_Mo_law_140 rfl ?_
    refine zi_lo [(0, .ref a0), (1, .int x1), (2, .int (x2 + 1))] [1, 2, 0] rfl ?_
    exact hr110 a0 x1 (x2 + 1) m_20 h
theorem K_Mo_law_b110 (n : Nat) (E : zE) (S : zS) (a0 : Nat) (x1 : Int32) (x2 : Int32) (M : zH) (r : Int32) (M' : zH)  (h : F_Mo_law_b110 n E S (a0, x1, x2, M) = some (r, M')) : zG E Y_Mo_law (some (.int r), S, M') 110 [(0, .ref a0), (1, .int x1), (2, .int x2)] [] S M 0 0 := by
  have key : ∀ (k : Nat) (a0 : Nat) (x1 : Int32) (x2 : Int32) (M : zH), zfix (fun r110 s => F_Mo_law_L110 n E S r110 s.1 s.2.1 s.2.2.1 s.2.2.2) k (a0, x1, x2, M) = some (r, M') → zG E Y_Mo_law (some (.int r), S, M') 110 [(0, .ref a0), (1, .int x1), (2, .int x2)] [] S M 0 0 := by
    intro k
    induction k with
    | zero => intro a0 x1 x2 M h; cases h
    | succ k ih => intro a0 x1 x2 M h; exact K_Mo_law_L110 n E S _ a0 x1 x2 M r M'  (fun a0 x1 x2 M h => ih a0 x1 x2 M h) h
  exact key n a0 x1 x2 M h
theorem K_Mo_law_b64 (n : Nat) (E : zE) (S : zS) (a0 : Nat) (M : zH) (r : Int32) (M' : zH)  (h : F_Mo_law_b64 n E S a0 M = some (r, M')) : zG E Y_Mo_law (some (.int r), S, M') 64 [(0, .ref a0)] [] S M 0 0 := by
  unfold F_Mo_law_b64 at h
  refine zi_aload_n 0 d_Mo_law_64 rfl ?_
  obtain ⟨u_21, eu_21, h⟩ := zbind h
  obtain ⟨q_22, eq_22, h⟩ := zbind h
  refine zo_virt (k' := 0) (n' := 0) 68 [] [] [] zkd_11 (zck_s eu_21) (C_Mo_endText n E S a0 M q_22 eq_22) d_Mo_law_65 tw_1680 tw_1677 tw_1679 ts_76 tw_13 dd_Mo_endText ⟨Nat.le_of_ble_eq_true rfl, Nat.le_of_ble_eq_true rfl, Nat.le_of_ble_eq_true rfl, Nat.le_of_ble_eq_true rfl⟩ (Nat.le_of_ble_eq_true rfl) rfl rfl rfl rfl ?_
  refine zi_aload_n 0 d_Mo_law_68 rfl ?_
  obtain ⟨v_23, ev_23, h⟩ := zbind h
  refine zo_getI 72 zkd_11 19 d_Mo_law_69 ev_23 rfl tw_1248 rfl ?_
  refine zi_if_eq (tgt := 82) d_Mo_law_72 rfl (fun c_24 => ?_) (fun c_24 => ?_)
  · rw [if_pos c_24] at h
    refine zi_bipush 80 d_Mo_law_82 rfl ?_
    refine zi_sipush 900 d_Mo_law_84 rfl ?_
    refine zi_aload_n 0 d_Mo_law_87 rfl ?_
    obtain ⟨b_25, eb_25, h⟩ := zbind h
    refine zo_getR 91 zkd_11 3 d_Mo_law_88 eb_25 rfl tw_1232 rfl ?_
    refine zi_iconst 2 d_Mo_law_91 rfl ?_
    obtain ⟨v_26, ev_26, h⟩ := zbind h
    refine zo_iald 93 d_Mo_law_92 ev_26 rfl ?_
    refine zi_imul d_Mo_law_93 ?_
    refine zi_iadd d_Mo_law_94 ?_
    refine zi_istore_n [(1, .int (80 + (900 * v_26))), (0, .ref a0)] d_Mo_law_95 (by decide) rfl ?_
    refine zi_aload_n 1 d_Mo_law_96 rfl ?_
    refine zo_getR 100 zkd_11 3 d_Mo_law_97 eb_25 rfl tw_1232 rfl ?_
    refine zi_iload_n 0 d_Mo_law_100 rfl ?_
    refine zi_iconst 1 d_Mo_law_101 rfl ?_
    refine zi_iadd d_Mo_law_102 ?_
    refine zi_aload_n 1 d_Mo_law_103 rfl ?_
    obtain ⟨v_27, ev_27, h⟩ := zbind h
    refine zo_getI 107 zkd_11 21 d_Mo_law_104 ev_27 rfl tw_1250 rfl ?_
    obtain ⟨m_28, em_28, h⟩ := zbind h
    refine zo_iast 108 d_Mo_law_107 em_28 rfl ?_
    refine zi_iconst 0 d_Mo_law_108 rfl ?_
    refine zi_istore_n [(2, .int 0), (1, .int (80 + (900 * v_26))), (0, .ref a0)] d_Mo_law_109 (by decide) rfl ?_
    refine zi_lo [(0, .ref a0), (1, .int (80 + (900 * v_26))), (2, .int 0)] [2, 1, 0] rfl ?_
    exact K_Mo_law_b110 n E S a0 (80 + (900 * v_26)) 0 m_28 r M'  h
  · rw [if_neg c_24] at h
    refine zi_aload_n 0 d_Mo_law_75 rfl ?_
    refine zi_bipush (-6) d_Mo_law_76 rfl ?_
    obtain ⟨q_29, eq_29, h⟩ := zbind h
    refine zo_virt (k' := 0) (n' := 0) 81 [.int (-6)] [] [.int q_29.1] zkd_11 (zck_s eu_21) (C_Mo_tell n E S a0 (-6) q_22 q_29.1 q_29.2 eq_29) d_Mo_law_78 tw_1408 tw_1405 tw_1407 ts_36 tw_13 dd_Mo_tell ⟨Nat.le_of_ble_eq_true rfl, Nat.le_of_ble_eq_true rfl, Nat.le_of_ble_eq_true rfl, Nat.le_of_ble_eq_true rfl⟩ (Nat.le_of_ble_eq_true rfl) rfl rfl rfl rfl ?_
    cases h
    exact zo_ret d_Mo_law_81 (Nat.le_of_ble_eq_true rfl) (Nat.le_of_ble_eq_true rfl) rfl
theorem K_Mo_law_L37 (n : Nat) (E : zE) (S : zS) (r37 : Nat × zH → Option (Int32 × zH)) (a0 : Nat) (M : zH) (r : Int32) (M' : zH) (hr37 : ∀ (a0 : Nat) (M : zH), r37 (a0, M) = some (r, M') → zG E Y_Mo_law (some (.int r), S, M') 37 [(0, .ref a0)] [] S M 0 0) (h : F_Mo_law_L37 n E S r37 a0 M = some (r, M')) : zG E Y_Mo_law (some (.int r), S, M') 37 [(0, .ref a0)] [] S M 0 0 := by
  unfold F_Mo_law_L37 at h
  refine zi_aload_n 0 d_Mo_law_37 rfl ?_
  obtain ⟨v_30, ev_30, h⟩ := zbind h
  refine zo_getI 41 zkd_11 19 d_Mo_law_38 ev_30 rfl tw_1248 rfl ?_
  refine zi_if_ne (tgt := 64) d_Mo_law_41 rfl (fun c_31 => ?_) (fun c_31 => ?_)
  · rw [if_neg c_31] at h
    refine zi_lo [(0, .ref a0)] [0] rfl ?_
    exact K_Mo_law_b64 n E S a0 M r M'  h
  · rw [if_pos c_31] at h
    refine zi_aload_n 0 d_Mo_law_44 rfl ?_
    refine zi_bipush 59 d_Mo_law_45 rfl ?_
    obtain ⟨q_32, eq_32, h⟩ := zbind h
    refine zo_virt (k' := 0) (n' := 0) 50 [.int 59] [] [.int (bI q_32.1)] zkd_11 (zgI_s ev_30).1 (C_Mo_isSign n E S a0 59 M q_32.1 q_32.2 eq_32) d_Mo_law_47 tw_1616 tw_1613 tw_1615 ts_63 tw_13 dd_Mo_isSign ⟨Nat.le_of_ble_eq_true rfl, Nat.le_of_ble_eq_true rfl, Nat.le_of_ble_eq_true rfl, Nat.le_of_ble_eq_true rfl⟩ (Nat.le_of_ble_eq_true rfl) rfl rfl rfl rfl ?_
    refine zo_ifeqB d_Mo_law_50 rfl 53 rfl (fun c_33 => ?_) (fun c_33 => ?_)
    · rw [if_neg c_33] at h
      refine zi_lo [(0, .ref a0)] [0] rfl ?_
      exact K_Mo_law_b64 n E S a0 q_32.2 r M'  h
    · rw [if_pos c_33] at h
      refine zi_aload_n 0 d_Mo_law_53 rfl ?_
      obtain ⟨q_34, eq_34, h⟩ := zbind h
      refine zo_virt (k' := 0) (n' := 0) 57 [] [] [] zkd_11 (zgI_s ev_30).1 (C_Mo_next n E S a0 q_32.2 q_34 eq_34) d_Mo_law_54 tw_1577 tw_1574 tw_1576 ts_56 tw_13 dd_Mo_next ⟨Nat.le_of_ble_eq_true rfl, Nat.le_of_ble_eq_true rfl, Nat.le_of_ble_eq_true rfl, Nat.le_of_ble_eq_true rfl⟩ (Nat.le_of_ble_eq_true rfl) rfl rfl rfl rfl ?_
      refine zi_aload_n 0 d_Mo_law_57 rfl ?_
      obtain ⟨q_35, eq_35, h⟩ := zbind h
      refine zo_virt (k' := 0) (n' := 0) 61 [] [] [] zkd_11 (zgI_s ev_30).1 (C_Mo_readLaw n E S a0 q_34 q_35 eq_35) d_Mo_law_58 tw_1591 tw_1588 tw_1590 ts_57 tw_13 dd_Mo_readLaw ⟨Nat.le_of_ble_eq_true rfl, Nat.le_of_ble_eq_true rfl, Nat.le_of_ble_eq_true rfl, Nat.le_of_ble_eq_true rfl⟩ (Nat.le_of_ble_eq_true rfl) rfl rfl rfl rfl ?_
      refine zi_goto (tgt := 37) d_Mo_law_61 rfl ?_
      refine zi_lo [(0, .ref a0)] [0] rfl ?_
      exact hr37 a0 q_35 h
theorem K_Mo_law_b37 (n : Nat) (E : zE) (S : zS) (a0 : Nat) (M : zH) (r : Int32) (M' : zH)  (h : F_Mo_law_b37 n E S (a0, M) = some (r, M')) : zG E Y_Mo_law (some (.int r), S, M') 37 [(0, .ref a0)] [] S M 0 0 := by
  have key : ∀ (k : Nat) (a0 : Nat) (M : zH), zfix (fun r37 s => F_Mo_law_L37 n E S r37 s.1 s.2) k (a0, M) = some (r, M') → zG E Y_Mo_law (some (.int r), S, M') 37 [(0, .ref a0)] [] S M 0 0 := by
    intro k
    induction k with
    | zero => intro a0 M h; cases h
    | succ k ih => intro a0 M h; exact K_Mo_law_L37 n E S _ a0 M r M'  (fun a0 M h => ih a0 M h) h
  exact key n a0 M h
theorem K_Mo_law (n : Nat) (E : zE) (S : zS) (a0 : Nat) (M : zH) (r : Int32) (M' : zH)  (h : F_Mo_law n E S a0 M = some (r, M')) : zG E Y_Mo_law (some (.int r), S, M') 0 [(0, .ref a0)] [] S M 0 0 := by
  unfold F_Mo_law at h
  refine zi_aload_n 0 d_Mo_law_0 rfl ?_
  refine zi_iconst 0 d_Mo_law_1 rfl ?_
  obtain ⟨m_36, em_36, h⟩ := zbind h
  refine zo_putI 5 zkd_11 0 d_Mo_law_2 em_36 rfl rfl rfl tw_1229 rfl ?_
  refine zi_aload_n 0 d_Mo_law_5 rfl ?_
  obtain ⟨b_37, eb_37, h⟩ := zbind h
  refine zo_getR 9 zkd_11 3 d_Mo_law_6 eb_37 rfl tw_1232 rfl ?_
  refine zi_iconst 2 d_Mo_law_9 rfl ?_
  obtain ⟨v_38, ev_38, h⟩ := zbind h
  refine zo_iald 11 d_Mo_law_10 ev_38 rfl ?_
  refine zi_bipush 6 d_Mo_law_11 rfl ?_
  refine zi_icmp_ne (tgt := 28) d_Mo_law_13 rfl (fun c_39 => ?_) (fun c_39 => ?_)
  · rw [if_neg c_39] at h
    refine zi_aload_n 0 d_Mo_law_28 rfl ?_
    refine zi_iconst 0 d_Mo_law_29 rfl ?_
    obtain ⟨q_42, eq_42, h⟩ := zbind h
    refine zo_virt (k' := 0) (n' := 0) 33 [.int 0] [] [] zkd_11 (zgR_s eb_37).1 (C_Mo_beginText n E S a0 0 m_36 q_42 eq_42) d_Mo_law_30 tw_1569 tw_1566 tw_1568 ts_54 tw_13 dd_Mo_beginText ⟨Nat.le_of_ble_eq_true rfl, Nat.le_of_ble_eq_true rfl, Nat.le_of_ble_eq_true rfl, Nat.le_of_ble_eq_true rfl⟩ (Nat.le_of_ble_eq_true rfl) rfl rfl rfl rfl ?_
    refine zi_aload_n 0 d_Mo_law_33 rfl ?_
    obtain ⟨q_43, eq_43, h⟩ := zbind h
    refine zo_virt (k' := 0) (n' := 0) 37 [] [] [] zkd_11 (zgR_s eb_37).1 (C_Mo_readLaw n E S a0 q_42 q_43 eq_43) d_Mo_law_34 tw_1591 tw_1588 tw_1590 ts_57 tw_13 dd_Mo_readLaw ⟨Nat.le_of_ble_eq_true rfl, Nat.le_of_ble_eq_true rfl, Nat.le_of_ble_eq_true rfl, Nat.le_of_ble_eq_true rfl⟩ (Nat.le_of_ble_eq_true rfl) rfl rfl rfl rfl ?_
    refine zi_lo [(0, .ref a0)] [0] rfl ?_
    exact K_Mo_law_b37 n E S a0 q_43 r M'  h
  · rw [if_pos c_39] at h
    refine zi_aload_n 0 d_Mo_law_16 rfl ?_
    refine zi_iconst 0 d_Mo_law_17 rfl ?_
    obtain ⟨m_40, em_40, h⟩ := zbind h
    refine zo_putI 21 zkd_11 13 d_Mo_law_18 em_40 rfl rfl rfl tw_1242 rfl ?_
    refine zi_aload_n 0 d_Mo_law_21 rfl ?_
    refine zi_bipush (-5) d_Mo_law_22 rfl ?_
    obtain ⟨q_41, eq_41, h⟩ := zbind h
    refine zo_virt (k' := 0) (n' := 0) 27 [.int (-5)] [] [.int q_41.1] zkd_11 (zgR_s eb_37).1 (C_Mo_tell n E S a0 (-5) m_40 q_41.1 q_41.2 eq_41) d_Mo_law_24 tw_1408 tw_1405 tw_1407 ts_36 tw_13 dd_Mo_tell ⟨Nat.le_of_ble_eq_true rfl, Nat.le_of_ble_eq_true rfl, Nat.le_of_ble_eq_true rfl, Nat.le_of_ble_eq_true rfl⟩ (Nat.le_of_ble_eq_true rfl) rfl rfl rfl rfl ?_
    cases h
    exact zo_ret d_Mo_law_27 (Nat.le_of_ble_eq_true rfl) (Nat.le_of_ble_eq_true rfl) rfl
theorem C_Mo_law (n : Nat) (E : zE) (S : zS) (a0 : Nat) (M : zH) (r : Int32) (M' : zH) (h : F_Mo_law n E S a0 M = some (r, M')) : zC E Y_Mo_law [.ref a0] S M (some (.int r), S, M') :=
  zC.of (Or.inl (show plainName "NightColanderModel" = true by decide)) (Nat.le_of_ble_eq_true rfl) (trivial) (K_Mo_law n E S a0 M r M' h)
theorem d_Mo_isLaw_0 : decode (yB Y_Mo_isLaw) 0 = .ok (.iload_n 1, 1) := by decide +kernel
theorem d_Mo_isLaw_1 : decode (yB Y_Mo_isLaw) 1 = .ok (.iconst (-1), 1) := by decide +kernel
theorem d_Mo_isLaw_2 : decode (yB Y_Mo_isLaw) 2 = .ok (.if_icmp .eq 21, 3) := by decide +kernel
theorem d_Mo_isLaw_5 : decode (yB Y_Mo_isLaw) 5 = .ok (.iload_n 1, 1) := by decide +kernel
theorem d_Mo_isLaw_6 : decode (yB Y_Mo_isLaw) 6 = .ok (.i2l, 1) := by decide +kernel
theorem d_Mo_isLaw_7 : decode (yB Y_Mo_isLaw) 7 = .ok (.lconst 0, 1) := by decide +kernel
theorem d_Mo_isLaw_8 : decode (yB Y_Mo_isLaw) 8 = .ok (.aload_n 0, 1) := by decide +kernel
theorem d_Mo_isLaw_9 : decode (yB Y_Mo_isLaw) 9 = .ok (.getfield 13, 3) := by decide +kernel
theorem d_Mo_isLaw_12 : decode (yB Y_Mo_isLaw) 12 = .ok (.iconst 2, 1) := by decide +kernel
theorem d_Mo_isLaw_13 : decode (yB Y_Mo_isLaw) 13 = .ok (.iaload, 1) := by decide +kernel
theorem d_Mo_isLaw_14 : decode (yB Y_Mo_isLaw) 14 = .ok (.i2l, 1) := by decide +kernel
theorem d_Mo_isLaw_15 : decode (yB Y_Mo_isLaw) 15 = .ok (.lconst 1, 1) := by decide +kernel
theorem d_Mo_isLaw_16 : decode (yB Y_Mo_isLaw) 16 = .ok (.lsub, 1) := by decide +kernel
theorem d_Mo_isLaw_17 : decode (yB Y_Mo_isLaw) 17 = .ok (.invokestatic 176, 3) := by decide +kernel
theorem d_Mo_isLaw_20 : decode (yB Y_Mo_isLaw) 20 = .ok (.ifCond .eq 7, 3) := by decide +kernel
theorem d_Mo_isLaw_23 : decode (yB Y_Mo_isLaw) 23 = .ok (.iconst 1, 1) := by decide +kernel
theorem d_Mo_isLaw_24 : decode (yB Y_Mo_isLaw) 24 = .ok (.goto 4, 3) := by decide +kernel
theorem d_Mo_isLaw_27 : decode (yB Y_Mo_isLaw) 27 = .ok (.iconst 0, 1) := by decide +kernel
theorem d_Mo_isLaw_28 : decode (yB Y_Mo_isLaw) 28 = .ok (.ireturn, 1) := by decide +kernel
def F_Mo_isLaw_b23 (n : Nat) (E : zE) (S : zS)  (M : zH) : Option (Bool × zH) :=
  some (true, M)
def F_Mo_isLaw (n : Nat) (E : zE) (S : zS) (a0 : Nat) (x1 : Int32) (M : zH) : Option (Bool × zH) :=
  if x1 = (-1) then
    F_Mo_isLaw_b23 n E S  M
  else
    (zgR S a0 11 3).bind fun b_2 =>
    (zldI S M b_2 2).bind fun v_3 =>
    (F_Mo_in n E S x1.toInt64 0 (v_3.toInt64 - 1) M).bind fun q_4 =>
    if q_4.1 = true then
      F_Mo_isLaw_b23 n E S  q_4.2
    else
      some (false, q_4.2)
theorem K_Mo_isLaw_b23 (n : Nat) (E : zE) (S : zS)  (M : zH) (r : Bool) (M' : zH)  (h : F_Mo_isLaw_b23 n E S  M = some (r, M')) : zG E Y_Mo_isLaw (some (.int (bI r)), S, M') 23 [] [] S M 0 0 := by
  unfold F_Mo_isLaw_b23 at h
  refine zi_iconst 1 d_Mo_isLaw_23 rfl ?_
  refine zi_goto (tgt := 28) d_Mo_isLaw_24 rfl ?_
  cases h
  exact zo_retB d_Mo_isLaw_28 (Nat.le_of_ble_eq_true rfl) (Nat.le_of_ble_eq_true rfl) rfl
theorem K_Mo_isLaw (n : Nat) (E : zE) (S : zS) (a0 : Nat) (x1 : Int32) (M : zH) (r : Bool) (M' : zH)  (h : F_Mo_isLaw n E S a0 x1 M = some (r, M')) : zG E Y_Mo_isLaw (some (.int (bI r)), S, M') 0 [(0, .ref a0), (1, .int x1)] [] S M 0 0 := by
  unfold F_Mo_isLaw at h
  refine zi_iload_n 1 d_Mo_isLaw_0 rfl ?_
  refine zi_iconst (-1) d_Mo_isLaw_1 rfl ?_
  refine zi_icmp_eq (tgt := 23) d_Mo_isLaw_2 rfl (fun c_1 => ?_) (fun c_1 => ?_)
  · rw [if_pos c_1] at h
    refine zi_lo [] [] rfl ?_
    exact K_Mo_isLaw_b23 n E S  M r M'  h
  · rw [if_neg c_1] at h
    refine zi_iload_n 1 d_Mo_isLaw_5 rfl ?_
    refine zi_i2l d_Mo_isLaw_6 ?_
    refine zi_lconst 0 d_Mo_isLaw_7 rfl ?_
    refine zi_aload_n 0 d_Mo_isLaw_8 rfl ?_
    obtain ⟨b_2, eb_2, h⟩ := zbind h
    refine zo_getR 12 zkd_11 3 d_Mo_isLaw_9 eb_2 rfl tw_1232 rfl ?_
    refine zi_iconst 2 d_Mo_isLaw_12 rfl ?_
    obtain ⟨v_3, ev_3, h⟩ := zbind h
    refine zo_iald 14 d_Mo_isLaw_13 ev_3 rfl ?_
    refine zi_i2l d_Mo_isLaw_14 ?_
    refine zi_lconst 1 d_Mo_isLaw_15 rfl ?_
    refine zi_lsub d_Mo_isLaw_16 ?_
    obtain ⟨q_4, eq_4, h⟩ := zbind h
    refine zo_stat (k' := 0) (n' := 0) 20 [.long x1.toInt64, .long 0, .long (v_3.toInt64 - 1)] [] [.int (bI q_4.1)] (C_Mo_in n E S x1.toInt64 0 (v_3.toInt64 - 1) M q_4.1 q_4.2 eq_4) d_Mo_isLaw_17 tw_1419 tw_1417 tw_1418 tw_13 dd_Mo_in ⟨Nat.le_of_ble_eq_true rfl, Nat.le_of_ble_eq_true rfl, Nat.le_of_ble_eq_true rfl, Nat.le_of_ble_eq_true rfl⟩ (Nat.le_of_ble_eq_true rfl) rfl rfl rfl rfl ?_
    refine zo_ifeqB d_Mo_isLaw_20 rfl 23 rfl (fun c_5 => ?_) (fun c_5 => ?_)
    · rw [if_neg c_5] at h
      refine zi_iconst 0 d_Mo_isLaw_27 rfl ?_
      cases h
      exact zo_retB d_Mo_isLaw_28 (Nat.le_of_ble_eq_true rfl) (Nat.le_of_ble_eq_true rfl) rfl
    · rw [if_pos c_5] at h
      refine zi_lo [] [] rfl ?_
      exact K_Mo_isLaw_b23 n E S  q_4.2 r M'  h
theorem C_Mo_isLaw (n : Nat) (E : zE) (S : zS) (a0 : Nat) (x1 : Int32) (M : zH) (r : Bool) (M' : zH) (h : F_Mo_isLaw n E S a0 x1 M = some (r, M')) : zC E Y_Mo_isLaw [.ref a0, .int x1] S M (some (.int (bI r)), S, M') :=
  zC.of (Or.inl (show plainName "NightColanderModel" = true by decide)) (Nat.le_of_ble_eq_true rfl) (bI_nar r) (K_Mo_isLaw n E S a0 x1 M r M' h)
theorem d_Mo_force_0 : decode (yB Y_Mo_force) 0 = .ok (.aload_n 0, 1) := by decide +kernel
theorem d_Mo_force_1 : decode (yB Y_Mo_force) 1 = .ok (.iconst 0, 1) := by decide +kernel
theorem d_Mo_force_2 : decode (yB Y_Mo_force) 2 = .ok (.putfield 156, 3) := by decide +kernel
theorem d_Mo_force_5 : decode (yB Y_Mo_force) 5 = .ok (.aload_n 0, 1) := by decide +kernel
theorem d_Mo_force_6 : decode (yB Y_Mo_force) 6 = .ok (.iload_n 1, 1) := by decide +kernel
theorem d_Mo_force_7 : decode (yB Y_Mo_force) 7 = .ok (.invokevirtual 402, 3) := by decide +kernel
theorem d_Mo_force_10 : decode (yB Y_Mo_force) 10 = .ok (.ifCond .eq 12, 3) := by decide +kernel
theorem d_Mo_force_13 : decode (yB Y_Mo_force) 13 = .ok (.aload_n 0, 1) := by decide +kernel
theorem d_Mo_force_14 : decode (yB Y_Mo_force) 14 = .ok (.iconst 3, 1) := by decide +kernel
theorem d_Mo_force_15 : decode (yB Y_Mo_force) 15 = .ok (.iload_n 1, 1) := by decide +kernel
theorem d_Mo_force_16 : decode (yB Y_Mo_force) 16 = .ok (.invokevirtual 205, 3) := by decide +kernel
theorem d_Mo_force_19 : decode (yB Y_Mo_force) 19 = .ok (.goto 9, 3) := by decide +kernel
theorem d_Mo_force_22 : decode (yB Y_Mo_force) 22 = .ok (.aload_n 0, 1) := by decide +kernel
theorem d_Mo_force_23 : decode (yB Y_Mo_force) 23 = .ok (.bipush (-2), 2) := by decide +kernel
theorem d_Mo_force_25 : decode (yB Y_Mo_force) 25 = .ok (.invokevirtual 165, 3) := by decide +kernel
theorem d_Mo_force_28 : decode (yB Y_Mo_force) 28 = .ok (.ireturn, 1) := by decide +kernel
def F_Mo_force (n : Nat) (E : zE) (S : zS) (a0 : Nat) (x1 : Int32) (M : zH) : Option (Int32 × zH) :=
  (zpI S M a0 11 0 0).bind fun m_1 =>
  (zck S a0 11).bind fun u_2 =>
  (F_Mo_isLaw n E S a0 x1 m_1).bind fun q_3 =>
  if q_3.1 = true then
    (F_Mo_change n E S a0 3 x1 q_3.2).bind fun q_5 =>
    some (q_5.1, q_5.2)
  else
    (F_Mo_tell n E S a0 (-2) q_3.2).bind fun q_6 =>
    some (q_6.1, q_6.2)
theorem K_Mo_force (n : Nat) (E : zE) (S : zS) (a0 : Nat) (x1 : Int32) (M : zH) (r : Int32) (M' : zH)  (h : F_Mo_force n E S a0 x1 M = some (r, M')) : zG E Y_Mo_force (some (.int r), S, M') 0 [(0, .ref a0), (1, .int x1)] [] S M 0 0 := by
  unfold F_Mo_force at h
  refine zi_aload_n 0 d_Mo_force_0 rfl ?_
  refine zi_iconst 0 d_Mo_force_1 rfl ?_
  obtain ⟨m_1, em_1, h⟩ := zbind h
  refine zo_putI 5 zkd_11 0 d_Mo_force_2 em_1 rfl rfl rfl tw_1229 rfl ?_
  refine zi_aload_n 0 d_Mo_force_5 rfl ?_
  refine zi_iload_n 1 d_Mo_force_6 rfl ?_
  obtain ⟨u_2, eu_2, h⟩ := zbind h
  obtain ⟨q_3, eq_3, h⟩ := zbind h
  refine zo_virt (k' := 0) (n' := 0) 10 [.int x1] [] [.int (bI q_3.1)] zkd_11 (zck_s eu_2) (C_Mo_isLaw n E S a0 x1 m_1 q_3.1 q_3.2 eq_3) d_Mo_force_7 tw_1688 tw_1685 tw_1687 ts_77 tw_13 dd_Mo_isLaw ⟨Nat.le_of_ble_eq_true rfl, Nat.le_of_ble_eq_true rfl, Nat.le_of_ble_eq_true rfl, Nat.le_of_ble_eq_true rfl⟩ (Nat.le_of_ble_eq_true rfl) rfl rfl rfl rfl ?_
  refine zo_ifeqB d_Mo_force_10 rfl 13 rfl (fun c_4 => ?_) (fun c_4 => ?_)
  · rw [if_neg c_4] at h
    refine zi_aload_n 0 d_Mo_force_22 rfl ?_
    refine zi_bipush (-2) d_Mo_force_23 rfl ?_
    obtain ⟨q_6, eq_6, h⟩ := zbind h
    refine zo_virt (k' := 0) (n' := 0) 28 [.int (-2)] [] [.int q_6.1] zkd_11 (zck_s eu_2) (C_Mo_tell n E S a0 (-2) q_3.2 q_6.1 q_6.2 eq_6) d_Mo_force_25 tw_1408 tw_1405 tw_1407 ts_36 tw_13 dd_Mo_tell ⟨Nat.le_of_ble_eq_true rfl, Nat.le_of_ble_eq_true rfl, Nat.le_of_ble_eq_true rfl, Nat.le_of_ble_eq_true rfl⟩ (Nat.le_of_ble_eq_true rfl) rfl rfl rfl rfl ?_
    cases h
    exact zo_ret d_Mo_force_28 (Nat.le_of_ble_eq_true rfl) (Nat.le_of_ble_eq_true rfl) rfl
  · rw [if_pos c_4] at h
    refine zi_aload_n 0 d_Mo_force_13 rfl ?_
    refine zi_iconst 3 d_Mo_force_14 rfl ?_
    refine zi_iload_n 1 d_Mo_force_15 rfl ?_
    obtain ⟨q_5, eq_5, h⟩ := zbind h
    refine zo_virt (k' := 0) (n' := 0) 19 [.int 3, .int x1] [] [.int q_5.1] zkd_11 (zck_s eu_2) (C_Mo_change n E S a0 3 x1 q_3.2 q_5.1 q_5.2 eq_5) d_Mo_force_16 tw_1480 tw_1477 tw_1479 ts_45 tw_13 dd_Mo_change ⟨Nat.le_of_ble_eq_true rfl, Nat.le_of_ble_eq_true rfl, Nat.le_of_ble_eq_true rfl, Nat.le_of_ble_eq_true rfl⟩ (Nat.le_of_ble_eq_true rfl) rfl rfl rfl rfl ?_
    refine zi_goto (tgt := 28) d_Mo_force_19 rfl ?_
    cases h
    exact zo_ret d_Mo_force_28 (Nat.le_of_ble_eq_true rfl) (Nat.le_of_ble_eq_true rfl) rfl
theorem C_Mo_force (n : Nat) (E : zE) (S : zS) (a0 : Nat) (x1 : Int32) (M : zH) (r : Int32) (M' : zH) (h : F_Mo_force n E S a0 x1 M = some (r, M')) : zC E Y_Mo_force [.ref a0, .int x1] S M (some (.int r), S, M') :=
  zC.of (Or.inl (show plainName "NightColanderModel" = true by decide)) (Nat.le_of_ble_eq_true rfl) (trivial) (K_Mo_force n E S a0 x1 M r M' h)
theorem d_Mo_keepAll_0 : decode (yB Y_Mo_keepAll) 0 = .ok (.iconst 0, 1) := by decide +kernel
theorem d_Mo_keepAll_1 : decode (yB Y_Mo_keepAll) 1 = .ok (.istore_n 2, 1) := by decide +kernel
theorem d_Mo_keepAll_2 : decode (yB Y_Mo_keepAll) 2 = .ok (.iload_n 2, 1) := by decide +kernel
theorem d_Mo_keepAll_3 : decode (yB Y_Mo_keepAll) 3 = .ok (.bipush 50, 2) := by decide +kernel
theorem d_Mo_keepAll_5 : decode (yB Y_Mo_keepAll) 5 = .ok (.if_icmp .ge 28, 3) := by decide +kernel
theorem d_Mo_keepAll_8 : decode (yB Y_Mo_keepAll) 8 = .ok (.aload_n 0, 1) := by decide +kernel
theorem d_Mo_keepAll_9 : decode (yB Y_Mo_keepAll) 9 = .ok (.getfield 23, 3) := by decide +kernel
theorem d_Mo_keepAll_12 : decode (yB Y_Mo_keepAll) 12 = .ok (.bipush 50, 2) := by decide +kernel
theorem d_Mo_keepAll_14 : decode (yB Y_Mo_keepAll) 14 = .ok (.iload_n 1, 1) := by decide +kernel
theorem d_Mo_keepAll_15 : decode (yB Y_Mo_keepAll) 15 = .ok (.imul, 1) := by decide +kernel
theorem d_Mo_keepAll_16 : decode (yB Y_Mo_keepAll) 16 = .ok (.iload_n 2, 1) := by decide +kernel
theorem d_Mo_keepAll_17 : decode (yB Y_Mo_keepAll) 17 = .ok (.iadd, 1) := by decide +kernel
theorem d_Mo_keepAll_18 : decode (yB Y_Mo_keepAll) 18 = .ok (.aload_n 0, 1) := by decide +kernel
theorem d_Mo_keepAll_19 : decode (yB Y_Mo_keepAll) 19 = .ok (.getfield 13, 3) := by decide +kernel
theorem d_Mo_keepAll_22 : decode (yB Y_Mo_keepAll) 22 = .ok (.iconst 4, 1) := by decide +kernel
theorem d_Mo_keepAll_23 : decode (yB Y_Mo_keepAll) 23 = .ok (.iload_n 2, 1) := by decide +kernel
theorem d_Mo_keepAll_24 : decode (yB Y_Mo_keepAll) 24 = .ok (.iadd, 1) := by decide +kernel
theorem d_Mo_keepAll_25 : decode (yB Y_Mo_keepAll) 25 = .ok (.iaload, 1) := by decide +kernel
theorem d_Mo_keepAll_26 : decode (yB Y_Mo_keepAll) 26 = .ok (.iastore, 1) := by decide +kernel
theorem d_Mo_keepAll_27 : decode (yB Y_Mo_keepAll) 27 = .ok (.iinc 2 1, 3) := by decide +kernel
theorem d_Mo_keepAll_30 : decode (yB Y_Mo_keepAll) 30 = .ok (.goto (-28), 3) := by decide +kernel
theorem d_Mo_keepAll_33 : decode (yB Y_Mo_keepAll) 33 = .ok (.return_, 1) := by decide +kernel
def F_Mo_keepAll_L2 (n : Nat) (E : zE) (S : zS) (r2 : Nat × Int32 × Int32 × zH → Option (zH)) (a0 : Nat) (x1 : Int32) (x2 : Int32) (M : zH) : Option (zH) :=
  if 50 ≤ x2 then
    some (M)
  else
    (zgR S a0 11 6).bind fun b_2 =>
    (zgR S a0 11 3).bind fun b_3 =>
    (zldI S M b_3 (4 + x2)).bind fun v_4 =>
    (zstI S M b_2 ((50 * x1) + x2) v_4).bind fun m_5 =>
    r2 (a0, x1, x2 + 1, m_5)
def F_Mo_keepAll_b2 (n : Nat) (E : zE) (S : zS) : Nat × Int32 × Int32 × zH → Option (zH) := zfix (fun r2 s => F_Mo_keepAll_L2 n E S r2 s.1 s.2.1 s.2.2.1 s.2.2.2) n
def F_Mo_keepAll (n : Nat) (E : zE) (S : zS) (a0 : Nat) (x1 : Int32) (M : zH) : Option (zH) :=
  F_Mo_keepAll_b2 n E S (a0, x1, 0, M)
theorem K_Mo_keepAll_L2 (n : Nat) (E : zE) (S : zS) (r2 : Nat × Int32 × Int32 × zH → Option (zH)) (a0 : Nat) (x1 : Int32) (x2 : Int32) (M : zH) (M' : zH) (hr2 : ∀ (a0 : Nat) (x1 : Int32) (x2 : Int32) (M : zH), r2 (a0, x1, x2, M) = some M' → zG E Y_Mo_keepAll (none, S, M') 2 [(0, .ref a0), (1, .int x1), (2, .int x2)] [] S M 0 0) (h : F_Mo_keepAll_L2 n E S r2 a0 x1 x2 M = some M') : zG E Y_Mo_keepAll (none, S, M') 2 [(0, .ref a0), (1, .int x1), (2, .int x2)] [] S M 0 0 := by
  unfold F_Mo_keepAll_L2 at h
  refine zi_iload_n 2 d_Mo_keepAll_2 rfl ?_
  refine zi_bipush 50 d_Mo_keepAll_3 rfl ?_
  refine zi_icmp_ge (tgt := 33) d_Mo_keepAll_5 rfl (fun c_1 => ?_) (fun c_1 => ?_)
  · rw [if_pos c_1] at h
    cases h
    exact zo_ret d_Mo_keepAll_33 (Nat.le_of_ble_eq_true rfl) (Nat.le_of_ble_eq_true rfl) rfl
  · rw [if_neg c_1] at h
    refine zi_aload_n 0 d_Mo_keepAll_8 rfl ?_
    obtain ⟨b_2, eb_2, h⟩ := zbind h
    refine zo_getR 12 zkd_11 6 d_Mo_keepAll_9 eb_2 rfl tw_1235 rfl ?_
    refine zi_bipush 50 d_Mo_keepAll_12 rfl ?_
    refine zi_iload_n 1 d_Mo_keepAll_14 rfl ?_
    refine zi_imul d_Mo_keepAll_15 ?_
    refine zi_iload_n 2 d_Mo_keepAll_16 rfl ?_
    refine zi_iadd d_Mo_keepAll_17 ?_
    refine zi_aload_n 0 d_Mo_keepAll_18 rfl ?_
    obtain ⟨b_3, eb_3, h⟩ := zbind h
    refine zo_getR 22 zkd_11 3 d_Mo_keepAll_19 eb_3 rfl tw_1232 rfl ?_
    refine zi_iconst 4 d_Mo_keepAll_22 rfl ?_
    refine zi_iload_n 2 d_Mo_keepAll_23 rfl ?_
    refine zi_iadd d_Mo_keepAll_24 ?_
    obtain ⟨v_4, ev_4, h⟩ := zbind h
    refine zo_iald 26 d_Mo_keepAll_25 ev_4 rfl ?_
    obtain ⟨m_5, em_5, h⟩ := zbind h
    refine zo_iast 27 d_Mo_keepAll_26 em_5 rfl ?_
    refine zi_iinc 2 (x2 + 1) [(2, .int (x2 + 1)), (0, .ref a0), (1, .int x1)] d_Mo_keepAll_27 rfl rfl (by decide) rfl ?_
    refine zi_goto (tgt := 2) d_Mo_keepAll_30 rfl ?_
    refine zi_lo [(0, .ref a0), (1, .int x1), (2, .int (x2 + 1))] [1, 2, 0] rfl ?_
    exact hr2 a0 x1 (x2 + 1) m_5 h
theorem K_Mo_keepAll_b2 (n : Nat) (E : zE) (S : zS) (a0 : Nat) (x1 : Int32) (x2 : Int32) (M : zH) (M' : zH)  (h : F_Mo_keepAll_b2 n E S (a0, x1, x2, M) = some M') : zG E Y_Mo_keepAll (none, S, M') 2 [(0, .ref a0), (1, .int x1), (2, .int x2)] [] S M 0 0 := by
  have key : ∀ (k : Nat) (a0 : Nat) (x1 : Int32) (x2 : Int32) (M : zH), zfix (fun r2 s => F_Mo_keepAll_L2 n E S r2 s.1 s.2.1 s.2.2.1 s.2.2.2) k (a0, x1, x2, M) = some M' → zG E Y_Mo_keepAll (none, S, M') 2 [(0, .ref a0), (1, .int x1), (2, .int x2)] [] S M 0 0 := by
    intro k
    induction k with
    | zero => intro a0 x1 x2 M h; cases h
    | succ k ih => intro a0 x1 x2 M h; exact K_Mo_keepAll_L2 n E S _ a0 x1 x2 M M'  (fun a0 x1 x2 M h => ih a0 x1 x2 M h) h
  exact key n a0 x1 x2 M h
theorem K_Mo_keepAll (n : Nat) (E : zE) (S : zS) (a0 : Nat) (x1 : Int32) (M : zH) (M' : zH)  (h : F_Mo_keepAll n E S a0 x1 M = some M') : zG E Y_Mo_keepAll (none, S, M') 0 [(0, .ref a0), (1, .int x1)] [] S M 0 0 := by
  unfold F_Mo_keepAll at h
  refine zi_iconst 0 d_Mo_keepAll_0 rfl ?_
  refine zi_istore_n [(2, .int 0), (0, .ref a0), (1, .int x1)] d_Mo_keepAll_1 (by decide) rfl ?_
  refine zi_lo [(0, .ref a0), (1, .int x1), (2, .int 0)] [1, 2, 0] rfl ?_
  exact K_Mo_keepAll_b2 n E S a0 x1 0 M M'  h
theorem C_Mo_keepAll (n : Nat) (E : zE) (S : zS) (a0 : Nat) (x1 : Int32) (M : zH) (M' : zH) (h : F_Mo_keepAll n E S a0 x1 M = some M') : zC E Y_Mo_keepAll [.ref a0, .int x1] S M (none, S, M') :=
  zC.of (Or.inl (show plainName "NightColanderModel" = true by decide)) (Nat.le_of_ble_eq_true rfl) (trivial) (K_Mo_keepAll n E S a0 x1 M M' h)
theorem d_Mo_remember_0 : decode (yB Y_Mo_remember) 0 = .ok (.aload_n 0, 1) := by decide +kernel
theorem d_Mo_remember_1 : decode (yB Y_Mo_remember) 1 = .ok (.getfield 162, 3) := by decide +kernel
theorem d_Mo_remember_4 : decode (yB Y_Mo_remember) 4 = .ok (.bipush 16, 2) := by decide +kernel
theorem d_Mo_remember_6 : decode (yB Y_Mo_remember) 6 = .ok (.if_icmp .ne 71, 3) := by decide +kernel
theorem d_Mo_remember_9 : decode (yB Y_Mo_remember) 9 = .ok (.iconst 0, 1) := by decide +kernel
theorem d_Mo_remember_10 : decode (yB Y_Mo_remember) 10 = .ok (.istore_n 2, 1) := by decide +kernel
theorem d_Mo_remember_11 : decode (yB Y_Mo_remember) 11 = .ok (.iload_n 2, 1) := by decide +kernel
theorem d_Mo_remember_12 : decode (yB Y_Mo_remember) 12 = .ok (.sipush 750, 3) := by decide +kernel
theorem d_Mo_remember_15 : decode (yB Y_Mo_remember) 15 = .ok (.if_icmp .ge 24, 3) := by decide +kernel
theorem d_Mo_remember_18 : decode (yB Y_Mo_remember) 18 = .ok (.aload_n 0, 1) := by decide +kernel
theorem d_Mo_remember_19 : decode (yB Y_Mo_remember) 19 = .ok (.getfield 23, 3) := by decide +kernel
theorem d_Mo_remember_22 : decode (yB Y_Mo_remember) 22 = .ok (.iload_n 2, 1) := by decide +kernel
theorem d_Mo_remember_23 : decode (yB Y_Mo_remember) 23 = .ok (.aload_n 0, 1) := by decide +kernel
theorem d_Mo_remember_24 : decode (yB Y_Mo_remember) 24 = .ok (.getfield 23, 3) := by decide +kernel
theorem d_Mo_remember_27 : decode (yB Y_Mo_remember) 27 = .ok (.iload_n 2, 1) := by decide +kernel
theorem d_Mo_remember_28 : decode (yB Y_Mo_remember) 28 = .ok (.bipush 50, 2) := by decide +kernel
theorem d_Mo_remember_30 : decode (yB Y_Mo_remember) 30 = .ok (.iadd, 1) := by decide +kernel
theorem d_Mo_remember_31 : decode (yB Y_Mo_remember) 31 = .ok (.iaload, 1) := by decide +kernel
theorem d_Mo_remember_32 : decode (yB Y_Mo_remember) 32 = .ok (.iastore, 1) := by decide +kernel
theorem d_Mo_remember_33 : decode (yB Y_Mo_remember) 33 = .ok (.iinc 2 1, 3) := by decide +kernel
theorem d_Mo_remember_36 : decode (yB Y_Mo_remember) 36 = .ok (.goto (-25), 3) := by decide +kernel
theorem d_Mo_remember_39 : decode (yB Y_Mo_remember) 39 = .ok (.iconst 0, 1) := by decide +kernel
theorem d_Mo_remember_40 : decode (yB Y_Mo_remember) 40 = .ok (.istore_n 2, 1) := by decide +kernel
theorem d_Mo_remember_41 : decode (yB Y_Mo_remember) 41 = .ok (.iload_n 2, 1) := by decide +kernel
theorem d_Mo_remember_42 : decode (yB Y_Mo_remember) 42 = .ok (.bipush 15, 2) := by decide +kernel
theorem d_Mo_remember_44 : decode (yB Y_Mo_remember) 44 = .ok (.if_icmp .ge 23, 3) := by decide +kernel
theorem d_Mo_remember_47 : decode (yB Y_Mo_remember) 47 = .ok (.aload_n 0, 1) := by decide +kernel
theorem d_Mo_remember_48 : decode (yB Y_Mo_remember) 48 = .ok (.getfield 26, 3) := by decide +kernel
theorem d_Mo_remember_51 : decode (yB Y_Mo_remember) 51 = .ok (.iload_n 2, 1) := by decide +kernel
theorem d_Mo_remember_52 : decode (yB Y_Mo_remember) 52 = .ok (.aload_n 0, 1) := by decide +kernel
theorem d_Mo_remember_53 : decode (yB Y_Mo_remember) 53 = .ok (.getfield 26, 3) := by decide +kernel
theorem d_Mo_remember_56 : decode (yB Y_Mo_remember) 56 = .ok (.iload_n 2, 1) := by decide +kernel
theorem d_Mo_remember_57 : decode (yB Y_Mo_remember) 57 = .ok (.iconst 1, 1) := by decide +kernel
theorem d_Mo_remember_58 : decode (yB Y_Mo_remember) 58 = .ok (.iadd, 1) := by decide +kernel
theorem d_Mo_remember_59 : decode (yB Y_Mo_remember) 59 = .ok (.iaload, 1) := by decide +kernel
theorem d_Mo_remember_60 : decode (yB Y_Mo_remember) 60 = .ok (.iastore, 1) := by decide +kernel
theorem d_Mo_remember_61 : decode (yB Y_Mo_remember) 61 = .ok (.iinc 2 1, 3) := by decide +kernel
theorem d_Mo_remember_64 : decode (yB Y_Mo_remember) 64 = .ok (.goto (-23), 3) := by decide +kernel
theorem d_Mo_remember_67 : decode (yB Y_Mo_remember) 67 = .ok (.aload_n 0, 1) := by decide +kernel
theorem d_Mo_remember_68 : decode (yB Y_Mo_remember) 68 = .ok (.dup, 1) := by decide +kernel
theorem d_Mo_remember_69 : decode (yB Y_Mo_remember) 69 = .ok (.getfield 162, 3) := by decide +kernel
theorem d_Mo_remember_72 : decode (yB Y_Mo_remember) 72 = .ok (.iconst 1, 1) := by decide +kernel
theorem d_Mo_remember_73 : decode (yB Y_Mo_remember) 73 = .ok (.isub, 1) := by decide +kernel
theorem d_Mo_remember_74 : decode (yB Y_Mo_remember) 74 = .ok (.putfield 162, 3) := by decide +kernel
theorem d_Mo_remember_77 : decode (yB Y_Mo_remember) 77 = .ok (.aload_n 0, 1) := by decide +kernel
theorem d_Mo_remember_78 : decode (yB Y_Mo_remember) 78 = .ok (.aload_n 0, 1) := by decide +kernel
theorem d_Mo_remember_79 : decode (yB Y_Mo_remember) 79 = .ok (.getfield 162, 3) := by decide +kernel
theorem d_Mo_remember_82 : decode (yB Y_Mo_remember) 82 = .ok (.invokevirtual 169, 3) := by decide +kernel
theorem d_Mo_remember_85 : decode (yB Y_Mo_remember) 85 = .ok (.aload_n 0, 1) := by decide +kernel
theorem d_Mo_remember_86 : decode (yB Y_Mo_remember) 86 = .ok (.getfield 26, 3) := by decide +kernel
theorem d_Mo_remember_89 : decode (yB Y_Mo_remember) 89 = .ok (.aload_n 0, 1) := by decide +kernel
theorem d_Mo_remember_90 : decode (yB Y_Mo_remember) 90 = .ok (.getfield 162, 3) := by decide +kernel
theorem d_Mo_remember_93 : decode (yB Y_Mo_remember) 93 = .ok (.iload_n 1, 1) := by decide +kernel
theorem d_Mo_remember_94 : decode (yB Y_Mo_remember) 94 = .ok (.iastore, 1) := by decide +kernel
theorem d_Mo_remember_95 : decode (yB Y_Mo_remember) 95 = .ok (.aload_n 0, 1) := by decide +kernel
theorem d_Mo_remember_96 : decode (yB Y_Mo_remember) 96 = .ok (.dup, 1) := by decide +kernel
theorem d_Mo_remember_97 : decode (yB Y_Mo_remember) 97 = .ok (.getfield 162, 3) := by decide +kernel
theorem d_Mo_remember_100 : decode (yB Y_Mo_remember) 100 = .ok (.iconst 1, 1) := by decide +kernel
theorem d_Mo_remember_101 : decode (yB Y_Mo_remember) 101 = .ok (.iadd, 1) := by decide +kernel
theorem d_Mo_remember_102 : decode (yB Y_Mo_remember) 102 = .ok (.putfield 162, 3) := by decide +kernel
theorem d_Mo_remember_105 : decode (yB Y_Mo_remember) 105 = .ok (.return_, 1) := by decide +kernel
def F_Mo_remember_b77 (n : Nat) (E : zE) (S : zS) (a0 : Nat) (x1 : Int32) (M : zH) : Option (zH) :=
  (zgI S M a0 11 8).bind fun v_1 =>
  (F_Mo_keepAll n E S a0 v_1 M).bind fun q_2 =>
  (zgR S a0 11 7).bind fun b_3 =>
  (zgI S q_2 a0 11 8).bind fun v_4 =>
  (zstI S q_2 b_3 v_4 x1).bind fun m_5 =>
  (zgI S m_5 a0 11 8).bind fun v_6 =>
  (zpI S m_5 a0 11 8 (v_6 + 1)).bind fun m_7 =>
  some (m_7)
def F_Mo_remember_L41 (n : Nat) (E : zE) (S : zS) (r41 : Nat × Int32 × Int32 × zH → Option (zH)) (a0 : Nat) (x1 : Int32) (x2 : Int32) (M : zH) : Option (zH) :=
  if 15 ≤ x2 then
    (zgI S M a0 11 8).bind fun v_9 =>
    (zpI S M a0 11 8 (v_9 - 1)).bind fun m_10 =>
    F_Mo_remember_b77 n E S a0 x1 m_10
  else
    (zgR S a0 11 7).bind fun b_11 =>
    (zldI S M b_11 (x2 + 1)).bind fun v_12 =>
    (zstI S M b_11 x2 v_12).bind fun m_13 =>
    r41 (a0, x1, x2 + 1, m_13)
def F_Mo_remember_b41 (n : Nat) (E : zE) (S : zS) : Nat × Int32 × Int32 × zH → Option (zH) := zfix (fun r41 s => F_Mo_remember_L41 n E S r41 s.1 s.2.1 s.2.2.1 s.2.2.2) n
def F_Mo_remember_L11 (n : Nat) (E : zE) (S : zS) (r11 : Nat × Int32 × Int32 × zH → Option (zH)) (a0 : Nat) (x1 : Int32) (x2 : Int32) (M : zH) : Option (zH) :=
  if 750 ≤ x2 then
    F_Mo_remember_b41 n E S (a0, x1, 0, M)
  else
    (zgR S a0 11 6).bind fun b_15 =>
    (zldI S M b_15 (x2 + 50)).bind fun v_16 =>
    (zstI S M b_15 x2 v_16).bind fun m_17 =>
    r11 (a0, x1, x2 + 1, m_17)
def F_Mo_remember_b11 (n : Nat) (E : zE) (S : zS) : Nat × Int32 × Int32 × zH → Option (zH) := zfix (fun r11 s => F_Mo_remember_L11 n E S r11 s.1 s.2.1 s.2.2.1 s.2.2.2) n
def F_Mo_remember (n : Nat) (E : zE) (S : zS) (a0 : Nat) (x1 : Int32) (M : zH) : Option (zH) :=
  (zgI S M a0 11 8).bind fun v_18 =>
  if v_18 = 16 then
    F_Mo_remember_b11 n E S (a0, x1, 0, M)
  else
    F_Mo_remember_b77 n E S a0 x1 M
theorem K_Mo_remember_b77 (n : Nat) (E : zE) (S : zS) (a0 : Nat) (x1 : Int32) (M : zH) (M' : zH)  (h : F_Mo_remember_b77 n E S a0 x1 M = some M') : zG E Y_Mo_remember (none, S, M') 77 [(0, .ref a0), (1, .int x1)] [] S M 0 0 := by
  unfold F_Mo_remember_b77 at h
  refine zi_aload_n 0 d_Mo_remember_77 rfl ?_
  refine zi_aload_n 0 d_Mo_remember_78 rfl ?_
  obtain ⟨v_1, ev_1, h⟩ := zbind h
  refine zo_getI 82 zkd_11 8 d_Mo_remember_79 ev_1 rfl tw_1237 rfl ?_
  obtain ⟨q_2, eq_2, h⟩ := zbind h
  refine zo_virt (k' := 0) (n' := 0) 85 [.int v_1] [] [] zkd_11 (zgI_s ev_1).1 (C_Mo_keepAll n E S a0 v_1 M q_2 eq_2) d_Mo_remember_82 tw_1704 tw_1701 tw_1703 ts_80 tw_13 dd_Mo_keepAll ⟨Nat.le_of_ble_eq_true rfl, Nat.le_of_ble_eq_true rfl, Nat.le_of_ble_eq_true rfl, Nat.le_of_ble_eq_true rfl⟩ (Nat.le_of_ble_eq_true rfl) rfl rfl rfl rfl ?_
  refine zi_aload_n 0 d_Mo_remember_85 rfl ?_
  obtain ⟨b_3, eb_3, h⟩ := zbind h
  refine zo_getR 89 zkd_11 7 d_Mo_remember_86 eb_3 rfl tw_1236 rfl ?_
  refine zi_aload_n 0 d_Mo_remember_89 rfl ?_
  obtain ⟨v_4, ev_4, h⟩ := zbind h
  refine zo_getI 93 zkd_11 8 d_Mo_remember_90 ev_4 rfl tw_1237 rfl ?_
  refine zi_iload_n 1 d_Mo_remember_93 rfl ?_
  obtain ⟨m_5, em_5, h⟩ := zbind h
  refine zo_iast 95 d_Mo_remember_94 em_5 rfl ?_
  refine zi_aload_n 0 d_Mo_remember_95 rfl ?_
  refine zi_dup d_Mo_remember_96 rfl ?_
  obtain ⟨v_6, ev_6, h⟩ := zbind h
  refine zo_getI 100 zkd_11 8 d_Mo_remember_97 ev_6 rfl tw_1237 rfl ?_
  refine zi_iconst 1 d_Mo_remember_100 rfl ?_
  refine zi_iadd d_Mo_remember_101 ?_
  obtain ⟨m_7, em_7, h⟩ := zbind h
  refine zo_putI 105 zkd_11 8 d_Mo_remember_102 em_7 rfl rfl rfl tw_1237 rfl ?_
  cases h
  exact zo_ret d_Mo_remember_105 (Nat.le_of_ble_eq_true rfl) (Nat.le_of_ble_eq_true rfl) rfl
theorem K_Mo_remember_L41 (n : Nat) (E : zE) (S : zS) (r41 : Nat × Int32 × Int32 × zH → Option (zH)) (a0 : Nat) (x1 : Int32) (x2 : Int32) (M : zH) (M' : zH) (hr41 : ∀ (a0 : Nat) (x1 : Int32) (x2 : Int32) (M : zH), r41 (a0, x1, x2, M) = some M' → zG E Y_Mo_remember (none, S, M') 41 [(0, .ref a0), (1, .int x1), (2, .int x2)] [] S M 0 0) (h : F_Mo_remember_L41 n E S r41 a0 x1 x2 M = some M') : zG E Y_Mo_remember (none, S, M') 41 [(0, .ref a0), (1, .int x1), (2, .int x2)] [] S M 0 0 := by
  unfold F_Mo_remember_L41 at h
  refine zi_iload_n 2 d_Mo_remember_41 rfl ?_
  refine zi_bipush 15 d_Mo_remember_42 rfl ?_
  refine zi_icmp_ge (tgt := 67) d_Mo_remember_44 rfl (fun c_8 => ?_) (fun c_8 => ?_)
  · rw [if_pos c_8] at h
    refine zi_aload_n 0 d_Mo_remember_67 rfl ?_
    refine zi_dup d_Mo_remember_68 rfl ?_
    obtain ⟨v_9, ev_9, h⟩ := zbind h
    refine zo_getI 72 zkd_11 8 d_Mo_remember_69 ev_9 rfl tw_1237 rfl ?_
    refine zi_iconst 1 d_Mo_remember_72 rfl ?_
    refine zi_isub d_Mo_remember_73 ?_
    obtain ⟨m_10, em_10, h⟩ := zbind h
    refine zo_putI 77 zkd_11 8 d_Mo_remember_74 em_10 rfl rfl rfl tw_1237 rfl ?_
    refine zi_lo [(0, .ref a0), (1, .int x1)] [0, 1] rfl ?_
    exact K_Mo_remember_b77 n E S a0 x1 m_10 M'  h
  · rw [if_neg c_8] at h
    refine zi_aload_n 0 d_Mo_remember_47 rfl ?_
    obtain ⟨b_11, eb_11, h⟩ := zbind h
    refine zo_getR 51 zkd_11 7 d_Mo_remember_48 eb_11 rfl tw_1236 rfl ?_
    refine zi_iload_n 2 d_Mo_remember_51 rfl ?_
    refine zi_aload_n 0 d_Mo_remember_52 rfl ?_
    refine zo_getR 56 zkd_11 7 d_Mo_remember_53 eb_11 rfl tw_1236 rfl ?_
    refine zi_iload_n 2 d_Mo_remember_56 rfl ?_
    refine zi_iconst 1 d_Mo_remember_57 rfl ?_
    refine zi_iadd d_Mo_remember_58 ?_
    obtain ⟨v_12, ev_12, h⟩ := zbind h
    refine zo_iald 60 d_Mo_remember_59 ev_12 rfl ?_
    obtain ⟨m_13, em_13, h⟩ := zbind h
    refine zo_iast 61 d_Mo_remember_60 em_13 rfl ?_
    refine zi_iinc 2 (x2 + 1) [(2, .int (x2 + 1)), (0, .ref a0), (1, .int x1)] d_Mo_remember_61 rfl rfl (by decide) rfl ?_
    refine zi_goto (tgt := 41) d_Mo_remember_64 rfl ?_
    refine zi_lo [(0, .ref a0), (1, .int x1), (2, .int (x2 + 1))] [1, 2, 0] rfl ?_
    exact hr41 a0 x1 (x2 + 1) m_13 h
theorem K_Mo_remember_b41 (n : Nat) (E : zE) (S : zS) (a0 : Nat) (x1 : Int32) (x2 : Int32) (M : zH) (M' : zH)  (h : F_Mo_remember_b41 n E S (a0, x1, x2, M) = some M') : zG E Y_Mo_remember (none, S, M') 41 [(0, .ref a0), (1, .int x1), (2, .int x2)] [] S M 0 0 := by
  have key : ∀ (k : Nat) (a0 : Nat) (x1 : Int32) (x2 : Int32) (M : zH), zfix (fun r41 s => F_Mo_remember_L41 n E S r41 s.1 s.2.1 s.2.2.1 s.2.2.2) k (a0, x1, x2, M) = some M' → zG E Y_Mo_remember (none, S, M') 41 [(0, .ref a0), (1, .int x1), (2, .int x2)] [] S M 0 0 := by
    intro k
    induction k with
    | zero => intro a0 x1 x2 M h; cases h
    | succ k ih => intro a0 x1 x2 M h; exact K_Mo_remember_L41 n E S _ a0 x1 x2 M M'  (fun a0 x1 x2 M h => ih a0 x1 x2 M h) h
  exact key n a0 x1 x2 M h
theorem K_Mo_remember_L11 (n : Nat) (E : zE) (S : zS) (r11 : Nat × Int32 × Int32 × zH → Option (zH)) (a0 : Nat) (x1 : Int32) (x2 : Int32) (M : zH) (M' : zH) (hr11 : ∀ (a0 : Nat) (x1 : Int32) (x2 : Int32) (M : zH), r11 (a0, x1, x2, M) = some M' → zG E Y_Mo_remember (none, S, M') 11 [(0, .ref a0), (1, .int x1), (2, .int x2)] [] S M 0 0) (h : F_Mo_remember_L11 n E S r11 a0 x1 x2 M = some M') : zG E Y_Mo_remember (none, S, M') 11 [(0, .ref a0), (1, .int x1), (2, .int x2)] [] S M 0 0 := by
  unfold F_Mo_remember_L11 at h
  refine zi_iload_n 2 d_Mo_remember_11 rfl ?_
  refine zi_sipush 750 d_Mo_remember_12 rfl ?_
  refine zi_icmp_ge (tgt := 39) d_Mo_remember_15 rfl (fun c_14 => ?_) (fun c_14 => ?_)
  · rw [if_pos c_14] at h
    refine zi_iconst 0 d_Mo_remember_39 rfl ?_
    refine zi_istore_n [(2, .int 0), (0, .ref a0), (1, .int x1)] d_Mo_remember_40 (by decide) rfl ?_
    refine zi_lo [(0, .ref a0), (1, .int x1), (2, .int 0)] [1, 2, 0] rfl ?_
    exact K_Mo_remember_b41 n E S a0 x1 0 M M'  h
  · rw [if_neg c_14] at h
    refine zi_aload_n 0 d_Mo_remember_18 rfl ?_
    obtain ⟨b_15, eb_15, h⟩ := zbind h
    refine zo_getR 22 zkd_11 6 d_Mo_remember_19 eb_15 rfl tw_1235 rfl ?_
    refine zi_iload_n 2 d_Mo_remember_22 rfl ?_
    refine zi_aload_n 0 d_Mo_remember_23 rfl ?_
    refine zo_getR 27 zkd_11 6 d_Mo_remember_24 eb_15 rfl tw_1235 rfl ?_
    refine zi_iload_n 2 d_Mo_remember_27 rfl ?_
    refine zi_bipush 50 d_Mo_remember_28 rfl ?_
    refine zi_iadd d_Mo_remember_30 ?_
    obtain ⟨v_16, ev_16, h⟩ := zbind h
    refine zo_iald 32 d_Mo_remember_31 ev_16 rfl ?_
    obtain ⟨m_17, em_17, h⟩ := zbind h
    refine zo_iast 33 d_Mo_remember_32 em_17 rfl ?_
    refine zi_iinc 2 (x2 + 1) [(2, .int (x2 + 1)), (0, .ref a0), (1, .int x1)] d_Mo_remember_33 rfl rfl (by decide) rfl ?_
    refine zi_goto (tgt := 11) d_Mo_remember_36 rfl ?_
    refine zi_lo [(0, .ref a0), (1, .int x1), (2, .int (x2 + 1))] [1, 2, 0] rfl ?_
    exact hr11 a0 x1 (x2 + 1) m_17 h
theorem K_Mo_remember_b11 (n : Nat) (E : zE) (S : zS) (a0 : Nat) (x1 : Int32) (x2 : Int32) (M : zH) (M' : zH)  (h : F_Mo_remember_b11 n E S (a0, x1, x2, M) = some M') : zG E Y_Mo_remember (none, S, M') 11 [(0, .ref a0), (1, .int x1), (2, .int x2)] [] S M 0 0 := by
  have key : ∀ (k : Nat) (a0 : Nat) (x1 : Int32) (x2 : Int32) (M : zH), zfix (fun r11 s => F_Mo_remember_L11 n E S r11 s.1 s.2.1 s.2.2.1 s.2.2.2) k (a0, x1, x2, M) = some M' → zG E Y_Mo_remember (none, S, M') 11 [(0, .ref a0), (1, .int x1), (2, .int x2)] [] S M 0 0 := by
    intro k
    induction k with
    | zero => intro a0 x1 x2 M h; cases h
    | succ k ih => intro a0 x1 x2 M h; exact K_Mo_remember_L11 n E S _ a0 x1 x2 M M'  (fun a0 x1 x2 M h => ih a0 x1 x2 M h) h
  exact key n a0 x1 x2 M h
theorem K_Mo_remember (n : Nat) (E : zE) (S : zS) (a0 : Nat) (x1 : Int32) (M : zH) (M' : zH)  (h : F_Mo_remember n E S a0 x1 M = some M') : zG E Y_Mo_remember (none, S, M') 0 [(0, .ref a0), (1, .int x1)] [] S M 0 0 := by
  unfold F_Mo_remember at h
  refine zi_aload_n 0 d_Mo_remember_0 rfl ?_
  obtain ⟨v_18, ev_18, h⟩ := zbind h
  refine zo_getI 4 zkd_11 8 d_Mo_remember_1 ev_18 rfl tw_1237 rfl ?_
  refine zi_bipush 16 d_Mo_remember_4 rfl ?_
  refine zi_icmp_ne (tgt := 77) d_Mo_remember_6 rfl (fun c_19 => ?_) (fun c_19 => ?_)
  · rw [if_neg c_19] at h
    refine zi_lo [(0, .ref a0), (1, .int x1)] [0, 1] rfl ?_
    exact K_Mo_remember_b77 n E S a0 x1 M M'  h
  · rw [if_pos c_19] at h
    refine zi_iconst 0 d_Mo_remember_9 rfl ?_
    refine zi_istore_n [(2, .int 0), (0, .ref a0), (1, .int x1)] d_Mo_remember_10 (by decide) rfl ?_
    refine zi_lo [(0, .ref a0), (1, .int x1), (2, .int 0)] [1, 2, 0] rfl ?_
    exact K_Mo_remember_b11 n E S a0 x1 0 M M'  h
theorem C_Mo_remember (n : Nat) (E : zE) (S : zS) (a0 : Nat) (x1 : Int32) (M : zH) (M' : zH) (h : F_Mo_remember n E S a0 x1 M = some M') : zC E Y_Mo_remember [.ref a0, .int x1] S M (none, S, M') :=
  zC.of (Or.inl (show plainName "NightColanderModel" = true by decide)) (Nat.le_of_ble_eq_true rfl) (trivial) (K_Mo_remember n E S a0 x1 M M' h)
