/-! METHODS (printed by gen/build.py): NC_years Ni_boresOfRing NC_drawn NC_image NC_back Ni_blockedHoles NC_count NC_status Mo_init -/
theorem d_NC_years_0 : decode (yB Y_NC_years) 0 = .ok (.iload_n 1, 1) := by decide +kernel
theorem d_NC_years_1 : decode (yB Y_NC_years) 1 = .ok (.iconst 0, 1) := by decide +kernel
theorem d_NC_years_2 : decode (yB Y_NC_years) 2 = .ok (.ldc_w 313, 3) := by decide +kernel
theorem d_NC_years_5 : decode (yB Y_NC_years) 5 = .ok (.invokestatic 132, 3) := by decide +kernel
theorem d_NC_years_8 : decode (yB Y_NC_years) 8 = .ok (.ifCond .eq 13, 3) := by decide +kernel
theorem d_NC_years_11 : decode (yB Y_NC_years) 11 = .ok (.iload_n 2, 1) := by decide +kernel
theorem d_NC_years_12 : decode (yB Y_NC_years) 12 = .ok (.iconst 1, 1) := by decide +kernel
theorem d_NC_years_13 : decode (yB Y_NC_years) 13 = .ok (.bipush 60, 2) := by decide +kernel
theorem d_NC_years_15 : decode (yB Y_NC_years) 15 = .ok (.invokestatic 132, 3) := by decide +kernel
theorem d_NC_years_18 : decode (yB Y_NC_years) 18 = .ok (.ifCond .ne 9, 3) := by decide +kernel
theorem d_NC_years_21 : decode (yB Y_NC_years) 21 = .ok (.aload_n 0, 1) := by decide +kernel
theorem d_NC_years_22 : decode (yB Y_NC_years) 22 = .ok (.iconst (-1), 1) := by decide +kernel
theorem d_NC_years_23 : decode (yB Y_NC_years) 23 = .ok (.invokevirtual 136, 3) := by decide +kernel
theorem d_NC_years_26 : decode (yB Y_NC_years) 26 = .ok (.ireturn, 1) := by decide +kernel
theorem d_NC_years_27 : decode (yB Y_NC_years) 27 = .ok (.aload_n 0, 1) := by decide +kernel
theorem d_NC_years_28 : decode (yB Y_NC_years) 28 = .ok (.getfield 26, 3) := by decide +kernel
theorem d_NC_years_31 : decode (yB Y_NC_years) 31 = .ok (.aload_n 0, 1) := by decide +kernel
theorem d_NC_years_32 : decode (yB Y_NC_years) 32 = .ok (.getfield 12, 3) := by decide +kernel
theorem d_NC_years_35 : decode (yB Y_NC_years) 35 = .ok (.invokevirtual 229, 3) := by decide +kernel
theorem d_NC_years_38 : decode (yB Y_NC_years) 38 = .ok (.aload_n 0, 1) := by decide +kernel
theorem d_NC_years_39 : decode (yB Y_NC_years) 39 = .ok (.iconst 1, 1) := by decide +kernel
theorem d_NC_years_40 : decode (yB Y_NC_years) 40 = .ok (.putfield 94, 3) := by decide +kernel
theorem d_NC_years_43 : decode (yB Y_NC_years) 43 = .ok (.aload_n 0, 1) := by decide +kernel
theorem d_NC_years_44 : decode (yB Y_NC_years) 44 = .ok (.aload_n 0, 1) := by decide +kernel
theorem d_NC_years_45 : decode (yB Y_NC_years) 45 = .ok (.getfield 70, 3) := by decide +kernel
theorem d_NC_years_48 : decode (yB Y_NC_years) 48 = .ok (.aload_n 0, 1) := by decide +kernel
theorem d_NC_years_49 : decode (yB Y_NC_years) 49 = .ok (.getfield 26, 3) := by decide +kernel
theorem d_NC_years_52 : decode (yB Y_NC_years) 52 = .ok (.iload_n 1, 1) := by decide +kernel
theorem d_NC_years_53 : decode (yB Y_NC_years) 53 = .ok (.iload_n 2, 1) := by decide +kernel
theorem d_NC_years_54 : decode (yB Y_NC_years) 54 = .ok (.invokevirtual 314, 3) := by decide +kernel
theorem d_NC_years_57 : decode (yB Y_NC_years) 57 = .ok (.invokevirtual 146, 3) := by decide +kernel
theorem d_NC_years_60 : decode (yB Y_NC_years) 60 = .ok (.ireturn, 1) := by decide +kernel
def F_NC_years_b21 (n : Nat) (E : zE) (S : zS) (a0 : Nat) (M : zH) : Option (Int32 × zH) :=
  (zck S a0 10).bind fun u_1 =>
  (F_NC_refuse n E S a0 (-1) M).bind fun q_2 =>
  some (q_2.1, q_2.2)
def F_NC_years (n : Nat) (E : zE) (S : zS) (a0 : Nat) (x1 : Int32) (x2 : Int32) (M : zH) : Option (Int32 × zH) :=
  (F_NC_within n E S x1 0 1000000 M).bind fun q_3 =>
  if q_3.1 = true then
    (F_NC_within n E S x2 1 60 q_3.2).bind fun q_5 =>
    if q_5.1 = true then
      (zgR S a0 10 3).bind fun b_7 =>
      (zgR S a0 10 0).bind fun b_8 =>
      (zck S b_7 3).bind fun u_9 =>
      (F_Ni_copyFrom n E S b_7 b_8 q_5.2).bind fun q_10 =>
      (zpZ S q_10 a0 10 14 1).bind fun m_11 =>
      (zgR S a0 10 10).bind fun b_12 =>
      (zck S b_12 0).bind fun u_13 =>
      (F_De_runYears n E S b_12 b_7 x1 x2 m_11).bind fun q_14 =>
      (F_NC_accept n E S a0 q_14.1 q_14.2).bind fun q_15 =>
      some (q_15.1, q_15.2)
    else
      F_NC_years_b21 n E S a0 q_5.2
  else
    F_NC_years_b21 n E S a0 q_3.2
theorem K_NC_years_b21 (n : Nat) (E : zE) (S : zS) (a0 : Nat) (M : zH) (r : Int32) (M' : zH)  (h : F_NC_years_b21 n E S a0 M = some (r, M')) : zG E Y_NC_years (some (.int r), S, M') 21 [(0, .ref a0)] [] S M 0 0 := by
  unfold F_NC_years_b21 at h
  refine zi_aload_n 0 d_NC_years_21 rfl ?_
  refine zi_iconst (-1) d_NC_years_22 rfl ?_
  obtain ⟨u_1, eu_1, h⟩ := zbind h
  obtain ⟨q_2, eq_2, h⟩ := zbind h
  refine zo_virt (k' := 0) (n' := 0) 26 [.int (-1)] [] [.int q_2.1] zkd_10 (zck_s eu_1) (C_NC_refuse n E S a0 (-1) M q_2.1 q_2.2 eq_2) d_NC_years_23 tw_450 tw_447 tw_449 ts_1 tw_1 dd_NC_refuse ⟨Nat.le_of_ble_eq_true rfl, Nat.le_of_ble_eq_true rfl, Nat.le_of_ble_eq_true rfl, Nat.le_of_ble_eq_true rfl⟩ (Nat.le_of_ble_eq_true rfl) rfl rfl rfl rfl ?_
  cases h
  exact zo_ret d_NC_years_26 (Nat.le_of_ble_eq_true rfl) (Nat.le_of_ble_eq_true rfl) rfl
theorem K_NC_years (n : Nat) (E : zE) (S : zS) (a0 : Nat) (x1 : Int32) (x2 : Int32) (M : zH) (r : Int32) (M' : zH)  (h : F_NC_years n E S a0 x1 x2 M = some (r, M')) : zG E Y_NC_years (some (.int r), S, M') 0 [(0, .ref a0), (1, .int x1), (2, .int x2)] [] S M 0 0 := by
  unfold F_NC_years at h
  refine zi_iload_n 1 d_NC_years_0 rfl ?_
  refine zi_iconst 0 d_NC_years_1 rfl ?_
  refine zi_ldcw d_NC_years_2 tw_1160 ?_
  obtain ⟨q_3, eq_3, h⟩ := zbind h
  refine zo_stat (k' := 0) (n' := 0) 8 [.int x1, .int 0, .int 1000000] [] [.int (bI q_3.1)] (C_NC_within n E S x1 0 1000000 M q_3.1 q_3.2 eq_3) d_NC_years_5 tw_399 tw_397 tw_398 tw_1 dd_NC_within ⟨Nat.le_of_ble_eq_true rfl, Nat.le_of_ble_eq_true rfl, Nat.le_of_ble_eq_true rfl, Nat.le_of_ble_eq_true rfl⟩ (Nat.le_of_ble_eq_true rfl) rfl rfl rfl rfl ?_
  refine zo_ifeqB d_NC_years_8 rfl 11 rfl (fun c_4 => ?_) (fun c_4 => ?_)
  · rw [if_neg c_4] at h
    refine zi_lo [(0, .ref a0)] [0] rfl ?_
    exact K_NC_years_b21 n E S a0 q_3.2 r M'  h
  · rw [if_pos c_4] at h
    refine zi_iload_n 2 d_NC_years_11 rfl ?_
    refine zi_iconst 1 d_NC_years_12 rfl ?_
    refine zi_bipush 60 d_NC_years_13 rfl ?_
    obtain ⟨q_5, eq_5, h⟩ := zbind h
    refine zo_stat (k' := 0) (n' := 0) 18 [.int x2, .int 1, .int 60] [] [.int (bI q_5.1)] (C_NC_within n E S x2 1 60 q_3.2 q_5.1 q_5.2 eq_5) d_NC_years_15 tw_399 tw_397 tw_398 tw_1 dd_NC_within ⟨Nat.le_of_ble_eq_true rfl, Nat.le_of_ble_eq_true rfl, Nat.le_of_ble_eq_true rfl, Nat.le_of_ble_eq_true rfl⟩ (Nat.le_of_ble_eq_true rfl) rfl rfl rfl rfl ?_
    refine zo_ifneB d_NC_years_18 rfl 21 rfl (fun c_6 => ?_) (fun c_6 => ?_)
    · rw [if_pos c_6] at h
      refine zi_aload_n 0 d_NC_years_27 rfl ?_
      obtain ⟨b_7, eb_7, h⟩ := zbind h
      refine zo_getR 31 zkd_10 3 d_NC_years_28 eb_7 rfl tw_335 rfl ?_
      refine zi_aload_n 0 d_NC_years_31 rfl ?_
      obtain ⟨b_8, eb_8, h⟩ := zbind h
      refine zo_getR 35 zkd_10 0 d_NC_years_32 eb_8 rfl tw_332 rfl ?_
      obtain ⟨u_9, eu_9, h⟩ := zbind h
      obtain ⟨q_10, eq_10, h⟩ := zbind h
      refine zo_virt (k' := 0) (n' := 0) 38 [.ref b_8] [] [] zkd_3 (zck_s eu_9) (C_Ni_copyFrom n E S b_7 b_8 q_5.2 q_10 eq_10) d_NC_years_35 tw_867 tw_864 tw_865 tw_866 tw_2 dd_Ni_copyFrom ⟨Nat.le_of_ble_eq_true rfl, Nat.le_of_ble_eq_true rfl, Nat.le_of_ble_eq_true rfl, Nat.le_of_ble_eq_true rfl⟩ (Nat.le_of_ble_eq_true rfl) rfl rfl rfl rfl ?_
      refine zi_aload_n 0 d_NC_years_38 rfl ?_
      refine zi_iconst 1 d_NC_years_39 rfl ?_
      obtain ⟨m_11, em_11, h⟩ := zbind h
      refine zo_putZ 43 zkd_10 14 d_NC_years_40 em_11 rfl rfl rfl tw_346 rfl ?_
      refine zi_aload_n 0 d_NC_years_43 rfl ?_
      refine zi_aload_n 0 d_NC_years_44 rfl ?_
      obtain ⟨b_12, eb_12, h⟩ := zbind h
      refine zo_getR 48 zkd_10 10 d_NC_years_45 eb_12 rfl tw_342 rfl ?_
      refine zi_aload_n 0 d_NC_years_48 rfl ?_
      refine zo_getR 52 zkd_10 3 d_NC_years_49 eb_7 rfl tw_335 rfl ?_
      refine zi_iload_n 1 d_NC_years_52 rfl ?_
      refine zi_iload_n 2 d_NC_years_53 rfl ?_
      obtain ⟨u_13, eu_13, h⟩ := zbind h
      obtain ⟨q_14, eq_14, h⟩ := zbind h
      refine zo_virt (k' := 0) (n' := 0) 57 [.ref b_7, .int x1, .int x2] [.ref a0] [.int q_14.1, .ref a0] zkd_0 (zck_s eu_13) (C_De_runYears n E S b_12 b_7 x1 x2 m_11 q_14.1 q_14.2 eq_14) d_NC_years_54 tw_1164 tw_1161 tw_1162 tw_1163 tw_10 dd_De_runYears ⟨Nat.le_of_ble_eq_true rfl, Nat.le_of_ble_eq_true rfl, Nat.le_of_ble_eq_true rfl, Nat.le_of_ble_eq_true rfl⟩ (Nat.le_of_ble_eq_true rfl) rfl rfl rfl rfl ?_
      obtain ⟨q_15, eq_15, h⟩ := zbind h
      refine zo_virt (k' := 0) (n' := 0) 60 [.int q_14.1] [] [.int q_15.1] zkd_10 (zgR_s eb_7).1 (C_NC_accept n E S a0 q_14.1 q_14.2 q_15.1 q_15.2 eq_15) d_NC_years_57 tw_458 tw_455 tw_457 ts_2 tw_1 dd_NC_accept ⟨Nat.le_of_ble_eq_true rfl, Nat.le_of_ble_eq_true rfl, Nat.le_of_ble_eq_true rfl, Nat.le_of_ble_eq_true rfl⟩ (Nat.le_of_ble_eq_true rfl) rfl rfl rfl rfl ?_
      cases h
      exact zo_ret d_NC_years_60 (Nat.le_of_ble_eq_true rfl) (Nat.le_of_ble_eq_true rfl) rfl
    · rw [if_neg c_6] at h
      refine zi_lo [(0, .ref a0)] [0] rfl ?_
      exact K_NC_years_b21 n E S a0 q_5.2 r M'  h
theorem C_NC_years (n : Nat) (E : zE) (S : zS) (a0 : Nat) (x1 : Int32) (x2 : Int32) (M : zH) (r : Int32) (M' : zH) (h : F_NC_years n E S a0 x1 x2 M = some (r, M')) : zC E Y_NC_years [.ref a0, .int x1, .int x2] S M (some (.int r), S, M') :=
  zC.of (Or.inl (show plainName "NightColander" = true by decide)) (Nat.le_of_ble_eq_true rfl) (trivial) (K_NC_years n E S a0 x1 x2 M r M' h)
theorem d_Ni_boresOfRing_0 : decode (yB Y_Ni_boresOfRing) 0 = .ok (.iconst 0, 1) := by decide +kernel
theorem d_Ni_boresOfRing_1 : decode (yB Y_Ni_boresOfRing) 1 = .ok (.istore_n 2, 1) := by decide +kernel
theorem d_Ni_boresOfRing_2 : decode (yB Y_Ni_boresOfRing) 2 = .ok (.iconst 0, 1) := by decide +kernel
theorem d_Ni_boresOfRing_3 : decode (yB Y_Ni_boresOfRing) 3 = .ok (.istore_n 3, 1) := by decide +kernel
theorem d_Ni_boresOfRing_4 : decode (yB Y_Ni_boresOfRing) 4 = .ok (.iload_n 3, 1) := by decide +kernel
theorem d_Ni_boresOfRing_5 : decode (yB Y_Ni_boresOfRing) 5 = .ok (.bipush 8, 2) := by decide +kernel
theorem d_Ni_boresOfRing_7 : decode (yB Y_Ni_boresOfRing) 7 = .ok (.if_icmp .ge 23, 3) := by decide +kernel
theorem d_Ni_boresOfRing_10 : decode (yB Y_Ni_boresOfRing) 10 = .ok (.iload_n 2, 1) := by decide +kernel
theorem d_Ni_boresOfRing_11 : decode (yB Y_Ni_boresOfRing) 11 = .ok (.aload_n 0, 1) := by decide +kernel
theorem d_Ni_boresOfRing_12 : decode (yB Y_Ni_boresOfRing) 12 = .ok (.getfield 9, 3) := by decide +kernel
theorem d_Ni_boresOfRing_15 : decode (yB Y_Ni_boresOfRing) 15 = .ok (.iload_n 1, 1) := by decide +kernel
theorem d_Ni_boresOfRing_16 : decode (yB Y_Ni_boresOfRing) 16 = .ok (.bipush 8, 2) := by decide +kernel
theorem d_Ni_boresOfRing_18 : decode (yB Y_Ni_boresOfRing) 18 = .ok (.imul, 1) := by decide +kernel
theorem d_Ni_boresOfRing_19 : decode (yB Y_Ni_boresOfRing) 19 = .ok (.iload_n 3, 1) := by decide +kernel
theorem d_Ni_boresOfRing_20 : decode (yB Y_Ni_boresOfRing) 20 = .ok (.iadd, 1) := by decide +kernel
theorem d_Ni_boresOfRing_21 : decode (yB Y_Ni_boresOfRing) 21 = .ok (.iaload, 1) := by decide +kernel
theorem d_Ni_boresOfRing_22 : decode (yB Y_Ni_boresOfRing) 22 = .ok (.iadd, 1) := by decide +kernel
theorem d_Ni_boresOfRing_23 : decode (yB Y_Ni_boresOfRing) 23 = .ok (.istore_n 2, 1) := by decide +kernel
theorem d_Ni_boresOfRing_24 : decode (yB Y_Ni_boresOfRing) 24 = .ok (.iinc 3 1, 3) := by decide +kernel
theorem d_Ni_boresOfRing_27 : decode (yB Y_Ni_boresOfRing) 27 = .ok (.goto (-23), 3) := by decide +kernel
theorem d_Ni_boresOfRing_30 : decode (yB Y_Ni_boresOfRing) 30 = .ok (.iload_n 2, 1) := by decide +kernel
theorem d_Ni_boresOfRing_31 : decode (yB Y_Ni_boresOfRing) 31 = .ok (.ireturn, 1) := by decide +kernel
def F_Ni_boresOfRing_L4 (n : Nat) (E : zE) (S : zS) (r4 : Nat × Int32 × Int32 × Int32 × zH → Option (Int32 × zH)) (a0 : Nat) (x1 : Int32) (x2 : Int32) (x3 : Int32) (M : zH) : Option (Int32 × zH) :=
  if 8 ≤ x3 then
    some (x2, M)
  else
    (zgR S a0 3 0).bind fun b_2 =>
    (zldI S M b_2 ((x1 * 8) + x3)).bind fun v_3 =>
    r4 (a0, x1, x2 + v_3, x3 + 1, M)
def F_Ni_boresOfRing_b4 (n : Nat) (E : zE) (S : zS) : Nat × Int32 × Int32 × Int32 × zH → Option (Int32 × zH) := zfix (fun r4 s => F_Ni_boresOfRing_L4 n E S r4 s.1 s.2.1 s.2.2.1 s.2.2.2.1 s.2.2.2.2) n
def F_Ni_boresOfRing (n : Nat) (E : zE) (S : zS) (a0 : Nat) (x1 : Int32) (M : zH) : Option (Int32 × zH) :=
  F_Ni_boresOfRing_b4 n E S (a0, x1, 0, 0, M)
theorem K_Ni_boresOfRing_L4 (n : Nat) (E : zE) (S : zS) (r4 : Nat × Int32 × Int32 × Int32 × zH → Option (Int32 × zH)) (a0 : Nat) (x1 : Int32) (x2 : Int32) (x3 : Int32) (M : zH) (r : Int32) (M' : zH) (hr4 : ∀ (a0 : Nat) (x1 : Int32) (x2 : Int32) (x3 : Int32) (M : zH), r4 (a0, x1, x2, x3, M) = some (r, M') → zG E Y_Ni_boresOfRing (some (.int r), S, M') 4 [(0, .ref a0), (1, .int x1), (2, .int x2), (3, .int x3)] [] S M 0 0) (h : F_Ni_boresOfRing_L4 n E S r4 a0 x1 x2 x3 M = some (r, M')) : zG E Y_Ni_boresOfRing (some (.int r), S, M') 4 [(0, .ref a0), (1, .int x1), (2, .int x2), (3, .int x3)] [] S M 0 0 := by
  unfold F_Ni_boresOfRing_L4 at h
  refine zi_iload_n 3 d_Ni_boresOfRing_4 rfl ?_
  refine zi_bipush 8 d_Ni_boresOfRing_5 rfl ?_
  refine zi_icmp_ge (tgt := 30) d_Ni_boresOfRing_7 rfl (fun c_1 => ?_) (fun c_1 => ?_)
  · rw [if_pos c_1] at h
    refine zi_iload_n 2 d_Ni_boresOfRing_30 rfl ?_
    cases h
    exact zo_ret d_Ni_boresOfRing_31 (Nat.le_of_ble_eq_true rfl) (Nat.le_of_ble_eq_true rfl) rfl
  · rw [if_neg c_1] at h
    refine zi_iload_n 2 d_Ni_boresOfRing_10 rfl ?_
    refine zi_aload_n 0 d_Ni_boresOfRing_11 rfl ?_
    obtain ⟨b_2, eb_2, h⟩ := zbind h
    refine zo_getR 15 zkd_3 0 d_Ni_boresOfRing_12 eb_2 rfl tw_41 rfl ?_
    refine zi_iload_n 1 d_Ni_boresOfRing_15 rfl ?_
    refine zi_bipush 8 d_Ni_boresOfRing_16 rfl ?_
    refine zi_imul d_Ni_boresOfRing_18 ?_
    refine zi_iload_n 3 d_Ni_boresOfRing_19 rfl ?_
    refine zi_iadd d_Ni_boresOfRing_20 ?_
    obtain ⟨v_3, ev_3, h⟩ := zbind h
    refine zo_iald 22 d_Ni_boresOfRing_21 ev_3 rfl ?_
    refine zi_iadd d_Ni_boresOfRing_22 ?_
    refine zi_istore_n [(2, .int (x2 + v_3)), (0, .ref a0), (1, .int x1), (3, .int x3)] d_Ni_boresOfRing_23 (by decide) rfl ?_
    refine zi_iinc 3 (x3 + 1) [(3, .int (x3 + 1)), (2, .int (x2 + v_3)), (0, .ref a0), (1, .int x1)] d_Ni_boresOfRing_24 rfl rfl (by decide) rfl ?_
    refine zi_goto (tgt := 4) d_Ni_boresOfRing_27 rfl ?_
    refine zi_lo [(0, .ref a0), (1, .int x1), (2, .int (x2 + v_3)), (3, .int (x3 + 1))] [2, 3, 1, 0] rfl ?_
    exact hr4 a0 x1 (x2 + v_3) (x3 + 1) M h
theorem K_Ni_boresOfRing_b4 (n : Nat) (E : zE) (S : zS) (a0 : Nat) (x1 : Int32) (x2 : Int32) (x3 : Int32) (M : zH) (r : Int32) (M' : zH)  (h : F_Ni_boresOfRing_b4 n E S (a0, x1, x2, x3, M) = some (r, M')) : zG E Y_Ni_boresOfRing (some (.int r), S, M') 4 [(0, .ref a0), (1, .int x1), (2, .int x2), (3, .int x3)] [] S M 0 0 := by
  have key : ∀ (k : Nat) (a0 : Nat) (x1 : Int32) (x2 : Int32) (x3 : Int32) (M : zH), zfix (fun r4 s => F_Ni_boresOfRing_L4 n E S r4 s.1 s.2.1 s.2.2.1 s.2.2.2.1 s.2.2.2.2) k (a0, x1, x2, x3, M) = some (r, M') → zG E Y_Ni_boresOfRing (some (.int r), S, M') 4 [(0, .ref a0), (1, .int x1), (2, .int x2), (3, .int x3)] [] S M 0 0 := by
    intro k
    induction k with
    | zero => intro a0 x1 x2 x3 M h; cases h
    | succ k ih => intro a0 x1 x2 x3 M h; exact K_Ni_boresOfRing_L4 n E S _ a0 x1 x2 x3 M r M'  (fun a0 x1 x2 x3 M h => ih a0 x1 x2 x3 M h) h
  exact key n a0 x1 x2 x3 M h
theorem K_Ni_boresOfRing (n : Nat) (E : zE) (S : zS) (a0 : Nat) (x1 : Int32) (M : zH) (r : Int32) (M' : zH)  (h : F_Ni_boresOfRing n E S a0 x1 M = some (r, M')) : zG E Y_Ni_boresOfRing (some (.int r), S, M') 0 [(0, .ref a0), (1, .int x1)] [] S M 0 0 := by
  unfold F_Ni_boresOfRing at h
  refine zi_iconst 0 d_Ni_boresOfRing_0 rfl ?_
  refine zi_istore_n [(2, .int 0), (0, .ref a0), (1, .int x1)] d_Ni_boresOfRing_1 (by decide) rfl ?_
  refine zi_iconst 0 d_Ni_boresOfRing_2 rfl ?_
  refine zi_istore_n [(3, .int 0), (2, .int 0), (0, .ref a0), (1, .int x1)] d_Ni_boresOfRing_3 (by decide) rfl ?_
  refine zi_lo [(0, .ref a0), (1, .int x1), (2, .int 0), (3, .int 0)] [2, 3, 1, 0] rfl ?_
  exact K_Ni_boresOfRing_b4 n E S a0 x1 0 0 M r M'  h
theorem C_Ni_boresOfRing (n : Nat) (E : zE) (S : zS) (a0 : Nat) (x1 : Int32) (M : zH) (r : Int32) (M' : zH) (h : F_Ni_boresOfRing n E S a0 x1 M = some (r, M')) : zC E Y_Ni_boresOfRing [.ref a0, .int x1] S M (some (.int r), S, M') :=
  zC.of (Or.inl (show plainName "NightColander$Night" = true by decide)) (Nat.le_of_ble_eq_true rfl) (trivial) (K_Ni_boresOfRing n E S a0 x1 M r M' h)
theorem d_NC_drawn_0 : decode (yB Y_NC_drawn) 0 = .ok (.aload_n 0, 1) := by decide +kernel
theorem d_NC_drawn_1 : decode (yB Y_NC_drawn) 1 = .ok (.getfield 94, 3) := by decide +kernel
theorem d_NC_drawn_4 : decode (yB Y_NC_drawn) 4 = .ok (.ifCond .ne 5, 3) := by decide +kernel
theorem d_NC_drawn_7 : decode (yB Y_NC_drawn) 7 = .ok (.iconst (-1), 1) := by decide +kernel
theorem d_NC_drawn_8 : decode (yB Y_NC_drawn) 8 = .ok (.ireturn, 1) := by decide +kernel
theorem d_NC_drawn_9 : decode (yB Y_NC_drawn) 9 = .ok (.iload_n 2, 1) := by decide +kernel
theorem d_NC_drawn_10 : decode (yB Y_NC_drawn) 10 = .ok (.tableswitch 92 0 2 #[26, 46, 67], 26) := by decide +kernel
theorem d_NC_drawn_36 : decode (yB Y_NC_drawn) 36 = .ok (.iload_n 1, 1) := by decide +kernel
theorem d_NC_drawn_37 : decode (yB Y_NC_drawn) 37 = .ok (.invokestatic 111, 3) := by decide +kernel
theorem d_NC_drawn_40 : decode (yB Y_NC_drawn) 40 = .ok (.ifCond .eq 14, 3) := by decide +kernel
theorem d_NC_drawn_43 : decode (yB Y_NC_drawn) 43 = .ok (.aload_n 0, 1) := by decide +kernel
theorem d_NC_drawn_44 : decode (yB Y_NC_drawn) 44 = .ok (.getfield 26, 3) := by decide +kernel
theorem d_NC_drawn_47 : decode (yB Y_NC_drawn) 47 = .ok (.iload_n 1, 1) := by decide +kernel
theorem d_NC_drawn_48 : decode (yB Y_NC_drawn) 48 = .ok (.invokevirtual 317, 3) := by decide +kernel
theorem d_NC_drawn_51 : decode (yB Y_NC_drawn) 51 = .ok (.goto 4, 3) := by decide +kernel
theorem d_NC_drawn_54 : decode (yB Y_NC_drawn) 54 = .ok (.iconst (-1), 1) := by decide +kernel
theorem d_NC_drawn_55 : decode (yB Y_NC_drawn) 55 = .ok (.ireturn, 1) := by decide +kernel
theorem d_NC_drawn_56 : decode (yB Y_NC_drawn) 56 = .ok (.iload_n 1, 1) := by decide +kernel
theorem d_NC_drawn_57 : decode (yB Y_NC_drawn) 57 = .ok (.invokestatic 111, 3) := by decide +kernel
theorem d_NC_drawn_60 : decode (yB Y_NC_drawn) 60 = .ok (.ifCond .eq 15, 3) := by decide +kernel
theorem d_NC_drawn_63 : decode (yB Y_NC_drawn) 63 = .ok (.aload_n 0, 1) := by decide +kernel
theorem d_NC_drawn_64 : decode (yB Y_NC_drawn) 64 = .ok (.getfield 26, 3) := by decide +kernel
theorem d_NC_drawn_67 : decode (yB Y_NC_drawn) 67 = .ok (.getfield 140, 3) := by decide +kernel
theorem d_NC_drawn_70 : decode (yB Y_NC_drawn) 70 = .ok (.iload_n 1, 1) := by decide +kernel
theorem d_NC_drawn_71 : decode (yB Y_NC_drawn) 71 = .ok (.iaload, 1) := by decide +kernel
theorem d_NC_drawn_72 : decode (yB Y_NC_drawn) 72 = .ok (.goto 4, 3) := by decide +kernel
theorem d_NC_drawn_75 : decode (yB Y_NC_drawn) 75 = .ok (.iconst (-1), 1) := by decide +kernel
theorem d_NC_drawn_76 : decode (yB Y_NC_drawn) 76 = .ok (.ireturn, 1) := by decide +kernel
theorem d_NC_drawn_77 : decode (yB Y_NC_drawn) 77 = .ok (.aload_n 0, 1) := by decide +kernel
theorem d_NC_drawn_78 : decode (yB Y_NC_drawn) 78 = .ok (.getfield 26, 3) := by decide +kernel
theorem d_NC_drawn_81 : decode (yB Y_NC_drawn) 81 = .ok (.iload_n 1, 1) := by decide +kernel
theorem d_NC_drawn_82 : decode (yB Y_NC_drawn) 82 = .ok (.invokevirtual 161, 3) := by decide +kernel
theorem d_NC_drawn_85 : decode (yB Y_NC_drawn) 85 = .ok (.ifCond .eq 15, 3) := by decide +kernel
theorem d_NC_drawn_88 : decode (yB Y_NC_drawn) 88 = .ok (.aload_n 0, 1) := by decide +kernel
theorem d_NC_drawn_89 : decode (yB Y_NC_drawn) 89 = .ok (.getfield 26, 3) := by decide +kernel
theorem d_NC_drawn_92 : decode (yB Y_NC_drawn) 92 = .ok (.getfield 167, 3) := by decide +kernel
theorem d_NC_drawn_95 : decode (yB Y_NC_drawn) 95 = .ok (.iload_n 1, 1) := by decide +kernel
theorem d_NC_drawn_96 : decode (yB Y_NC_drawn) 96 = .ok (.iaload, 1) := by decide +kernel
theorem d_NC_drawn_97 : decode (yB Y_NC_drawn) 97 = .ok (.goto 4, 3) := by decide +kernel
theorem d_NC_drawn_100 : decode (yB Y_NC_drawn) 100 = .ok (.iconst (-1), 1) := by decide +kernel
theorem d_NC_drawn_101 : decode (yB Y_NC_drawn) 101 = .ok (.ireturn, 1) := by decide +kernel
theorem d_NC_drawn_102 : decode (yB Y_NC_drawn) 102 = .ok (.iconst (-1), 1) := by decide +kernel
theorem d_NC_drawn_103 : decode (yB Y_NC_drawn) 103 = .ok (.ireturn, 1) := by decide +kernel
def F_NC_drawn (n : Nat) (E : zE) (S : zS) (a0 : Nat) (x1 : Int32) (x2 : Int32) (M : zH) : Option (Int32 × zH) :=
  (zgI S M a0 10 14).bind fun v_1 =>
  if v_1 = 0 then
    some ((-1), M)
  else
    if x2 = 0 then
      (F_NC_isRing n E S x1 M).bind fun q_4 =>
      if q_4.1 = true then
        (zgR S a0 10 3).bind fun b_6 =>
        (zck S b_6 3).bind fun u_7 =>
        (F_Ni_boresOfRing n E S b_6 x1 q_4.2).bind fun q_8 =>
        some (q_8.1, q_8.2)
      else
        some ((-1), q_4.2)
    else
    if x2 = 1 then
      (F_NC_isRing n E S x1 M).bind fun q_10 =>
      if q_10.1 = true then
        (zgR S a0 10 3).bind fun b_12 =>
        (zgR S b_12 3 2).bind fun b_13 =>
        (zldI S q_10.2 b_13 x1).bind fun v_14 =>
        some (v_14, q_10.2)
      else
        some ((-1), q_10.2)
    else
    if x2 = 2 then
      (zgR S a0 10 3).bind fun b_16 =>
      (zck S b_16 3).bind fun u_17 =>
      (F_Ni_hasBucket n E S b_16 x1 M).bind fun q_18 =>
      if q_18.1 = true then
        (zgR S b_16 3 4).bind fun b_20 =>
        (zldI S q_18.2 b_20 x1).bind fun v_21 =>
        some (v_21, q_18.2)
      else
        some ((-1), q_18.2)
    else
      some ((-1), M)
theorem K_NC_drawn (n : Nat) (E : zE) (S : zS) (a0 : Nat) (x1 : Int32) (x2 : Int32) (M : zH) (r : Int32) (M' : zH)  (h : F_NC_drawn n E S a0 x1 x2 M = some (r, M')) : zG E Y_NC_drawn (some (.int r), S, M') 0 [(0, .ref a0), (1, .int x1), (2, .int x2)] [] S M 0 0 := by
  unfold F_NC_drawn at h
  refine zi_aload_n 0 d_NC_drawn_0 rfl ?_
  obtain ⟨v_1, ev_1, h⟩ := zbind h
  refine zo_getI 4 zkd_10 14 d_NC_drawn_1 ev_1 rfl tw_346 rfl ?_
  refine zi_if_ne (tgt := 9) d_NC_drawn_4 rfl (fun c_2 => ?_) (fun c_2 => ?_)
  · rw [if_neg c_2] at h
    refine zi_iload_n 2 d_NC_drawn_9 rfl ?_
    by_cases c_3 : x2 = 0
    · rw [if_pos c_3] at h
      refine zo_tab (tgt := 36) 0 d_NC_drawn_10 c_3 (by decide) (by decide) rfl rfl ?_
      refine zi_iload_n 1 d_NC_drawn_36 rfl ?_
      obtain ⟨q_4, eq_4, h⟩ := zbind h
      refine zo_stat (k' := 0) (n' := 0) 40 [.int x1] [] [.int (bI q_4.1)] (C_NC_isRing n E S x1 M q_4.1 q_4.2 eq_4) d_NC_drawn_37 tw_396 tw_394 tw_395 tw_1 dd_NC_isRing ⟨Nat.le_of_ble_eq_true rfl, Nat.le_of_ble_eq_true rfl, Nat.le_of_ble_eq_true rfl, Nat.le_of_ble_eq_true rfl⟩ (Nat.le_of_ble_eq_true rfl) rfl rfl rfl rfl ?_
      refine zo_ifeqB d_NC_drawn_40 rfl 43 rfl (fun c_5 => ?_) (fun c_5 => ?_)
      · rw [if_neg c_5] at h
        refine zi_iconst (-1) d_NC_drawn_54 rfl ?_
        cases h
        exact zo_ret d_NC_drawn_55 (Nat.le_of_ble_eq_true rfl) (Nat.le_of_ble_eq_true rfl) rfl
      · rw [if_pos c_5] at h
        refine zi_aload_n 0 d_NC_drawn_43 rfl ?_
        obtain ⟨b_6, eb_6, h⟩ := zbind h
        refine zo_getR 47 zkd_10 3 d_NC_drawn_44 eb_6 rfl tw_335 rfl ?_
        refine zi_iload_n 1 d_NC_drawn_47 rfl ?_
        obtain ⟨u_7, eu_7, h⟩ := zbind h
        obtain ⟨q_8, eq_8, h⟩ := zbind h
        refine zo_virt (k' := 0) (n' := 0) 51 [.int x1] [] [.int q_8.1] zkd_3 (zck_s eu_7) (C_Ni_boresOfRing n E S b_6 x1 q_4.2 q_8.1 q_8.2 eq_8) d_NC_drawn_48 tw_1181 tw_1178 tw_1179 tw_1180 tw_2 dd_Ni_boresOfRing ⟨Nat.le_of_ble_eq_true rfl, Nat.le_of_ble_eq_true rfl, Nat.le_of_ble_eq_true rfl, Nat.le_of_ble_eq_true rfl⟩ (Nat.le_of_ble_eq_true rfl) rfl rfl rfl rfl ?_
        refine zi_goto (tgt := 55) d_NC_drawn_51 rfl ?_
        cases h
        exact zo_ret d_NC_drawn_55 (Nat.le_of_ble_eq_true rfl) (Nat.le_of_ble_eq_true rfl) rfl
    rw [if_neg c_3] at h
    by_cases c_9 : x2 = 1
    · rw [if_pos c_9] at h
      refine zo_tab (tgt := 56) 1 d_NC_drawn_10 c_9 (by decide) (by decide) rfl rfl ?_
      refine zi_iload_n 1 d_NC_drawn_56 rfl ?_
      obtain ⟨q_10, eq_10, h⟩ := zbind h
      refine zo_stat (k' := 0) (n' := 0) 60 [.int x1] [] [.int (bI q_10.1)] (C_NC_isRing n E S x1 M q_10.1 q_10.2 eq_10) d_NC_drawn_57 tw_396 tw_394 tw_395 tw_1 dd_NC_isRing ⟨Nat.le_of_ble_eq_true rfl, Nat.le_of_ble_eq_true rfl, Nat.le_of_ble_eq_true rfl, Nat.le_of_ble_eq_true rfl⟩ (Nat.le_of_ble_eq_true rfl) rfl rfl rfl rfl ?_
      refine zo_ifeqB d_NC_drawn_60 rfl 63 rfl (fun c_11 => ?_) (fun c_11 => ?_)
      · rw [if_neg c_11] at h
        refine zi_iconst (-1) d_NC_drawn_75 rfl ?_
        cases h
        exact zo_ret d_NC_drawn_76 (Nat.le_of_ble_eq_true rfl) (Nat.le_of_ble_eq_true rfl) rfl
      · rw [if_pos c_11] at h
        refine zi_aload_n 0 d_NC_drawn_63 rfl ?_
        obtain ⟨b_12, eb_12, h⟩ := zbind h
        refine zo_getR 67 zkd_10 3 d_NC_drawn_64 eb_12 rfl tw_335 rfl ?_
        obtain ⟨b_13, eb_13, h⟩ := zbind h
        refine zo_getR 70 zkd_3 2 d_NC_drawn_67 eb_13 rfl tw_53 rfl ?_
        refine zi_iload_n 1 d_NC_drawn_70 rfl ?_
        obtain ⟨v_14, ev_14, h⟩ := zbind h
        refine zo_iald 72 d_NC_drawn_71 ev_14 rfl ?_
        refine zi_goto (tgt := 76) d_NC_drawn_72 rfl ?_
        cases h
        exact zo_ret d_NC_drawn_76 (Nat.le_of_ble_eq_true rfl) (Nat.le_of_ble_eq_true rfl) rfl
    rw [if_neg c_9] at h
    by_cases c_15 : x2 = 2
    · rw [if_pos c_15] at h
      refine zo_tab (tgt := 77) 2 d_NC_drawn_10 c_15 (by decide) (by decide) rfl rfl ?_
      refine zi_aload_n 0 d_NC_drawn_77 rfl ?_
      obtain ⟨b_16, eb_16, h⟩ := zbind h
      refine zo_getR 81 zkd_10 3 d_NC_drawn_78 eb_16 rfl tw_335 rfl ?_
      refine zi_iload_n 1 d_NC_drawn_81 rfl ?_
      obtain ⟨u_17, eu_17, h⟩ := zbind h
      obtain ⟨q_18, eq_18, h⟩ := zbind h
      refine zo_virt (k' := 0) (n' := 0) 85 [.int x1] [] [.int (bI q_18.1)] zkd_3 (zck_s eu_17) (C_Ni_hasBucket n E S b_16 x1 M q_18.1 q_18.2 eq_18) d_NC_drawn_82 tw_481 tw_478 tw_479 tw_480 tw_2 dd_Ni_hasBucket ⟨Nat.le_of_ble_eq_true rfl, Nat.le_of_ble_eq_true rfl, Nat.le_of_ble_eq_true rfl, Nat.le_of_ble_eq_true rfl⟩ (Nat.le_of_ble_eq_true rfl) rfl rfl rfl rfl ?_
      refine zo_ifeqB d_NC_drawn_85 rfl 88 rfl (fun c_19 => ?_) (fun c_19 => ?_)
      · rw [if_neg c_19] at h
        refine zi_iconst (-1) d_NC_drawn_100 rfl ?_
        cases h
        exact zo_ret d_NC_drawn_101 (Nat.le_of_ble_eq_true rfl) (Nat.le_of_ble_eq_true rfl) rfl
      · rw [if_pos c_19] at h
        refine zi_aload_n 0 d_NC_drawn_88 rfl ?_
        refine zo_getR 92 zkd_10 3 d_NC_drawn_89 eb_16 rfl tw_335 rfl ?_
        obtain ⟨b_20, eb_20, h⟩ := zbind h
        refine zo_getR 95 zkd_3 4 d_NC_drawn_92 eb_20 rfl tw_63 rfl ?_
        refine zi_iload_n 1 d_NC_drawn_95 rfl ?_
        obtain ⟨v_21, ev_21, h⟩ := zbind h
        refine zo_iald 97 d_NC_drawn_96 ev_21 rfl ?_
        refine zi_goto (tgt := 101) d_NC_drawn_97 rfl ?_
        cases h
        exact zo_ret d_NC_drawn_101 (Nat.le_of_ble_eq_true rfl) (Nat.le_of_ble_eq_true rfl) rfl
    rw [if_neg c_15] at h
    refine zo_tabP (tgt := 102) 0 3 d_NC_drawn_10 rfl rfl (fun j hj => by match j, hj with | 0, _ => exact c_3  | 1, _ => exact c_9  | 2, _ => exact c_15 | j + 3, hj => exact absurd hj (by omega)) rfl ?_
    refine zi_iconst (-1) d_NC_drawn_102 rfl ?_
    cases h
    exact zo_ret d_NC_drawn_103 (Nat.le_of_ble_eq_true rfl) (Nat.le_of_ble_eq_true rfl) rfl
  · rw [if_pos c_2] at h
    refine zi_iconst (-1) d_NC_drawn_7 rfl ?_
    cases h
    exact zo_ret d_NC_drawn_8 (Nat.le_of_ble_eq_true rfl) (Nat.le_of_ble_eq_true rfl) rfl
theorem C_NC_drawn (n : Nat) (E : zE) (S : zS) (a0 : Nat) (x1 : Int32) (x2 : Int32) (M : zH) (r : Int32) (M' : zH) (h : F_NC_drawn n E S a0 x1 x2 M = some (r, M')) : zC E Y_NC_drawn [.ref a0, .int x1, .int x2] S M (some (.int r), S, M') :=
  zC.of (Or.inl (show plainName "NightColander" = true by decide)) (Nat.le_of_ble_eq_true rfl) (trivial) (K_NC_drawn n E S a0 x1 x2 M r M' h)
theorem d_NC_image_0 : decode (yB Y_NC_image) 0 = .ok (.iload_n 1, 1) := by decide +kernel
theorem d_NC_image_1 : decode (yB Y_NC_image) 1 = .ok (.iconst 0, 1) := by decide +kernel
theorem d_NC_image_2 : decode (yB Y_NC_image) 2 = .ok (.iconst 1, 1) := by decide +kernel
theorem d_NC_image_3 : decode (yB Y_NC_image) 3 = .ok (.invokestatic 132, 3) := by decide +kernel
theorem d_NC_image_6 : decode (yB Y_NC_image) 6 = .ok (.ifCond .ne 9, 3) := by decide +kernel
theorem d_NC_image_9 : decode (yB Y_NC_image) 9 = .ok (.aload_n 0, 1) := by decide +kernel
theorem d_NC_image_10 : decode (yB Y_NC_image) 10 = .ok (.iconst (-1), 1) := by decide +kernel
theorem d_NC_image_11 : decode (yB Y_NC_image) 11 = .ok (.invokevirtual 136, 3) := by decide +kernel
theorem d_NC_image_14 : decode (yB Y_NC_image) 14 = .ok (.ireturn, 1) := by decide +kernel
theorem d_NC_image_15 : decode (yB Y_NC_image) 15 = .ok (.aload_n 0, 1) := by decide +kernel
theorem d_NC_image_16 : decode (yB Y_NC_image) 16 = .ok (.getfield 18, 3) := by decide +kernel
theorem d_NC_image_19 : decode (yB Y_NC_image) 19 = .ok (.iload_n 1, 1) := by decide +kernel
theorem d_NC_image_20 : decode (yB Y_NC_image) 20 = .ok (.aaload, 1) := by decide +kernel
theorem d_NC_image_21 : decode (yB Y_NC_image) 21 = .ok (.aload_n 0, 1) := by decide +kernel
theorem d_NC_image_22 : decode (yB Y_NC_image) 22 = .ok (.getfield 12, 3) := by decide +kernel
theorem d_NC_image_25 : decode (yB Y_NC_image) 25 = .ok (.invokevirtual 229, 3) := by decide +kernel
theorem d_NC_image_28 : decode (yB Y_NC_image) 28 = .ok (.aload_n 0, 1) := by decide +kernel
theorem d_NC_image_29 : decode (yB Y_NC_image) 29 = .ok (.getfield 22, 3) := by decide +kernel
theorem d_NC_image_32 : decode (yB Y_NC_image) 32 = .ok (.iload_n 1, 1) := by decide +kernel
theorem d_NC_image_33 : decode (yB Y_NC_image) 33 = .ok (.iconst 1, 1) := by decide +kernel
theorem d_NC_image_34 : decode (yB Y_NC_image) 34 = .ok (.bastore, 1) := by decide +kernel
theorem d_NC_image_35 : decode (yB Y_NC_image) 35 = .ok (.aload_n 0, 1) := by decide +kernel
theorem d_NC_image_36 : decode (yB Y_NC_image) 36 = .ok (.iconst 0, 1) := by decide +kernel
theorem d_NC_image_37 : decode (yB Y_NC_image) 37 = .ok (.invokevirtual 146, 3) := by decide +kernel
theorem d_NC_image_40 : decode (yB Y_NC_image) 40 = .ok (.ireturn, 1) := by decide +kernel
def F_NC_image (n : Nat) (E : zE) (S : zS) (a0 : Nat) (x1 : Int32) (M : zH) : Option (Int32 × zH) :=
  (F_NC_within n E S x1 0 1 M).bind fun q_1 =>
  if q_1.1 = true then
    (zgR S a0 10 1).bind fun b_3 =>
    (zldR S q_1.2 17 b_3 x1).bind fun o_4 =>
    (zgR S a0 10 0).bind fun b_5 =>
    (o_4).bind fun g_6 =>
    (zck S g_6 3).bind fun u_7 =>
    (F_Ni_copyFrom n E S g_6 b_5 q_1.2).bind fun q_8 =>
    (zgR S a0 10 2).bind fun b_9 =>
    (zstZ S q_8 b_9 x1 1).bind fun m_10 =>
    (F_NC_accept n E S a0 0 m_10).bind fun q_11 =>
    some (q_11.1, q_11.2)
  else
    (zck S a0 10).bind fun u_12 =>
    (F_NC_refuse n E S a0 (-1) q_1.2).bind fun q_13 =>
    some (q_13.1, q_13.2)
theorem K_NC_image (n : Nat) (E : zE) (S : zS) (a0 : Nat) (x1 : Int32) (M : zH) (r : Int32) (M' : zH)  (h : F_NC_image n E S a0 x1 M = some (r, M')) : zG E Y_NC_image (some (.int r), S, M') 0 [(0, .ref a0), (1, .int x1)] [] S M 0 0 := by
  unfold F_NC_image at h
  refine zi_iload_n 1 d_NC_image_0 rfl ?_
  refine zi_iconst 0 d_NC_image_1 rfl ?_
  refine zi_iconst 1 d_NC_image_2 rfl ?_
  obtain ⟨q_1, eq_1, h⟩ := zbind h
  refine zo_stat (k' := 0) (n' := 0) 6 [.int x1, .int 0, .int 1] [] [.int (bI q_1.1)] (C_NC_within n E S x1 0 1 M q_1.1 q_1.2 eq_1) d_NC_image_3 tw_399 tw_397 tw_398 tw_1 dd_NC_within ⟨Nat.le_of_ble_eq_true rfl, Nat.le_of_ble_eq_true rfl, Nat.le_of_ble_eq_true rfl, Nat.le_of_ble_eq_true rfl⟩ (Nat.le_of_ble_eq_true rfl) rfl rfl rfl rfl ?_
  refine zo_ifneB d_NC_image_6 rfl 9 rfl (fun c_2 => ?_) (fun c_2 => ?_)
  · rw [if_pos c_2] at h
    refine zi_aload_n 0 d_NC_image_15 rfl ?_
    obtain ⟨b_3, eb_3, h⟩ := zbind h
    refine zo_getR 19 zkd_10 1 d_NC_image_16 eb_3 rfl tw_333 rfl ?_
    refine zi_iload_n 1 d_NC_image_19 rfl ?_
    obtain ⟨o_4, eo_4, h⟩ := zbind h
    refine zo_aald 21 d_NC_image_20 eo_4 (by decide) rfl ?_
    refine zi_aload_n 0 d_NC_image_21 rfl ?_
    obtain ⟨b_5, eb_5, h⟩ := zbind h
    refine zo_getR 25 zkd_10 0 d_NC_image_22 eb_5 rfl tw_332 rfl ?_
    obtain ⟨g_6, eg_6, h⟩ := zbind h
    simp only [eg_6, va_rf]
    obtain ⟨u_7, eu_7, h⟩ := zbind h
    obtain ⟨q_8, eq_8, h⟩ := zbind h
    refine zo_virt (k' := 0) (n' := 0) 28 [.ref b_5] [] [] zkd_3 (zck_s eu_7) (C_Ni_copyFrom n E S g_6 b_5 q_1.2 q_8 eq_8) d_NC_image_25 tw_867 tw_864 tw_865 tw_866 tw_2 dd_Ni_copyFrom ⟨Nat.le_of_ble_eq_true rfl, Nat.le_of_ble_eq_true rfl, Nat.le_of_ble_eq_true rfl, Nat.le_of_ble_eq_true rfl⟩ (Nat.le_of_ble_eq_true rfl) rfl rfl rfl rfl ?_
    refine zi_aload_n 0 d_NC_image_28 rfl ?_
    obtain ⟨b_9, eb_9, h⟩ := zbind h
    refine zo_getR 32 zkd_10 2 d_NC_image_29 eb_9 rfl tw_334 rfl ?_
    refine zi_iload_n 1 d_NC_image_32 rfl ?_
    refine zi_iconst 1 d_NC_image_33 rfl ?_
    obtain ⟨m_10, em_10, h⟩ := zbind h
    refine zo_zast 35 d_NC_image_34 em_10 rfl ?_
    refine zi_aload_n 0 d_NC_image_35 rfl ?_
    refine zi_iconst 0 d_NC_image_36 rfl ?_
    obtain ⟨q_11, eq_11, h⟩ := zbind h
    refine zo_virt (k' := 0) (n' := 0) 40 [.int 0] [] [.int q_11.1] zkd_10 (zgR_s eb_3).1 (C_NC_accept n E S a0 0 m_10 q_11.1 q_11.2 eq_11) d_NC_image_37 tw_458 tw_455 tw_457 ts_2 tw_1 dd_NC_accept ⟨Nat.le_of_ble_eq_true rfl, Nat.le_of_ble_eq_true rfl, Nat.le_of_ble_eq_true rfl, Nat.le_of_ble_eq_true rfl⟩ (Nat.le_of_ble_eq_true rfl) rfl rfl rfl rfl ?_
    cases h
    exact zo_ret d_NC_image_40 (Nat.le_of_ble_eq_true rfl) (Nat.le_of_ble_eq_true rfl) rfl
  · rw [if_neg c_2] at h
    refine zi_aload_n 0 d_NC_image_9 rfl ?_
    refine zi_iconst (-1) d_NC_image_10 rfl ?_
    obtain ⟨u_12, eu_12, h⟩ := zbind h
    obtain ⟨q_13, eq_13, h⟩ := zbind h
    refine zo_virt (k' := 0) (n' := 0) 14 [.int (-1)] [] [.int q_13.1] zkd_10 (zck_s eu_12) (C_NC_refuse n E S a0 (-1) q_1.2 q_13.1 q_13.2 eq_13) d_NC_image_11 tw_450 tw_447 tw_449 ts_1 tw_1 dd_NC_refuse ⟨Nat.le_of_ble_eq_true rfl, Nat.le_of_ble_eq_true rfl, Nat.le_of_ble_eq_true rfl, Nat.le_of_ble_eq_true rfl⟩ (Nat.le_of_ble_eq_true rfl) rfl rfl rfl rfl ?_
    cases h
    exact zo_ret d_NC_image_14 (Nat.le_of_ble_eq_true rfl) (Nat.le_of_ble_eq_true rfl) rfl
theorem C_NC_image (n : Nat) (E : zE) (S : zS) (a0 : Nat) (x1 : Int32) (M : zH) (r : Int32) (M' : zH) (h : F_NC_image n E S a0 x1 M = some (r, M')) : zC E Y_NC_image [.ref a0, .int x1] S M (some (.int r), S, M') :=
  zC.of (Or.inl (show plainName "NightColander" = true by decide)) (Nat.le_of_ble_eq_true rfl) (trivial) (K_NC_image n E S a0 x1 M r M' h)
theorem d_NC_back_0 : decode (yB Y_NC_back) 0 = .ok (.iload_n 1, 1) := by decide +kernel
theorem d_NC_back_1 : decode (yB Y_NC_back) 1 = .ok (.iconst 0, 1) := by decide +kernel
theorem d_NC_back_2 : decode (yB Y_NC_back) 2 = .ok (.iconst 1, 1) := by decide +kernel
theorem d_NC_back_3 : decode (yB Y_NC_back) 3 = .ok (.invokestatic 132, 3) := by decide +kernel
theorem d_NC_back_6 : decode (yB Y_NC_back) 6 = .ok (.ifCond .ne 9, 3) := by decide +kernel
theorem d_NC_back_9 : decode (yB Y_NC_back) 9 = .ok (.aload_n 0, 1) := by decide +kernel
theorem d_NC_back_10 : decode (yB Y_NC_back) 10 = .ok (.iconst (-1), 1) := by decide +kernel
theorem d_NC_back_11 : decode (yB Y_NC_back) 11 = .ok (.invokevirtual 136, 3) := by decide +kernel
theorem d_NC_back_14 : decode (yB Y_NC_back) 14 = .ok (.ireturn, 1) := by decide +kernel
theorem d_NC_back_15 : decode (yB Y_NC_back) 15 = .ok (.aload_n 0, 1) := by decide +kernel
theorem d_NC_back_16 : decode (yB Y_NC_back) 16 = .ok (.getfield 22, 3) := by decide +kernel
theorem d_NC_back_19 : decode (yB Y_NC_back) 19 = .ok (.iload_n 1, 1) := by decide +kernel
theorem d_NC_back_20 : decode (yB Y_NC_back) 20 = .ok (.baload, 1) := by decide +kernel
theorem d_NC_back_21 : decode (yB Y_NC_back) 21 = .ok (.ifCond .ne 10, 3) := by decide +kernel
theorem d_NC_back_24 : decode (yB Y_NC_back) 24 = .ok (.aload_n 0, 1) := by decide +kernel
theorem d_NC_back_25 : decode (yB Y_NC_back) 25 = .ok (.bipush (-2), 2) := by decide +kernel
theorem d_NC_back_27 : decode (yB Y_NC_back) 27 = .ok (.invokevirtual 136, 3) := by decide +kernel
theorem d_NC_back_30 : decode (yB Y_NC_back) 30 = .ok (.ireturn, 1) := by decide +kernel
theorem d_NC_back_31 : decode (yB Y_NC_back) 31 = .ok (.aload_n 0, 1) := by decide +kernel
theorem d_NC_back_32 : decode (yB Y_NC_back) 32 = .ok (.getfield 12, 3) := by decide +kernel
theorem d_NC_back_35 : decode (yB Y_NC_back) 35 = .ok (.aload_n 0, 1) := by decide +kernel
theorem d_NC_back_36 : decode (yB Y_NC_back) 36 = .ok (.getfield 18, 3) := by decide +kernel
theorem d_NC_back_39 : decode (yB Y_NC_back) 39 = .ok (.iload_n 1, 1) := by decide +kernel
theorem d_NC_back_40 : decode (yB Y_NC_back) 40 = .ok (.aaload, 1) := by decide +kernel
theorem d_NC_back_41 : decode (yB Y_NC_back) 41 = .ok (.invokevirtual 229, 3) := by decide +kernel
theorem d_NC_back_44 : decode (yB Y_NC_back) 44 = .ok (.aload_n 0, 1) := by decide +kernel
theorem d_NC_back_45 : decode (yB Y_NC_back) 45 = .ok (.getfield 35, 3) := by decide +kernel
theorem d_NC_back_48 : decode (yB Y_NC_back) 48 = .ok (.invokevirtual 143, 3) := by decide +kernel
theorem d_NC_back_51 : decode (yB Y_NC_back) 51 = .ok (.aload_n 0, 1) := by decide +kernel
theorem d_NC_back_52 : decode (yB Y_NC_back) 52 = .ok (.iconst 0, 1) := by decide +kernel
theorem d_NC_back_53 : decode (yB Y_NC_back) 53 = .ok (.invokevirtual 146, 3) := by decide +kernel
theorem d_NC_back_56 : decode (yB Y_NC_back) 56 = .ok (.ireturn, 1) := by decide +kernel
def F_NC_back (n : Nat) (E : zE) (S : zS) (a0 : Nat) (x1 : Int32) (M : zH) : Option (Int32 × zH) :=
  (F_NC_within n E S x1 0 1 M).bind fun q_1 =>
  if q_1.1 = true then
    (zgR S a0 10 2).bind fun b_3 =>
    (zldZ S q_1.2 b_3 x1).bind fun v_4 =>
    if v_4 = 0 then
      (F_NC_refuse n E S a0 (-2) q_1.2).bind fun q_6 =>
      some (q_6.1, q_6.2)
    else
      (zgR S a0 10 0).bind fun b_7 =>
      (zgR S a0 10 1).bind fun b_8 =>
      (zldR S q_1.2 17 b_8 x1).bind fun o_9 =>
      (o_9).bind fun g_10 =>
      (zck S b_7 3).bind fun u_11 =>
      (F_Ni_copyFrom n E S b_7 g_10 q_1.2).bind fun q_12 =>
      (zgR S a0 10 5).bind fun b_13 =>
      (zck S b_13 6).bind fun u_14 =>
      (F_Pt_clear n E S b_13 q_12).bind fun q_15 =>
      (F_NC_accept n E S a0 0 q_15).bind fun q_16 =>
      some (q_16.1, q_16.2)
  else
    (zck S a0 10).bind fun u_17 =>
    (F_NC_refuse n E S a0 (-1) q_1.2).bind fun q_18 =>
    some (q_18.1, q_18.2)
theorem K_NC_back (n : Nat) (E : zE) (S : zS) (a0 : Nat) (x1 : Int32) (M : zH) (r : Int32) (M' : zH)  (h : F_NC_back n E S a0 x1 M = some (r, M')) : zG E Y_NC_back (some (.int r), S, M') 0 [(0, .ref a0), (1, .int x1)] [] S M 0 0 := by
  unfold F_NC_back at h
  refine zi_iload_n 1 d_NC_back_0 rfl ?_
  refine zi_iconst 0 d_NC_back_1 rfl ?_
  refine zi_iconst 1 d_NC_back_2 rfl ?_
  obtain ⟨q_1, eq_1, h⟩ := zbind h
  refine zo_stat (k' := 0) (n' := 0) 6 [.int x1, .int 0, .int 1] [] [.int (bI q_1.1)] (C_NC_within n E S x1 0 1 M q_1.1 q_1.2 eq_1) d_NC_back_3 tw_399 tw_397 tw_398 tw_1 dd_NC_within ⟨Nat.le_of_ble_eq_true rfl, Nat.le_of_ble_eq_true rfl, Nat.le_of_ble_eq_true rfl, Nat.le_of_ble_eq_true rfl⟩ (Nat.le_of_ble_eq_true rfl) rfl rfl rfl rfl ?_
  refine zo_ifneB d_NC_back_6 rfl 9 rfl (fun c_2 => ?_) (fun c_2 => ?_)
  · rw [if_pos c_2] at h
    refine zi_aload_n 0 d_NC_back_15 rfl ?_
    obtain ⟨b_3, eb_3, h⟩ := zbind h
    refine zo_getR 19 zkd_10 2 d_NC_back_16 eb_3 rfl tw_334 rfl ?_
    refine zi_iload_n 1 d_NC_back_19 rfl ?_
    obtain ⟨v_4, ev_4, h⟩ := zbind h
    refine zo_zald 21 d_NC_back_20 ev_4 rfl ?_
    refine zi_if_ne (tgt := 31) d_NC_back_21 rfl (fun c_5 => ?_) (fun c_5 => ?_)
    · rw [if_neg c_5] at h
      refine zi_aload_n 0 d_NC_back_31 rfl ?_
      obtain ⟨b_7, eb_7, h⟩ := zbind h
      refine zo_getR 35 zkd_10 0 d_NC_back_32 eb_7 rfl tw_332 rfl ?_
      refine zi_aload_n 0 d_NC_back_35 rfl ?_
      obtain ⟨b_8, eb_8, h⟩ := zbind h
      refine zo_getR 39 zkd_10 1 d_NC_back_36 eb_8 rfl tw_333 rfl ?_
      refine zi_iload_n 1 d_NC_back_39 rfl ?_
      obtain ⟨o_9, eo_9, h⟩ := zbind h
      refine zo_aald 41 d_NC_back_40 eo_9 (by decide) rfl ?_
      obtain ⟨g_10, eg_10, h⟩ := zbind h
      simp only [eg_10, va_rf]
      obtain ⟨u_11, eu_11, h⟩ := zbind h
      obtain ⟨q_12, eq_12, h⟩ := zbind h
      refine zo_virt (k' := 0) (n' := 0) 44 [.ref g_10] [] [] zkd_3 (zck_s eu_11) (C_Ni_copyFrom n E S b_7 g_10 q_1.2 q_12 eq_12) d_NC_back_41 tw_867 tw_864 tw_865 tw_866 tw_2 dd_Ni_copyFrom ⟨Nat.le_of_ble_eq_true rfl, Nat.le_of_ble_eq_true rfl, Nat.le_of_ble_eq_true rfl, Nat.le_of_ble_eq_true rfl⟩ (Nat.le_of_ble_eq_true rfl) rfl rfl rfl rfl ?_
      refine zi_aload_n 0 d_NC_back_44 rfl ?_
      obtain ⟨b_13, eb_13, h⟩ := zbind h
      refine zo_getR 48 zkd_10 5 d_NC_back_45 eb_13 rfl tw_337 rfl ?_
      obtain ⟨u_14, eu_14, h⟩ := zbind h
      obtain ⟨q_15, eq_15, h⟩ := zbind h
      refine zo_virt (k' := 0) (n' := 0) 51 [] [] [] zkd_6 (zck_s eu_14) (C_Pt_clear n E S b_13 q_12 q_15 eq_15) d_NC_back_48 tw_454 tw_451 tw_452 tw_453 tw_4 dd_Pt_clear ⟨Nat.le_of_ble_eq_true rfl, Nat.le_of_ble_eq_true rfl, Nat.le_of_ble_eq_true rfl, Nat.le_of_ble_eq_true rfl⟩ (Nat.le_of_ble_eq_true rfl) rfl rfl rfl rfl ?_
      refine zi_aload_n 0 d_NC_back_51 rfl ?_
      refine zi_iconst 0 d_NC_back_52 rfl ?_
      obtain ⟨q_16, eq_16, h⟩ := zbind h
      refine zo_virt (k' := 0) (n' := 0) 56 [.int 0] [] [.int q_16.1] zkd_10 (zgR_s eb_3).1 (C_NC_accept n E S a0 0 q_15 q_16.1 q_16.2 eq_16) d_NC_back_53 tw_458 tw_455 tw_457 ts_2 tw_1 dd_NC_accept ⟨Nat.le_of_ble_eq_true rfl, Nat.le_of_ble_eq_true rfl, Nat.le_of_ble_eq_true rfl, Nat.le_of_ble_eq_true rfl⟩ (Nat.le_of_ble_eq_true rfl) rfl rfl rfl rfl ?_
      cases h
      exact zo_ret d_NC_back_56 (Nat.le_of_ble_eq_true rfl) (Nat.le_of_ble_eq_true rfl) rfl
    · rw [if_pos c_5] at h
      refine zi_aload_n 0 d_NC_back_24 rfl ?_
      refine zi_bipush (-2) d_NC_back_25 rfl ?_
      obtain ⟨q_6, eq_6, h⟩ := zbind h
      refine zo_virt (k' := 0) (n' := 0) 30 [.int (-2)] [] [.int q_6.1] zkd_10 (zgR_s eb_3).1 (C_NC_refuse n E S a0 (-2) q_1.2 q_6.1 q_6.2 eq_6) d_NC_back_27 tw_450 tw_447 tw_449 ts_1 tw_1 dd_NC_refuse ⟨Nat.le_of_ble_eq_true rfl, Nat.le_of_ble_eq_true rfl, Nat.le_of_ble_eq_true rfl, Nat.le_of_ble_eq_true rfl⟩ (Nat.le_of_ble_eq_true rfl) rfl rfl rfl rfl ?_
      cases h
      exact zo_ret d_NC_back_30 (Nat.le_of_ble_eq_true rfl) (Nat.le_of_ble_eq_true rfl) rfl
  · rw [if_neg c_2] at h
    refine zi_aload_n 0 d_NC_back_9 rfl ?_
    refine zi_iconst (-1) d_NC_back_10 rfl ?_
    obtain ⟨u_17, eu_17, h⟩ := zbind h
    obtain ⟨q_18, eq_18, h⟩ := zbind h
    refine zo_virt (k' := 0) (n' := 0) 14 [.int (-1)] [] [.int q_18.1] zkd_10 (zck_s eu_17) (C_NC_refuse n E S a0 (-1) q_1.2 q_18.1 q_18.2 eq_18) d_NC_back_11 tw_450 tw_447 tw_449 ts_1 tw_1 dd_NC_refuse ⟨Nat.le_of_ble_eq_true rfl, Nat.le_of_ble_eq_true rfl, Nat.le_of_ble_eq_true rfl, Nat.le_of_ble_eq_true rfl⟩ (Nat.le_of_ble_eq_true rfl) rfl rfl rfl rfl ?_
    cases h
    exact zo_ret d_NC_back_14 (Nat.le_of_ble_eq_true rfl) (Nat.le_of_ble_eq_true rfl) rfl
theorem C_NC_back (n : Nat) (E : zE) (S : zS) (a0 : Nat) (x1 : Int32) (M : zH) (r : Int32) (M' : zH) (h : F_NC_back n E S a0 x1 M = some (r, M')) : zC E Y_NC_back [.ref a0, .int x1] S M (some (.int r), S, M') :=
  zC.of (Or.inl (show plainName "NightColander" = true by decide)) (Nat.le_of_ble_eq_true rfl) (trivial) (K_NC_back n E S a0 x1 M r M' h)
theorem d_Ni_blockedHoles_0 : decode (yB Y_Ni_blockedHoles) 0 = .ok (.iconst 0, 1) := by decide +kernel
theorem d_Ni_blockedHoles_1 : decode (yB Y_Ni_blockedHoles) 1 = .ok (.istore_n 1, 1) := by decide +kernel
theorem d_Ni_blockedHoles_2 : decode (yB Y_Ni_blockedHoles) 2 = .ok (.aload_n 0, 1) := by decide +kernel
theorem d_Ni_blockedHoles_3 : decode (yB Y_Ni_blockedHoles) 3 = .ok (.getfield 15, 3) := by decide +kernel
theorem d_Ni_blockedHoles_6 : decode (yB Y_Ni_blockedHoles) 6 = .ok (.astore_n 2, 1) := by decide +kernel
theorem d_Ni_blockedHoles_7 : decode (yB Y_Ni_blockedHoles) 7 = .ok (.aload_n 2, 1) := by decide +kernel
theorem d_Ni_blockedHoles_8 : decode (yB Y_Ni_blockedHoles) 8 = .ok (.arraylength, 1) := by decide +kernel
theorem d_Ni_blockedHoles_9 : decode (yB Y_Ni_blockedHoles) 9 = .ok (.istore_n 3, 1) := by decide +kernel
theorem d_Ni_blockedHoles_10 : decode (yB Y_Ni_blockedHoles) 10 = .ok (.iconst 0, 1) := by decide +kernel
theorem d_Ni_blockedHoles_11 : decode (yB Y_Ni_blockedHoles) 11 = .ok (.istore 4, 2) := by decide +kernel
theorem d_Ni_blockedHoles_13 : decode (yB Y_Ni_blockedHoles) 13 = .ok (.iload 4, 2) := by decide +kernel
theorem d_Ni_blockedHoles_15 : decode (yB Y_Ni_blockedHoles) 15 = .ok (.iload_n 3, 1) := by decide +kernel
theorem d_Ni_blockedHoles_16 : decode (yB Y_Ni_blockedHoles) 16 = .ok (.if_icmp .ge 28, 3) := by decide +kernel
theorem d_Ni_blockedHoles_19 : decode (yB Y_Ni_blockedHoles) 19 = .ok (.aload_n 2, 1) := by decide +kernel
theorem d_Ni_blockedHoles_20 : decode (yB Y_Ni_blockedHoles) 20 = .ok (.iload 4, 2) := by decide +kernel
theorem d_Ni_blockedHoles_22 : decode (yB Y_Ni_blockedHoles) 22 = .ok (.baload, 1) := by decide +kernel
theorem d_Ni_blockedHoles_23 : decode (yB Y_Ni_blockedHoles) 23 = .ok (.istore 5, 2) := by decide +kernel
theorem d_Ni_blockedHoles_25 : decode (yB Y_Ni_blockedHoles) 25 = .ok (.iload_n 1, 1) := by decide +kernel
theorem d_Ni_blockedHoles_26 : decode (yB Y_Ni_blockedHoles) 26 = .ok (.iload 5, 2) := by decide +kernel
theorem d_Ni_blockedHoles_28 : decode (yB Y_Ni_blockedHoles) 28 = .ok (.ifCond .eq 7, 3) := by decide +kernel
theorem d_Ni_blockedHoles_31 : decode (yB Y_Ni_blockedHoles) 31 = .ok (.iconst 1, 1) := by decide +kernel
theorem d_Ni_blockedHoles_32 : decode (yB Y_Ni_blockedHoles) 32 = .ok (.goto 4, 3) := by decide +kernel
theorem d_Ni_blockedHoles_35 : decode (yB Y_Ni_blockedHoles) 35 = .ok (.iconst 0, 1) := by decide +kernel
theorem d_Ni_blockedHoles_36 : decode (yB Y_Ni_blockedHoles) 36 = .ok (.iadd, 1) := by decide +kernel
theorem d_Ni_blockedHoles_37 : decode (yB Y_Ni_blockedHoles) 37 = .ok (.istore_n 1, 1) := by decide +kernel
theorem d_Ni_blockedHoles_38 : decode (yB Y_Ni_blockedHoles) 38 = .ok (.iinc 4 1, 3) := by decide +kernel
theorem d_Ni_blockedHoles_41 : decode (yB Y_Ni_blockedHoles) 41 = .ok (.goto (-28), 3) := by decide +kernel
theorem d_Ni_blockedHoles_44 : decode (yB Y_Ni_blockedHoles) 44 = .ok (.iload_n 1, 1) := by decide +kernel
theorem d_Ni_blockedHoles_45 : decode (yB Y_Ni_blockedHoles) 45 = .ok (.ireturn, 1) := by decide +kernel
def F_Ni_blockedHoles_b36 (n : Nat) (E : zE) (S : zS) (r13 : Int32 × Nat × Int32 × Int32 × zH → Option (Int32 × zH)) (a2 : Nat) (x3 : Int32) (x4 : Int32) (s0 : Int32) (s1 : Int32) (M : zH) : Option (Int32 × zH) :=
  r13 (s1 + s0, a2, x3, x4 + 1, M)
def F_Ni_blockedHoles_L13 (n : Nat) (E : zE) (S : zS) (r13 : Int32 × Nat × Int32 × Int32 × zH → Option (Int32 × zH)) (x1 : Int32) (a2 : Nat) (x3 : Int32) (x4 : Int32) (M : zH) : Option (Int32 × zH) :=
  if x3 ≤ x4 then
    some (x1, M)
  else
    (zldZ S M a2 x4).bind fun v_2 =>
    if v_2 = 0 then
      F_Ni_blockedHoles_b36 n E S r13 a2 x3 x4 0 x1 M
    else
      F_Ni_blockedHoles_b36 n E S r13 a2 x3 x4 1 x1 M
def F_Ni_blockedHoles_b13 (n : Nat) (E : zE) (S : zS) : Int32 × Nat × Int32 × Int32 × zH → Option (Int32 × zH) := zfix (fun r13 s => F_Ni_blockedHoles_L13 n E S r13 s.1 s.2.1 s.2.2.1 s.2.2.2.1 s.2.2.2.2) n
def F_Ni_blockedHoles (n : Nat) (E : zE) (S : zS) (a0 : Nat) (M : zH) : Option (Int32 × zH) :=
  (zgR S a0 3 1).bind fun b_4 =>
  (zlen S 13 b_4).bind fun v_5 =>
  F_Ni_blockedHoles_b13 n E S (0, b_4, v_5, 0, M)
theorem K_Ni_blockedHoles_b36 (n : Nat) (E : zE) (S : zS) (r13 : Int32 × Nat × Int32 × Int32 × zH → Option (Int32 × zH)) (a2 : Nat) (x3 : Int32) (x4 : Int32) (s0 : Int32) (s1 : Int32) (M : zH) (r : Int32) (M' : zH) (hr13 : ∀ (x1 : Int32) (a2 : Nat) (x3 : Int32) (x4 : Int32) (M : zH), r13 (x1, a2, x3, x4, M) = some (r, M') → zG E Y_Ni_blockedHoles (some (.int r), S, M') 13 [(1, .int x1), (2, .ref a2), (3, .int x3), (4, .int x4)] [] S M 0 0) (h : F_Ni_blockedHoles_b36 n E S r13 a2 x3 x4 s0 s1 M = some (r, M')) : zG E Y_Ni_blockedHoles (some (.int r), S, M') 36 [(2, .ref a2), (3, .int x3), (4, .int x4)] [.int s0, .int s1] S M 0 0 := by
  unfold F_Ni_blockedHoles_b36 at h
  refine zi_iadd d_Ni_blockedHoles_36 ?_
  refine zi_istore_n [(1, .int (s1 + s0)), (2, .ref a2), (3, .int x3), (4, .int x4)] d_Ni_blockedHoles_37 (by decide) rfl ?_
  refine zi_iinc 3 (x4 + 1) [(4, .int (x4 + 1)), (1, .int (s1 + s0)), (2, .ref a2), (3, .int x3)] d_Ni_blockedHoles_38 rfl rfl (by decide) rfl ?_
  refine zi_goto (tgt := 13) d_Ni_blockedHoles_41 rfl ?_
  refine zi_lo [(1, .int (s1 + s0)), (2, .ref a2), (3, .int x3), (4, .int (x4 + 1))] [1, 2, 3, 0] rfl ?_
  exact hr13 (s1 + s0) a2 x3 (x4 + 1) M h
theorem K_Ni_blockedHoles_L13 (n : Nat) (E : zE) (S : zS) (r13 : Int32 × Nat × Int32 × Int32 × zH → Option (Int32 × zH)) (x1 : Int32) (a2 : Nat) (x3 : Int32) (x4 : Int32) (M : zH) (r : Int32) (M' : zH) (hr13 : ∀ (x1 : Int32) (a2 : Nat) (x3 : Int32) (x4 : Int32) (M : zH), r13 (x1, a2, x3, x4, M) = some (r, M') → zG E Y_Ni_blockedHoles (some (.int r), S, M') 13 [(1, .int x1), (2, .ref a2), (3, .int x3), (4, .int x4)] [] S M 0 0) (h : F_Ni_blockedHoles_L13 n E S r13 x1 a2 x3 x4 M = some (r, M')) : zG E Y_Ni_blockedHoles (some (.int r), S, M') 13 [(1, .int x1), (2, .ref a2), (3, .int x3), (4, .int x4)] [] S M 0 0 := by
  unfold F_Ni_blockedHoles_L13 at h
  refine zi_iload 3 d_Ni_blockedHoles_13 rfl ?_
  refine zi_iload_n 2 d_Ni_blockedHoles_15 rfl ?_
  refine zi_icmp_ge (tgt := 44) d_Ni_blockedHoles_16 rfl (fun c_1 => ?_) (fun c_1 => ?_)
  · rw [if_pos c_1] at h
    refine zi_iload_n 0 d_Ni_blockedHoles_44 rfl ?_
    cases h
    exact zo_ret d_Ni_blockedHoles_45 (Nat.le_of_ble_eq_true rfl) (Nat.le_of_ble_eq_true rfl) rfl
  · rw [if_neg c_1] at h
    refine zi_aload_n 1 d_Ni_blockedHoles_19 rfl ?_
    refine zi_iload 3 d_Ni_blockedHoles_20 rfl ?_
    obtain ⟨v_2, ev_2, h⟩ := zbind h
    refine zo_zald 23 d_Ni_blockedHoles_22 ev_2 rfl ?_
    refine zi_istore [(5, .int v_2), (1, .int x1), (2, .ref a2), (3, .int x3), (4, .int x4)] d_Ni_blockedHoles_23 (by decide) rfl ?_
    refine zi_iload_n 1 d_Ni_blockedHoles_25 rfl ?_
    refine zi_iload 0 d_Ni_blockedHoles_26 rfl ?_
    refine zi_if_eq (tgt := 35) d_Ni_blockedHoles_28 rfl (fun c_3 => ?_) (fun c_3 => ?_)
    · rw [if_pos c_3] at h
      refine zi_iconst 0 d_Ni_blockedHoles_35 rfl ?_
      refine zi_lo [(2, .ref a2), (3, .int x3), (4, .int x4)] [2, 3, 4] rfl ?_
      exact K_Ni_blockedHoles_b36 n E S r13 a2 x3 x4 0 x1 M r M' hr13 h
    · rw [if_neg c_3] at h
      refine zi_iconst 1 d_Ni_blockedHoles_31 rfl ?_
      refine zi_goto (tgt := 36) d_Ni_blockedHoles_32 rfl ?_
      refine zi_lo [(2, .ref a2), (3, .int x3), (4, .int x4)] [2, 3, 4] rfl ?_
      exact K_Ni_blockedHoles_b36 n E S r13 a2 x3 x4 1 x1 M r M' hr13 h
theorem K_Ni_blockedHoles_b13 (n : Nat) (E : zE) (S : zS) (x1 : Int32) (a2 : Nat) (x3 : Int32) (x4 : Int32) (M : zH) (r : Int32) (M' : zH)  (h : F_Ni_blockedHoles_b13 n E S (x1, a2, x3, x4, M) = some (r, M')) : zG E Y_Ni_blockedHoles (some (.int r), S, M') 13 [(1, .int x1), (2, .ref a2), (3, .int x3), (4, .int x4)] [] S M 0 0 := by
  have key : ∀ (k : Nat) (x1 : Int32) (a2 : Nat) (x3 : Int32) (x4 : Int32) (M : zH), zfix (fun r13 s => F_Ni_blockedHoles_L13 n E S r13 s.1 s.2.1 s.2.2.1 s.2.2.2.1 s.2.2.2.2) k (x1, a2, x3, x4, M) = some (r, M') → zG E Y_Ni_blockedHoles (some (.int r), S, M') 13 [(1, .int x1), (2, .ref a2), (3, .int x3), (4, .int x4)] [] S M 0 0 := by
    intro k
    induction k with
    | zero => intro x1 a2 x3 x4 M h; cases h
    | succ k ih => intro x1 a2 x3 x4 M h; exact K_Ni_blockedHoles_L13 n E S _ x1 a2 x3 x4 M r M'  (fun x1 a2 x3 x4 M h => ih x1 a2 x3 x4 M h) h
  exact key n x1 a2 x3 x4 M h
theorem K_Ni_blockedHoles (n : Nat) (E : zE) (S : zS) (a0 : Nat) (M : zH) (r : Int32) (M' : zH)  (h : F_Ni_blockedHoles n E S a0 M = some (r, M')) : zG E Y_Ni_blockedHoles (some (.int r), S, M') 0 [(0, .ref a0)] [] S M 0 0 := by
  unfold F_Ni_blockedHoles at h
  refine zi_iconst 0 d_Ni_blockedHoles_0 rfl ?_
  refine zi_istore_n [(1, .int 0), (0, .ref a0)] d_Ni_blockedHoles_1 (by decide) rfl ?_
  refine zi_aload_n 1 d_Ni_blockedHoles_2 rfl ?_
  obtain ⟨b_4, eb_4, h⟩ := zbind h
  refine zo_getR 6 zkd_3 1 d_Ni_blockedHoles_3 eb_4 rfl tw_46 rfl ?_
  refine zi_astore_n [(2, .ref b_4), (1, .int 0), (0, .ref a0)] d_Ni_blockedHoles_6 (by decide) rfl ?_
  refine zi_aload_n 0 d_Ni_blockedHoles_7 rfl ?_
  obtain ⟨v_5, ev_5, h⟩ := zbind h
  refine zo_alen 9 d_Ni_blockedHoles_8 ev_5 (by decide) rfl ?_
  refine zi_istore_n [(3, .int v_5), (2, .ref b_4), (1, .int 0), (0, .ref a0)] d_Ni_blockedHoles_9 (by decide) rfl ?_
  refine zi_iconst 0 d_Ni_blockedHoles_10 rfl ?_
  refine zi_istore [(4, .int 0), (3, .int v_5), (2, .ref b_4), (1, .int 0), (0, .ref a0)] d_Ni_blockedHoles_11 (by decide) rfl ?_
  refine zi_lo [(1, .int 0), (2, .ref b_4), (3, .int v_5), (4, .int 0)] [3, 2, 1, 0] rfl ?_
  exact K_Ni_blockedHoles_b13 n E S 0 b_4 v_5 0 M r M'  h
theorem C_Ni_blockedHoles (n : Nat) (E : zE) (S : zS) (a0 : Nat) (M : zH) (r : Int32) (M' : zH) (h : F_Ni_blockedHoles n E S a0 M = some (r, M')) : zC E Y_Ni_blockedHoles [.ref a0] S M (some (.int r), S, M') :=
  zC.of (Or.inl (show plainName "NightColander$Night" = true by decide)) (Nat.le_of_ble_eq_true rfl) (trivial) (K_Ni_blockedHoles n E S a0 M r M' h)
theorem d_NC_count_0 : decode (yB Y_NC_count) 0 = .ok (.iload_n 1, 1) := by decide +kernel
theorem d_NC_count_1 : decode (yB Y_NC_count) 1 = .ok (.bipush 7, 2) := by decide +kernel
theorem d_NC_count_3 : decode (yB Y_NC_count) 3 = .ok (.bipush 11, 2) := by decide +kernel
theorem d_NC_count_5 : decode (yB Y_NC_count) 5 = .ok (.invokestatic 132, 3) := by decide +kernel
theorem d_NC_count_8 : decode (yB Y_NC_count) 8 = .ok (.ifCond .eq 13, 3) := by decide +kernel
theorem d_NC_count_11 : decode (yB Y_NC_count) 11 = .ok (.aload_n 0, 1) := by decide +kernel
theorem d_NC_count_12 : decode (yB Y_NC_count) 12 = .ok (.getfield 90, 3) := by decide +kernel
theorem d_NC_count_15 : decode (yB Y_NC_count) 15 = .ok (.iload_n 1, 1) := by decide +kernel
theorem d_NC_count_16 : decode (yB Y_NC_count) 16 = .ok (.bipush 7, 2) := by decide +kernel
theorem d_NC_count_18 : decode (yB Y_NC_count) 18 = .ok (.isub, 1) := by decide +kernel
theorem d_NC_count_19 : decode (yB Y_NC_count) 19 = .ok (.iaload, 1) := by decide +kernel
theorem d_NC_count_20 : decode (yB Y_NC_count) 20 = .ok (.ireturn, 1) := by decide +kernel
theorem d_NC_count_21 : decode (yB Y_NC_count) 21 = .ok (.iload_n 1, 1) := by decide +kernel
theorem d_NC_count_22 : decode (yB Y_NC_count) 22 = .ok (.bipush 13, 2) := by decide +kernel
theorem d_NC_count_24 : decode (yB Y_NC_count) 24 = .ok (.bipush 16, 2) := by decide +kernel
theorem d_NC_count_26 : decode (yB Y_NC_count) 26 = .ok (.invokestatic 132, 3) := by decide +kernel
theorem d_NC_count_29 : decode (yB Y_NC_count) 29 = .ok (.ifCond .eq 16, 3) := by decide +kernel
theorem d_NC_count_32 : decode (yB Y_NC_count) 32 = .ok (.aload_n 0, 1) := by decide +kernel
theorem d_NC_count_33 : decode (yB Y_NC_count) 33 = .ok (.getfield 12, 3) := by decide +kernel
theorem d_NC_count_36 : decode (yB Y_NC_count) 36 = .ok (.getfield 192, 3) := by decide +kernel
theorem d_NC_count_39 : decode (yB Y_NC_count) 39 = .ok (.iload_n 1, 1) := by decide +kernel
theorem d_NC_count_40 : decode (yB Y_NC_count) 40 = .ok (.bipush 13, 2) := by decide +kernel
theorem d_NC_count_42 : decode (yB Y_NC_count) 42 = .ok (.isub, 1) := by decide +kernel
theorem d_NC_count_43 : decode (yB Y_NC_count) 43 = .ok (.iaload, 1) := by decide +kernel
theorem d_NC_count_44 : decode (yB Y_NC_count) 44 = .ok (.ireturn, 1) := by decide +kernel
theorem d_NC_count_45 : decode (yB Y_NC_count) 45 = .ok (.iload_n 1, 1) := by decide +kernel
theorem d_NC_count_46 : decode (yB Y_NC_count) 46 = .ok (.tableswitch 130 0 12 #[66, 74, 82, 90, 98, 106, 114, 130, 130, 130, 130, 130, 122], 66) := by decide +kernel
theorem d_NC_count_112 : decode (yB Y_NC_count) 112 = .ok (.aload_n 0, 1) := by decide +kernel
theorem d_NC_count_113 : decode (yB Y_NC_count) 113 = .ok (.getfield 12, 3) := by decide +kernel
theorem d_NC_count_116 : decode (yB Y_NC_count) 116 = .ok (.getfield 155, 3) := by decide +kernel
theorem d_NC_count_119 : decode (yB Y_NC_count) 119 = .ok (.ireturn, 1) := by decide +kernel
theorem d_NC_count_120 : decode (yB Y_NC_count) 120 = .ok (.aload_n 0, 1) := by decide +kernel
theorem d_NC_count_121 : decode (yB Y_NC_count) 121 = .ok (.getfield 12, 3) := by decide +kernel
theorem d_NC_count_124 : decode (yB Y_NC_count) 124 = .ok (.invokevirtual 320, 3) := by decide +kernel
theorem d_NC_count_127 : decode (yB Y_NC_count) 127 = .ok (.ireturn, 1) := by decide +kernel
theorem d_NC_count_128 : decode (yB Y_NC_count) 128 = .ok (.aload_n 0, 1) := by decide +kernel
theorem d_NC_count_129 : decode (yB Y_NC_count) 129 = .ok (.getfield 12, 3) := by decide +kernel
theorem d_NC_count_132 : decode (yB Y_NC_count) 132 = .ok (.invokevirtual 324, 3) := by decide +kernel
theorem d_NC_count_135 : decode (yB Y_NC_count) 135 = .ok (.ireturn, 1) := by decide +kernel
theorem d_NC_count_136 : decode (yB Y_NC_count) 136 = .ok (.aload_n 0, 1) := by decide +kernel
theorem d_NC_count_137 : decode (yB Y_NC_count) 137 = .ok (.getfield 12, 3) := by decide +kernel
theorem d_NC_count_140 : decode (yB Y_NC_count) 140 = .ok (.getfield 273, 3) := by decide +kernel
theorem d_NC_count_143 : decode (yB Y_NC_count) 143 = .ok (.ireturn, 1) := by decide +kernel
theorem d_NC_count_144 : decode (yB Y_NC_count) 144 = .ok (.aload_n 0, 1) := by decide +kernel
theorem d_NC_count_145 : decode (yB Y_NC_count) 145 = .ok (.getfield 12, 3) := by decide +kernel
theorem d_NC_count_148 : decode (yB Y_NC_count) 148 = .ok (.getfield 208, 3) := by decide +kernel
theorem d_NC_count_151 : decode (yB Y_NC_count) 151 = .ok (.ireturn, 1) := by decide +kernel
theorem d_NC_count_152 : decode (yB Y_NC_count) 152 = .ok (.aload_n 0, 1) := by decide +kernel
theorem d_NC_count_153 : decode (yB Y_NC_count) 153 = .ok (.getfield 35, 3) := by decide +kernel
theorem d_NC_count_156 : decode (yB Y_NC_count) 156 = .ok (.getfield 327, 3) := by decide +kernel
theorem d_NC_count_159 : decode (yB Y_NC_count) 159 = .ok (.ireturn, 1) := by decide +kernel
theorem d_NC_count_160 : decode (yB Y_NC_count) 160 = .ok (.aload_n 0, 1) := by decide +kernel
theorem d_NC_count_161 : decode (yB Y_NC_count) 161 = .ok (.getfield 45, 3) := by decide +kernel
theorem d_NC_count_164 : decode (yB Y_NC_count) 164 = .ok (.getfield 202, 3) := by decide +kernel
theorem d_NC_count_167 : decode (yB Y_NC_count) 167 = .ok (.ireturn, 1) := by decide +kernel
theorem d_NC_count_168 : decode (yB Y_NC_count) 168 = .ok (.aload_n 0, 1) := by decide +kernel
theorem d_NC_count_169 : decode (yB Y_NC_count) 169 = .ok (.getfield 12, 3) := by decide +kernel
theorem d_NC_count_172 : decode (yB Y_NC_count) 172 = .ok (.getfield 246, 3) := by decide +kernel
theorem d_NC_count_175 : decode (yB Y_NC_count) 175 = .ok (.ireturn, 1) := by decide +kernel
theorem d_NC_count_176 : decode (yB Y_NC_count) 176 = .ok (.iconst (-1), 1) := by decide +kernel
theorem d_NC_count_177 : decode (yB Y_NC_count) 177 = .ok (.ireturn, 1) := by decide +kernel
def F_NC_count (n : Nat) (E : zE) (S : zS) (a0 : Nat) (x1 : Int32) (M : zH) : Option (Int32 × zH) :=
  (F_NC_within n E S x1 7 11 M).bind fun q_1 =>
  if q_1.1 = true then
    (zgR S a0 10 13).bind fun b_3 =>
    (zldI S q_1.2 b_3 (x1 - 7)).bind fun v_4 =>
    some (v_4, q_1.2)
  else
    (F_NC_within n E S x1 13 16 q_1.2).bind fun q_5 =>
    if q_5.1 = true then
      (zgR S a0 10 0).bind fun b_7 =>
      (zgR S b_7 3 9).bind fun b_8 =>
      (zldI S q_5.2 b_8 (x1 - 13)).bind fun v_9 =>
      some (v_9, q_5.2)
    else
      if x1 = 0 then
        (zgR S a0 10 0).bind fun b_11 =>
        (zgI S q_5.2 b_11 3 11).bind fun v_12 =>
        some (v_12, q_5.2)
      else
      if x1 = 1 then
        (zgR S a0 10 0).bind fun b_14 =>
        (zck S b_14 3).bind fun u_15 =>
        (F_Ni_allLevels n E S b_14 q_5.2).bind fun q_16 =>
        some (q_16.1, q_16.2)
      else
      if x1 = 2 then
        (zgR S a0 10 0).bind fun b_18 =>
        (zck S b_18 3).bind fun u_19 =>
        (F_Ni_blockedHoles n E S b_18 q_5.2).bind fun q_20 =>
        some (q_20.1, q_20.2)
      else
      if x1 = 3 then
        (zgR S a0 10 0).bind fun b_22 =>
        (zgI S q_5.2 b_22 3 12).bind fun v_23 =>
        some (v_23, q_5.2)
      else
      if x1 = 4 then
        (zgR S a0 10 0).bind fun b_25 =>
        (zgI S q_5.2 b_25 3 13).bind fun v_26 =>
        some (v_26, q_5.2)
      else
      if x1 = 5 then
        (zgR S a0 10 5).bind fun b_28 =>
        (zgI S q_5.2 b_28 6 1).bind fun v_29 =>
        some (v_29, q_5.2)
      else
      if x1 = 6 then
        (zgR S a0 10 7).bind fun b_31 =>
        (zgI S q_5.2 b_31 8 1).bind fun v_32 =>
        some (v_32, q_5.2)
      else
      if x1 = 7 then
        some ((-1), q_5.2)
      else
      if x1 = 8 then
        some ((-1), q_5.2)
      else
      if x1 = 9 then
        some ((-1), q_5.2)
      else
      if x1 = 10 then
        some ((-1), q_5.2)
      else
      if x1 = 11 then
        some ((-1), q_5.2)
      else
      if x1 = 12 then
        (zgR S a0 10 0).bind fun b_39 =>
        (zgI S q_5.2 b_39 3 14).bind fun v_40 =>
        some (v_40, q_5.2)
      else
        some ((-1), q_5.2)
theorem K_NC_count (n : Nat) (E : zE) (S : zS) (a0 : Nat) (x1 : Int32) (M : zH) (r : Int32) (M' : zH)  (h : F_NC_count n E S a0 x1 M = some (r, M')) : zG E Y_NC_count (some (.int r), S, M') 0 [(0, .ref a0), (1, .int x1)] [] S M 0 0 := by
  unfold F_NC_count at h
  refine zi_iload_n 1 d_NC_count_0 rfl ?_
  refine zi_bipush 7 d_NC_count_1 rfl ?_
  refine zi_bipush 11 d_NC_count_3 rfl ?_
  obtain ⟨q_1, eq_1, h⟩ := zbind h
  refine zo_stat (k' := 0) (n' := 0) 8 [.int x1, .int 7, .int 11] [] [.int (bI q_1.1)] (C_NC_within n E S x1 7 11 M q_1.1 q_1.2 eq_1) d_NC_count_5 tw_399 tw_397 tw_398 tw_1 dd_NC_within ⟨Nat.le_of_ble_eq_true rfl, Nat.le_of_ble_eq_true rfl, Nat.le_of_ble_eq_true rfl, Nat.le_of_ble_eq_true rfl⟩ (Nat.le_of_ble_eq_true rfl) rfl rfl rfl rfl ?_
  refine zo_ifeqB d_NC_count_8 rfl 11 rfl (fun c_2 => ?_) (fun c_2 => ?_)
  · rw [if_neg c_2] at h
    refine zi_iload_n 1 d_NC_count_21 rfl ?_
    refine zi_bipush 13 d_NC_count_22 rfl ?_
    refine zi_bipush 16 d_NC_count_24 rfl ?_
    obtain ⟨q_5, eq_5, h⟩ := zbind h
    refine zo_stat (k' := 0) (n' := 0) 29 [.int x1, .int 13, .int 16] [] [.int (bI q_5.1)] (C_NC_within n E S x1 13 16 q_1.2 q_5.1 q_5.2 eq_5) d_NC_count_26 tw_399 tw_397 tw_398 tw_1 dd_NC_within ⟨Nat.le_of_ble_eq_true rfl, Nat.le_of_ble_eq_true rfl, Nat.le_of_ble_eq_true rfl, Nat.le_of_ble_eq_true rfl⟩ (Nat.le_of_ble_eq_true rfl) rfl rfl rfl rfl ?_
    refine zo_ifeqB d_NC_count_29 rfl 32 rfl (fun c_6 => ?_) (fun c_6 => ?_)
    · rw [if_neg c_6] at h
      refine zi_iload_n 1 d_NC_count_45 rfl ?_
      by_cases c_10 : x1 = 0
      · rw [if_pos c_10] at h
        refine zo_tab (tgt := 112) 0 d_NC_count_46 c_10 (by decide) (by decide) rfl rfl ?_
        refine zi_aload_n 0 d_NC_count_112 rfl ?_
        obtain ⟨b_11, eb_11, h⟩ := zbind h
        refine zo_getR 116 zkd_10 0 d_NC_count_113 eb_11 rfl tw_332 rfl ?_
        obtain ⟨v_12, ev_12, h⟩ := zbind h
        refine zo_getI 119 zkd_3 11 d_NC_count_116 ev_12 rfl tw_87 rfl ?_
        cases h
        exact zo_ret d_NC_count_119 (Nat.le_of_ble_eq_true rfl) (Nat.le_of_ble_eq_true rfl) rfl
      rw [if_neg c_10] at h
      by_cases c_13 : x1 = 1
      · rw [if_pos c_13] at h
        refine zo_tab (tgt := 120) 1 d_NC_count_46 c_13 (by decide) (by decide) rfl rfl ?_
        refine zi_aload_n 0 d_NC_count_120 rfl ?_
        obtain ⟨b_14, eb_14, h⟩ := zbind h
        refine zo_getR 124 zkd_10 0 d_NC_count_121 eb_14 rfl tw_332 rfl ?_
        obtain ⟨u_15, eu_15, h⟩ := zbind h
        obtain ⟨q_16, eq_16, h⟩ := zbind h
        refine zo_virt (k' := 0) (n' := 0) 127 [] [] [.int q_16.1] zkd_3 (zck_s eu_15) (C_Ni_allLevels n E S b_14 q_5.2 q_16.1 q_16.2 eq_16) d_NC_count_124 tw_886 tw_1194 tw_884 tw_885 tw_2 dd_Ni_allLevels ⟨Nat.le_of_ble_eq_true rfl, Nat.le_of_ble_eq_true rfl, Nat.le_of_ble_eq_true rfl, Nat.le_of_ble_eq_true rfl⟩ (Nat.le_of_ble_eq_true rfl) rfl rfl rfl rfl ?_
        cases h
        exact zo_ret d_NC_count_127 (Nat.le_of_ble_eq_true rfl) (Nat.le_of_ble_eq_true rfl) rfl
      rw [if_neg c_13] at h
      by_cases c_17 : x1 = 2
      · rw [if_pos c_17] at h
        refine zo_tab (tgt := 128) 2 d_NC_count_46 c_17 (by decide) (by decide) rfl rfl ?_
        refine zi_aload_n 0 d_NC_count_128 rfl ?_
        obtain ⟨b_18, eb_18, h⟩ := zbind h
        refine zo_getR 132 zkd_10 0 d_NC_count_129 eb_18 rfl tw_332 rfl ?_
        obtain ⟨u_19, eu_19, h⟩ := zbind h
        obtain ⟨q_20, eq_20, h⟩ := zbind h
        refine zo_virt (k' := 0) (n' := 0) 135 [] [] [.int q_20.1] zkd_3 (zck_s eu_19) (C_Ni_blockedHoles n E S b_18 q_5.2 q_20.1 q_20.2 eq_20) d_NC_count_132 tw_1198 tw_1195 tw_1196 tw_1197 tw_2 dd_Ni_blockedHoles ⟨Nat.le_of_ble_eq_true rfl, Nat.le_of_ble_eq_true rfl, Nat.le_of_ble_eq_true rfl, Nat.le_of_ble_eq_true rfl⟩ (Nat.le_of_ble_eq_true rfl) rfl rfl rfl rfl ?_
        cases h
        exact zo_ret d_NC_count_135 (Nat.le_of_ble_eq_true rfl) (Nat.le_of_ble_eq_true rfl) rfl
      rw [if_neg c_17] at h
      by_cases c_21 : x1 = 3
      · rw [if_pos c_21] at h
        refine zo_tab (tgt := 136) 3 d_NC_count_46 c_21 (by decide) (by decide) rfl rfl ?_
        refine zi_aload_n 0 d_NC_count_136 rfl ?_
        obtain ⟨b_22, eb_22, h⟩ := zbind h
        refine zo_getR 140 zkd_10 0 d_NC_count_137 eb_22 rfl tw_332 rfl ?_
        obtain ⟨v_23, ev_23, h⟩ := zbind h
        refine zo_getI 143 zkd_3 12 d_NC_count_140 ev_23 rfl tw_92 rfl ?_
        cases h
        exact zo_ret d_NC_count_143 (Nat.le_of_ble_eq_true rfl) (Nat.le_of_ble_eq_true rfl) rfl
      rw [if_neg c_21] at h
      by_cases c_24 : x1 = 4
      · rw [if_pos c_24] at h
        refine zo_tab (tgt := 144) 4 d_NC_count_46 c_24 (by decide) (by decide) rfl rfl ?_
        refine zi_aload_n 0 d_NC_count_144 rfl ?_
        obtain ⟨b_25, eb_25, h⟩ := zbind h
        refine zo_getR 148 zkd_10 0 d_NC_count_145 eb_25 rfl tw_332 rfl ?_
        obtain ⟨v_26, ev_26, h⟩ := zbind h
        refine zo_getI 151 zkd_3 13 d_NC_count_148 ev_26 rfl tw_94 rfl ?_
        cases h
        exact zo_ret d_NC_count_151 (Nat.le_of_ble_eq_true rfl) (Nat.le_of_ble_eq_true rfl) rfl
      rw [if_neg c_24] at h
      by_cases c_27 : x1 = 5
      · rw [if_pos c_27] at h
        refine zo_tab (tgt := 152) 5 d_NC_count_46 c_27 (by decide) (by decide) rfl rfl ?_
        refine zi_aload_n 0 d_NC_count_152 rfl ?_
        obtain ⟨b_28, eb_28, h⟩ := zbind h
        refine zo_getR 156 zkd_10 5 d_NC_count_153 eb_28 rfl tw_337 rfl ?_
        obtain ⟨v_29, ev_29, h⟩ := zbind h
        refine zo_getI 159 zkd_6 1 d_NC_count_156 ev_29 rfl tw_140 rfl ?_
        cases h
        exact zo_ret d_NC_count_159 (Nat.le_of_ble_eq_true rfl) (Nat.le_of_ble_eq_true rfl) rfl
      rw [if_neg c_27] at h
      by_cases c_30 : x1 = 6
      · rw [if_pos c_30] at h
        refine zo_tab (tgt := 160) 6 d_NC_count_46 c_30 (by decide) (by decide) rfl rfl ?_
        refine zi_aload_n 0 d_NC_count_160 rfl ?_
        obtain ⟨b_31, eb_31, h⟩ := zbind h
        refine zo_getR 164 zkd_10 7 d_NC_count_161 eb_31 rfl tw_339 rfl ?_
        obtain ⟨v_32, ev_32, h⟩ := zbind h
        refine zo_getI 167 zkd_8 1 d_NC_count_164 ev_32 rfl tw_154 rfl ?_
        cases h
        exact zo_ret d_NC_count_167 (Nat.le_of_ble_eq_true rfl) (Nat.le_of_ble_eq_true rfl) rfl
      rw [if_neg c_30] at h
      by_cases c_33 : x1 = 7
      · rw [if_pos c_33] at h
        refine zo_tab (tgt := 176) 7 d_NC_count_46 c_33 (by decide) (by decide) rfl rfl ?_
        refine zi_iconst (-1) d_NC_count_176 rfl ?_
        cases h
        exact zo_ret d_NC_count_177 (Nat.le_of_ble_eq_true rfl) (Nat.le_of_ble_eq_true rfl) rfl
      rw [if_neg c_33] at h
      by_cases c_34 : x1 = 8
      · rw [if_pos c_34] at h
        refine zo_tab (tgt := 176) 8 d_NC_count_46 c_34 (by decide) (by decide) rfl rfl ?_
        refine zi_iconst (-1) d_NC_count_176 rfl ?_
        cases h
        exact zo_ret d_NC_count_177 (Nat.le_of_ble_eq_true rfl) (Nat.le_of_ble_eq_true rfl) rfl
      rw [if_neg c_34] at h
      by_cases c_35 : x1 = 9
      · rw [if_pos c_35] at h
        refine zo_tab (tgt := 176) 9 d_NC_count_46 c_35 (by decide) (by decide) rfl rfl ?_
        refine zi_iconst (-1) d_NC_count_176 rfl ?_
        cases h
        exact zo_ret d_NC_count_177 (Nat.le_of_ble_eq_true rfl) (Nat.le_of_ble_eq_true rfl) rfl
      rw [if_neg c_35] at h
      by_cases c_36 : x1 = 10
      · rw [if_pos c_36] at h
        refine zo_tab (tgt := 176) 10 d_NC_count_46 c_36 (by decide) (by decide) rfl rfl ?_
        refine zi_iconst (-1) d_NC_count_176 rfl ?_
        cases h
        exact zo_ret d_NC_count_177 (Nat.le_of_ble_eq_true rfl) (Nat.le_of_ble_eq_true rfl) rfl
      rw [if_neg c_36] at h
      by_cases c_37 : x1 = 11
      · rw [if_pos c_37] at h
        refine zo_tab (tgt := 176) 11 d_NC_count_46 c_37 (by decide) (by decide) rfl rfl ?_
        refine zi_iconst (-1) d_NC_count_176 rfl ?_
        cases h
        exact zo_ret d_NC_count_177 (Nat.le_of_ble_eq_true rfl) (Nat.le_of_ble_eq_true rfl) rfl
      rw [if_neg c_37] at h
      by_cases c_38 : x1 = 12
      · rw [if_pos c_38] at h
        refine zo_tab (tgt := 168) 12 d_NC_count_46 c_38 (by decide) (by decide) rfl rfl ?_
        refine zi_aload_n 0 d_NC_count_168 rfl ?_
        obtain ⟨b_39, eb_39, h⟩ := zbind h
        refine zo_getR 172 zkd_10 0 d_NC_count_169 eb_39 rfl tw_332 rfl ?_
        obtain ⟨v_40, ev_40, h⟩ := zbind h
        refine zo_getI 175 zkd_3 14 d_NC_count_172 ev_40 rfl tw_96 rfl ?_
        cases h
        exact zo_ret d_NC_count_175 (Nat.le_of_ble_eq_true rfl) (Nat.le_of_ble_eq_true rfl) rfl
      rw [if_neg c_38] at h
      refine zo_tabP (tgt := 176) 0 13 d_NC_count_46 rfl rfl (fun j hj => by match j, hj with | 0, _ => exact c_10  | 1, _ => exact c_13  | 2, _ => exact c_17  | 3, _ => exact c_21  | 4, _ => exact c_24  | 5, _ => exact c_27  | 6, _ => exact c_30  | 7, _ => exact c_33  | 8, _ => exact c_34  | 9, _ => exact c_35  | 10, _ => exact c_36  | 11, _ => exact c_37  | 12, _ => exact c_38 | j + 13, hj => exact absurd hj (by omega)) rfl ?_
      refine zi_iconst (-1) d_NC_count_176 rfl ?_
      cases h
      exact zo_ret d_NC_count_177 (Nat.le_of_ble_eq_true rfl) (Nat.le_of_ble_eq_true rfl) rfl
    · rw [if_pos c_6] at h
      refine zi_aload_n 0 d_NC_count_32 rfl ?_
      obtain ⟨b_7, eb_7, h⟩ := zbind h
      refine zo_getR 36 zkd_10 0 d_NC_count_33 eb_7 rfl tw_332 rfl ?_
      obtain ⟨b_8, eb_8, h⟩ := zbind h
      refine zo_getR 39 zkd_3 9 d_NC_count_36 eb_8 rfl tw_84 rfl ?_
      refine zi_iload_n 1 d_NC_count_39 rfl ?_
      refine zi_bipush 13 d_NC_count_40 rfl ?_
      refine zi_isub d_NC_count_42 ?_
      obtain ⟨v_9, ev_9, h⟩ := zbind h
      refine zo_iald 44 d_NC_count_43 ev_9 rfl ?_
      cases h
      exact zo_ret d_NC_count_44 (Nat.le_of_ble_eq_true rfl) (Nat.le_of_ble_eq_true rfl) rfl
  · rw [if_pos c_2] at h
    refine zi_aload_n 0 d_NC_count_11 rfl ?_
    obtain ⟨b_3, eb_3, h⟩ := zbind h
    refine zo_getR 15 zkd_10 13 d_NC_count_12 eb_3 rfl tw_345 rfl ?_
    refine zi_iload_n 1 d_NC_count_15 rfl ?_
    refine zi_bipush 7 d_NC_count_16 rfl ?_
    refine zi_isub d_NC_count_18 ?_
    obtain ⟨v_4, ev_4, h⟩ := zbind h
    refine zo_iald 20 d_NC_count_19 ev_4 rfl ?_
    cases h
    exact zo_ret d_NC_count_20 (Nat.le_of_ble_eq_true rfl) (Nat.le_of_ble_eq_true rfl) rfl
theorem C_NC_count (n : Nat) (E : zE) (S : zS) (a0 : Nat) (x1 : Int32) (M : zH) (r : Int32) (M' : zH) (h : F_NC_count n E S a0 x1 M = some (r, M')) : zC E Y_NC_count [.ref a0, .int x1] S M (some (.int r), S, M') :=
  zC.of (Or.inl (show plainName "NightColander" = true by decide)) (Nat.le_of_ble_eq_true rfl) (trivial) (K_NC_count n E S a0 x1 M r M' h)
theorem d_NC_status_0 : decode (yB Y_NC_status) 0 = .ok (.aload_n 0, 1) := by decide +kernel
theorem d_NC_status_1 : decode (yB Y_NC_status) 1 = .ok (.getfield 98, 3) := by decide +kernel
theorem d_NC_status_4 : decode (yB Y_NC_status) 4 = .ok (.ireturn, 1) := by decide +kernel
def F_NC_status (n : Nat) (E : zE) (S : zS) (a0 : Nat) (M : zH) : Option (Int32 × zH) :=
  (zgI S M a0 10 15).bind fun v_1 =>
  some (v_1, M)
theorem K_NC_status (n : Nat) (E : zE) (S : zS) (a0 : Nat) (M : zH) (r : Int32) (M' : zH)  (h : F_NC_status n E S a0 M = some (r, M')) : zG E Y_NC_status (some (.int r), S, M') 0 [(0, .ref a0)] [] S M 0 0 := by
  unfold F_NC_status at h
  refine zi_aload_n 0 d_NC_status_0 rfl ?_
  obtain ⟨v_1, ev_1, h⟩ := zbind h
  refine zo_getI 4 zkd_10 15 d_NC_status_1 ev_1 rfl tw_347 rfl ?_
  cases h
  exact zo_ret d_NC_status_4 (Nat.le_of_ble_eq_true rfl) (Nat.le_of_ble_eq_true rfl) rfl
theorem C_NC_status (n : Nat) (E : zE) (S : zS) (a0 : Nat) (M : zH) (r : Int32) (M' : zH) (h : F_NC_status n E S a0 M = some (r, M')) : zC E Y_NC_status [.ref a0] S M (some (.int r), S, M') :=
  zC.of (Or.inl (show plainName "NightColander" = true by decide)) (Nat.le_of_ble_eq_true rfl) (trivial) (K_NC_status n E S a0 M r M' h)
theorem d_Mo_init_0 : decode (yB Y_Mo_init) 0 = .ok (.aload_n 0, 1) := by decide +kernel
theorem d_Mo_init_1 : decode (yB Y_Mo_init) 1 = .ok (.invokespecial 1, 3) := by decide +kernel
theorem d_Mo_init_4 : decode (yB Y_Mo_init) 4 = .ok (.aload_n 0, 1) := by decide +kernel
theorem d_Mo_init_5 : decode (yB Y_Mo_init) 5 = .ok (.bipush 7, 2) := by decide +kernel
theorem d_Mo_init_7 : decode (yB Y_Mo_init) 7 = .ok (.newarray .int, 2) := by decide +kernel
theorem d_Mo_init_9 : decode (yB Y_Mo_init) 9 = .ok (.putfield 7, 3) := by decide +kernel
theorem d_Mo_init_12 : decode (yB Y_Mo_init) 12 = .ok (.aload_n 0, 1) := by decide +kernel
theorem d_Mo_init_13 : decode (yB Y_Mo_init) 13 = .ok (.sipush 5480, 3) := by decide +kernel
theorem d_Mo_init_16 : decode (yB Y_Mo_init) 16 = .ok (.newarray .int, 2) := by decide +kernel
theorem d_Mo_init_18 : decode (yB Y_Mo_init) 18 = .ok (.putfield 13, 3) := by decide +kernel
theorem d_Mo_init_21 : decode (yB Y_Mo_init) 21 = .ok (.aload_n 0, 1) := by decide +kernel
theorem d_Mo_init_22 : decode (yB Y_Mo_init) 22 = .ok (.sipush 10960, 3) := by decide +kernel
theorem d_Mo_init_25 : decode (yB Y_Mo_init) 25 = .ok (.newarray .int, 2) := by decide +kernel
theorem d_Mo_init_27 : decode (yB Y_Mo_init) 27 = .ok (.putfield 16, 3) := by decide +kernel
theorem d_Mo_init_30 : decode (yB Y_Mo_init) 30 = .ok (.aload_n 0, 1) := by decide +kernel
theorem d_Mo_init_31 : decode (yB Y_Mo_init) 31 = .ok (.iconst 2, 1) := by decide +kernel
theorem d_Mo_init_32 : decode (yB Y_Mo_init) 32 = .ok (.newarray .boolean, 2) := by decide +kernel
theorem d_Mo_init_34 : decode (yB Y_Mo_init) 34 = .ok (.putfield 19, 3) := by decide +kernel
theorem d_Mo_init_37 : decode (yB Y_Mo_init) 37 = .ok (.aload_n 0, 1) := by decide +kernel
theorem d_Mo_init_38 : decode (yB Y_Mo_init) 38 = .ok (.sipush 900, 3) := by decide +kernel
theorem d_Mo_init_41 : decode (yB Y_Mo_init) 41 = .ok (.newarray .int, 2) := by decide +kernel
theorem d_Mo_init_43 : decode (yB Y_Mo_init) 43 = .ok (.putfield 23, 3) := by decide +kernel
theorem d_Mo_init_46 : decode (yB Y_Mo_init) 46 = .ok (.aload_n 0, 1) := by decide +kernel
theorem d_Mo_init_47 : decode (yB Y_Mo_init) 47 = .ok (.bipush 16, 2) := by decide +kernel
theorem d_Mo_init_49 : decode (yB Y_Mo_init) 49 = .ok (.newarray .int, 2) := by decide +kernel
theorem d_Mo_init_51 : decode (yB Y_Mo_init) 51 = .ok (.putfield 26, 3) := by decide +kernel
theorem d_Mo_init_54 : decode (yB Y_Mo_init) 54 = .ok (.aload_n 0, 1) := by decide +kernel
theorem d_Mo_init_55 : decode (yB Y_Mo_init) 55 = .ok (.sipush 800, 3) := by decide +kernel
theorem d_Mo_init_58 : decode (yB Y_Mo_init) 58 = .ok (.newarray .int, 2) := by decide +kernel
theorem d_Mo_init_60 : decode (yB Y_Mo_init) 60 = .ok (.putfield 29, 3) := by decide +kernel
theorem d_Mo_init_63 : decode (yB Y_Mo_init) 63 = .ok (.aload_n 0, 1) := by decide +kernel
theorem d_Mo_init_64 : decode (yB Y_Mo_init) 64 = .ok (.bipush 16, 2) := by decide +kernel
theorem d_Mo_init_66 : decode (yB Y_Mo_init) 66 = .ok (.newarray .int, 2) := by decide +kernel
theorem d_Mo_init_68 : decode (yB Y_Mo_init) 68 = .ok (.putfield 32, 3) := by decide +kernel
theorem d_Mo_init_71 : decode (yB Y_Mo_init) 71 = .ok (.aload_n 0, 1) := by decide +kernel
theorem d_Mo_init_72 : decode (yB Y_Mo_init) 72 = .ok (.sipush 400, 3) := by decide +kernel
theorem d_Mo_init_75 : decode (yB Y_Mo_init) 75 = .ok (.newarray .int, 2) := by decide +kernel
theorem d_Mo_init_77 : decode (yB Y_Mo_init) 77 = .ok (.putfield 35, 3) := by decide +kernel
theorem d_Mo_init_80 : decode (yB Y_Mo_init) 80 = .ok (.aload_n 0, 1) := by decide +kernel
theorem d_Mo_init_81 : decode (yB Y_Mo_init) 81 = .ok (.iconst (-1), 1) := by decide +kernel
theorem d_Mo_init_82 : decode (yB Y_Mo_init) 82 = .ok (.putfield 38, 3) := by decide +kernel
theorem d_Mo_init_85 : decode (yB Y_Mo_init) 85 = .ok (.aload_n 0, 1) := by decide +kernel
theorem d_Mo_init_86 : decode (yB Y_Mo_init) 86 = .ok (.bipush 96, 2) := by decide +kernel
theorem d_Mo_init_88 : decode (yB Y_Mo_init) 88 = .ok (.newarray .int, 2) := by decide +kernel
theorem d_Mo_init_90 : decode (yB Y_Mo_init) 90 = .ok (.putfield 42, 3) := by decide +kernel
theorem d_Mo_init_93 : decode (yB Y_Mo_init) 93 = .ok (.aload_n 0, 1) := by decide +kernel
theorem d_Mo_init_94 : decode (yB Y_Mo_init) 94 = .ok (.sipush 400, 3) := by decide +kernel
theorem d_Mo_init_97 : decode (yB Y_Mo_init) 97 = .ok (.newarray .int, 2) := by decide +kernel
theorem d_Mo_init_99 : decode (yB Y_Mo_init) 99 = .ok (.putfield 45, 3) := by decide +kernel
theorem d_Mo_init_102 : decode (yB Y_Mo_init) 102 = .ok (.aload_n 0, 1) := by decide +kernel
theorem d_Mo_init_103 : decode (yB Y_Mo_init) 103 = .ok (.sipush 400, 3) := by decide +kernel
theorem d_Mo_init_106 : decode (yB Y_Mo_init) 106 = .ok (.newarray .int, 2) := by decide +kernel
theorem d_Mo_init_108 : decode (yB Y_Mo_init) 108 = .ok (.putfield 48, 3) := by decide +kernel
theorem d_Mo_init_111 : decode (yB Y_Mo_init) 111 = .ok (.aload_n 0, 1) := by decide +kernel
theorem d_Mo_init_112 : decode (yB Y_Mo_init) 112 = .ok (.sipush 400, 3) := by decide +kernel
theorem d_Mo_init_115 : decode (yB Y_Mo_init) 115 = .ok (.newarray .int, 2) := by decide +kernel
theorem d_Mo_init_117 : decode (yB Y_Mo_init) 117 = .ok (.putfield 51, 3) := by decide +kernel
theorem d_Mo_init_120 : decode (yB Y_Mo_init) 120 = .ok (.aload_n 0, 1) := by decide +kernel
theorem d_Mo_init_121 : decode (yB Y_Mo_init) 121 = .ok (.sipush 400, 3) := by decide +kernel
theorem d_Mo_init_124 : decode (yB Y_Mo_init) 124 = .ok (.newarray .int, 2) := by decide +kernel
theorem d_Mo_init_126 : decode (yB Y_Mo_init) 126 = .ok (.putfield 54, 3) := by decide +kernel
theorem d_Mo_init_129 : decode (yB Y_Mo_init) 129 = .ok (.aload_n 0, 1) := by decide +kernel
theorem d_Mo_init_130 : decode (yB Y_Mo_init) 130 = .ok (.bipush 9, 2) := by decide +kernel
theorem d_Mo_init_132 : decode (yB Y_Mo_init) 132 = .ok (.newarray .long, 2) := by decide +kernel
theorem d_Mo_init_134 : decode (yB Y_Mo_init) 134 = .ok (.dup, 1) := by decide +kernel
theorem d_Mo_init_135 : decode (yB Y_Mo_init) 135 = .ok (.iconst 0, 1) := by decide +kernel
theorem d_Mo_init_136 : decode (yB Y_Mo_init) 136 = .ok (.ldc2_w 57, 3) := by decide +kernel
theorem d_Mo_init_139 : decode (yB Y_Mo_init) 139 = .ok (.lastore, 1) := by decide +kernel
theorem d_Mo_init_140 : decode (yB Y_Mo_init) 140 = .ok (.dup, 1) := by decide +kernel
theorem d_Mo_init_141 : decode (yB Y_Mo_init) 141 = .ok (.iconst 1, 1) := by decide +kernel
theorem d_Mo_init_142 : decode (yB Y_Mo_init) 142 = .ok (.ldc2_w 59, 3) := by decide +kernel
theorem d_Mo_init_145 : decode (yB Y_Mo_init) 145 = .ok (.lastore, 1) := by decide +kernel
theorem d_Mo_init_146 : decode (yB Y_Mo_init) 146 = .ok (.dup, 1) := by decide +kernel
theorem d_Mo_init_147 : decode (yB Y_Mo_init) 147 = .ok (.iconst 2, 1) := by decide +kernel
theorem d_Mo_init_148 : decode (yB Y_Mo_init) 148 = .ok (.ldc2_w 61, 3) := by decide +kernel
theorem d_Mo_init_151 : decode (yB Y_Mo_init) 151 = .ok (.lastore, 1) := by decide +kernel
theorem d_Mo_init_152 : decode (yB Y_Mo_init) 152 = .ok (.dup, 1) := by decide +kernel
theorem d_Mo_init_153 : decode (yB Y_Mo_init) 153 = .ok (.iconst 3, 1) := by decide +kernel
theorem d_Mo_init_154 : decode (yB Y_Mo_init) 154 = .ok (.ldc2_w 63, 3) := by decide +kernel
theorem d_Mo_init_157 : decode (yB Y_Mo_init) 157 = .ok (.lastore, 1) := by decide +kernel
theorem d_Mo_init_158 : decode (yB Y_Mo_init) 158 = .ok (.dup, 1) := by decide +kernel
theorem d_Mo_init_159 : decode (yB Y_Mo_init) 159 = .ok (.iconst 4, 1) := by decide +kernel
theorem d_Mo_init_160 : decode (yB Y_Mo_init) 160 = .ok (.ldc2_w 65, 3) := by decide +kernel
theorem d_Mo_init_163 : decode (yB Y_Mo_init) 163 = .ok (.lastore, 1) := by decide +kernel
theorem d_Mo_init_164 : decode (yB Y_Mo_init) 164 = .ok (.dup, 1) := by decide +kernel
theorem d_Mo_init_165 : decode (yB Y_Mo_init) 165 = .ok (.iconst 5, 1) := by decide +kernel
theorem d_Mo_init_166 : decode (yB Y_Mo_init) 166 = .ok (.ldc2_w 67, 3) := by decide +kernel
theorem d_Mo_init_169 : decode (yB Y_Mo_init) 169 = .ok (.lastore, 1) := by decide +kernel
theorem d_Mo_init_170 : decode (yB Y_Mo_init) 170 = .ok (.dup, 1) := by decide +kernel
theorem d_Mo_init_171 : decode (yB Y_Mo_init) 171 = .ok (.bipush 6, 2) := by decide +kernel
theorem d_Mo_init_173 : decode (yB Y_Mo_init) 173 = .ok (.ldc2_w 69, 3) := by decide +kernel
theorem d_Mo_init_176 : decode (yB Y_Mo_init) 176 = .ok (.lastore, 1) := by decide +kernel
theorem d_Mo_init_177 : decode (yB Y_Mo_init) 177 = .ok (.dup, 1) := by decide +kernel
theorem d_Mo_init_178 : decode (yB Y_Mo_init) 178 = .ok (.bipush 7, 2) := by decide +kernel
theorem d_Mo_init_180 : decode (yB Y_Mo_init) 180 = .ok (.ldc2_w 71, 3) := by decide +kernel
theorem d_Mo_init_183 : decode (yB Y_Mo_init) 183 = .ok (.lastore, 1) := by decide +kernel
theorem d_Mo_init_184 : decode (yB Y_Mo_init) 184 = .ok (.dup, 1) := by decide +kernel
theorem d_Mo_init_185 : decode (yB Y_Mo_init) 185 = .ok (.bipush 8, 2) := by decide +kernel
theorem d_Mo_init_187 : decode (yB Y_Mo_init) 187 = .ok (.ldc2_w 73, 3) := by decide +kernel
theorem d_Mo_init_190 : decode (yB Y_Mo_init) 190 = .ok (.lastore, 1) := by decide +kernel
theorem d_Mo_init_191 : decode (yB Y_Mo_init) 191 = .ok (.putfield 75, 3) := by decide +kernel
theorem d_Mo_init_194 : decode (yB Y_Mo_init) 194 = .ok (.aload_n 0, 1) := by decide +kernel
theorem d_Mo_init_195 : decode (yB Y_Mo_init) 195 = .ok (.bipush 7, 2) := by decide +kernel
theorem d_Mo_init_197 : decode (yB Y_Mo_init) 197 = .ok (.newarray .long, 2) := by decide +kernel
theorem d_Mo_init_199 : decode (yB Y_Mo_init) 199 = .ok (.dup, 1) := by decide +kernel
theorem d_Mo_init_200 : decode (yB Y_Mo_init) 200 = .ok (.iconst 0, 1) := by decide +kernel
theorem d_Mo_init_201 : decode (yB Y_Mo_init) 201 = .ok (.ldc2_w 69, 3) := by decide +kernel
theorem d_Mo_init_204 : decode (yB Y_Mo_init) 204 = .ok (.lastore, 1) := by decide +kernel
theorem d_Mo_init_205 : decode (yB Y_Mo_init) 205 = .ok (.dup, 1) := by decide +kernel
theorem d_Mo_init_206 : decode (yB Y_Mo_init) 206 = .ok (.iconst 1, 1) := by decide +kernel
theorem d_Mo_init_207 : decode (yB Y_Mo_init) 207 = .ok (.ldc2_w 79, 3) := by decide +kernel
theorem d_Mo_init_210 : decode (yB Y_Mo_init) 210 = .ok (.lastore, 1) := by decide +kernel
theorem d_Mo_init_211 : decode (yB Y_Mo_init) 211 = .ok (.dup, 1) := by decide +kernel
theorem d_Mo_init_212 : decode (yB Y_Mo_init) 212 = .ok (.iconst 2, 1) := by decide +kernel
theorem d_Mo_init_213 : decode (yB Y_Mo_init) 213 = .ok (.ldc2_w 81, 3) := by decide +kernel
theorem d_Mo_init_216 : decode (yB Y_Mo_init) 216 = .ok (.lastore, 1) := by decide +kernel
theorem d_Mo_init_217 : decode (yB Y_Mo_init) 217 = .ok (.dup, 1) := by decide +kernel
theorem d_Mo_init_218 : decode (yB Y_Mo_init) 218 = .ok (.iconst 3, 1) := by decide +kernel
theorem d_Mo_init_219 : decode (yB Y_Mo_init) 219 = .ok (.ldc2_w 83, 3) := by decide +kernel
theorem d_Mo_init_222 : decode (yB Y_Mo_init) 222 = .ok (.lastore, 1) := by decide +kernel
theorem d_Mo_init_223 : decode (yB Y_Mo_init) 223 = .ok (.dup, 1) := by decide +kernel
theorem d_Mo_init_224 : decode (yB Y_Mo_init) 224 = .ok (.iconst 4, 1) := by decide +kernel
theorem d_Mo_init_225 : decode (yB Y_Mo_init) 225 = .ok (.ldc2_w 85, 3) := by decide +kernel
theorem d_Mo_init_228 : decode (yB Y_Mo_init) 228 = .ok (.lastore, 1) := by decide +kernel
theorem d_Mo_init_229 : decode (yB Y_Mo_init) 229 = .ok (.dup, 1) := by decide +kernel
theorem d_Mo_init_230 : decode (yB Y_Mo_init) 230 = .ok (.iconst 5, 1) := by decide +kernel
theorem d_Mo_init_231 : decode (yB Y_Mo_init) 231 = .ok (.ldc2_w 67, 3) := by decide +kernel
theorem d_Mo_init_234 : decode (yB Y_Mo_init) 234 = .ok (.lastore, 1) := by decide +kernel
theorem d_Mo_init_235 : decode (yB Y_Mo_init) 235 = .ok (.dup, 1) := by decide +kernel
theorem d_Mo_init_236 : decode (yB Y_Mo_init) 236 = .ok (.bipush 6, 2) := by decide +kernel
theorem d_Mo_init_238 : decode (yB Y_Mo_init) 238 = .ok (.ldc2_w 87, 3) := by decide +kernel
theorem d_Mo_init_241 : decode (yB Y_Mo_init) 241 = .ok (.lastore, 1) := by decide +kernel
theorem d_Mo_init_242 : decode (yB Y_Mo_init) 242 = .ok (.putfield 89, 3) := by decide +kernel
theorem d_Mo_init_245 : decode (yB Y_Mo_init) 245 = .ok (.aload_n 0, 1) := by decide +kernel
theorem d_Mo_init_246 : decode (yB Y_Mo_init) 246 = .ok (.iconst 4, 1) := by decide +kernel
theorem d_Mo_init_247 : decode (yB Y_Mo_init) 247 = .ok (.newarray .long, 2) := by decide +kernel
theorem d_Mo_init_249 : decode (yB Y_Mo_init) 249 = .ok (.dup, 1) := by decide +kernel
theorem d_Mo_init_250 : decode (yB Y_Mo_init) 250 = .ok (.iconst 0, 1) := by decide +kernel
theorem d_Mo_init_251 : decode (yB Y_Mo_init) 251 = .ok (.ldc2_w 92, 3) := by decide +kernel
theorem d_Mo_init_254 : decode (yB Y_Mo_init) 254 = .ok (.lastore, 1) := by decide +kernel
theorem d_Mo_init_255 : decode (yB Y_Mo_init) 255 = .ok (.dup, 1) := by decide +kernel
theorem d_Mo_init_256 : decode (yB Y_Mo_init) 256 = .ok (.iconst 1, 1) := by decide +kernel
theorem d_Mo_init_257 : decode (yB Y_Mo_init) 257 = .ok (.ldc2_w 94, 3) := by decide +kernel
theorem d_Mo_init_260 : decode (yB Y_Mo_init) 260 = .ok (.lastore, 1) := by decide +kernel
theorem d_Mo_init_261 : decode (yB Y_Mo_init) 261 = .ok (.dup, 1) := by decide +kernel
theorem d_Mo_init_262 : decode (yB Y_Mo_init) 262 = .ok (.iconst 2, 1) := by decide +kernel
theorem d_Mo_init_263 : decode (yB Y_Mo_init) 263 = .ok (.ldc2_w 96, 3) := by decide +kernel
theorem d_Mo_init_266 : decode (yB Y_Mo_init) 266 = .ok (.lastore, 1) := by decide +kernel
theorem d_Mo_init_267 : decode (yB Y_Mo_init) 267 = .ok (.dup, 1) := by decide +kernel
theorem d_Mo_init_268 : decode (yB Y_Mo_init) 268 = .ok (.iconst 3, 1) := by decide +kernel
theorem d_Mo_init_269 : decode (yB Y_Mo_init) 269 = .ok (.ldc2_w 98, 3) := by decide +kernel
theorem d_Mo_init_272 : decode (yB Y_Mo_init) 272 = .ok (.lastore, 1) := by decide +kernel
theorem d_Mo_init_273 : decode (yB Y_Mo_init) 273 = .ok (.putfield 100, 3) := by decide +kernel
theorem d_Mo_init_276 : decode (yB Y_Mo_init) 276 = .ok (.aload_n 0, 1) := by decide +kernel
theorem d_Mo_init_277 : decode (yB Y_Mo_init) 277 = .ok (.bipush 13, 2) := by decide +kernel
theorem d_Mo_init_279 : decode (yB Y_Mo_init) 279 = .ok (.newarray .long, 2) := by decide +kernel
theorem d_Mo_init_281 : decode (yB Y_Mo_init) 281 = .ok (.putfield 103, 3) := by decide +kernel
theorem d_Mo_init_284 : decode (yB Y_Mo_init) 284 = .ok (.aload_n 0, 1) := by decide +kernel
theorem d_Mo_init_285 : decode (yB Y_Mo_init) 285 = .ok (.bipush 13, 2) := by decide +kernel
theorem d_Mo_init_287 : decode (yB Y_Mo_init) 287 = .ok (.newarray .long, 2) := by decide +kernel
theorem d_Mo_init_289 : decode (yB Y_Mo_init) 289 = .ok (.putfield 106, 3) := by decide +kernel
theorem d_Mo_init_292 : decode (yB Y_Mo_init) 292 = .ok (.aload_n 0, 1) := by decide +kernel
theorem d_Mo_init_293 : decode (yB Y_Mo_init) 293 = .ok (.sipush 400, 3) := by decide +kernel
theorem d_Mo_init_296 : decode (yB Y_Mo_init) 296 = .ok (.newarray .long, 2) := by decide +kernel
theorem d_Mo_init_298 : decode (yB Y_Mo_init) 298 = .ok (.putfield 109, 3) := by decide +kernel
theorem d_Mo_init_301 : decode (yB Y_Mo_init) 301 = .ok (.aload_n 0, 1) := by decide +kernel
theorem d_Mo_init_302 : decode (yB Y_Mo_init) 302 = .ok (.bipush 8, 2) := by decide +kernel
theorem d_Mo_init_304 : decode (yB Y_Mo_init) 304 = .ok (.newarray .int, 2) := by decide +kernel
theorem d_Mo_init_306 : decode (yB Y_Mo_init) 306 = .ok (.putfield 112, 3) := by decide +kernel
theorem d_Mo_init_309 : decode (yB Y_Mo_init) 309 = .ok (.aload_n 0, 1) := by decide +kernel
theorem d_Mo_init_310 : decode (yB Y_Mo_init) 310 = .ok (.bipush 24, 2) := by decide +kernel
theorem d_Mo_init_312 : decode (yB Y_Mo_init) 312 = .ok (.newarray .int, 2) := by decide +kernel
theorem d_Mo_init_314 : decode (yB Y_Mo_init) 314 = .ok (.putfield 115, 3) := by decide +kernel
theorem d_Mo_init_317 : decode (yB Y_Mo_init) 317 = .ok (.aload_n 0, 1) := by decide +kernel
theorem d_Mo_init_318 : decode (yB Y_Mo_init) 318 = .ok (.iconst 4, 1) := by decide +kernel
theorem d_Mo_init_319 : decode (yB Y_Mo_init) 319 = .ok (.newarray .int, 2) := by decide +kernel
theorem d_Mo_init_321 : decode (yB Y_Mo_init) 321 = .ok (.putfield 118, 3) := by decide +kernel
theorem d_Mo_init_324 : decode (yB Y_Mo_init) 324 = .ok (.aload_n 0, 1) := by decide +kernel
theorem d_Mo_init_325 : decode (yB Y_Mo_init) 325 = .ok (.iconst 3, 1) := by decide +kernel
theorem d_Mo_init_326 : decode (yB Y_Mo_init) 326 = .ok (.newarray .int, 2) := by decide +kernel
theorem d_Mo_init_328 : decode (yB Y_Mo_init) 328 = .ok (.putfield 121, 3) := by decide +kernel
theorem d_Mo_init_331 : decode (yB Y_Mo_init) 331 = .ok (.aload_n 0, 1) := by decide +kernel
theorem d_Mo_init_332 : decode (yB Y_Mo_init) 332 = .ok (.sipush 256, 3) := by decide +kernel
theorem d_Mo_init_335 : decode (yB Y_Mo_init) 335 = .ok (.newarray .int, 2) := by decide +kernel
theorem d_Mo_init_337 : decode (yB Y_Mo_init) 337 = .ok (.putfield 124, 3) := by decide +kernel
theorem d_Mo_init_340 : decode (yB Y_Mo_init) 340 = .ok (.aload_n 0, 1) := by decide +kernel
theorem d_Mo_init_341 : decode (yB Y_Mo_init) 341 = .ok (.sipush 401, 3) := by decide +kernel
theorem d_Mo_init_344 : decode (yB Y_Mo_init) 344 = .ok (.newarray .int, 2) := by decide +kernel
theorem d_Mo_init_346 : decode (yB Y_Mo_init) 346 = .ok (.putfield 127, 3) := by decide +kernel
theorem d_Mo_init_349 : decode (yB Y_Mo_init) 349 = .ok (.aload_n 0, 1) := by decide +kernel
theorem d_Mo_init_350 : decode (yB Y_Mo_init) 350 = .ok (.bipush 21, 2) := by decide +kernel
theorem d_Mo_init_352 : decode (yB Y_Mo_init) 352 = .ok (.newarray .long, 2) := by decide +kernel
theorem d_Mo_init_354 : decode (yB Y_Mo_init) 354 = .ok (.putfield 130, 3) := by decide +kernel
theorem d_Mo_init_357 : decode (yB Y_Mo_init) 357 = .ok (.aload_n 0, 1) := by decide +kernel
theorem d_Mo_init_358 : decode (yB Y_Mo_init) 358 = .ok (.iconst 4, 1) := by decide +kernel
theorem d_Mo_init_359 : decode (yB Y_Mo_init) 359 = .ok (.newarray .long, 2) := by decide +kernel
theorem d_Mo_init_361 : decode (yB Y_Mo_init) 361 = .ok (.dup, 1) := by decide +kernel
theorem d_Mo_init_362 : decode (yB Y_Mo_init) 362 = .ok (.iconst 0, 1) := by decide +kernel
theorem d_Mo_init_363 : decode (yB Y_Mo_init) 363 = .ok (.ldc2_w 133, 3) := by decide +kernel
theorem d_Mo_init_366 : decode (yB Y_Mo_init) 366 = .ok (.lastore, 1) := by decide +kernel
theorem d_Mo_init_367 : decode (yB Y_Mo_init) 367 = .ok (.dup, 1) := by decide +kernel
theorem d_Mo_init_368 : decode (yB Y_Mo_init) 368 = .ok (.iconst 1, 1) := by decide +kernel
theorem d_Mo_init_369 : decode (yB Y_Mo_init) 369 = .ok (.ldc2_w 135, 3) := by decide +kernel
theorem d_Mo_init_372 : decode (yB Y_Mo_init) 372 = .ok (.lastore, 1) := by decide +kernel
theorem d_Mo_init_373 : decode (yB Y_Mo_init) 373 = .ok (.dup, 1) := by decide +kernel
theorem d_Mo_init_374 : decode (yB Y_Mo_init) 374 = .ok (.iconst 2, 1) := by decide +kernel
theorem d_Mo_init_375 : decode (yB Y_Mo_init) 375 = .ok (.ldc2_w 137, 3) := by decide +kernel
theorem d_Mo_init_378 : decode (yB Y_Mo_init) 378 = .ok (.lastore, 1) := by decide +kernel
theorem d_Mo_init_379 : decode (yB Y_Mo_init) 379 = .ok (.dup, 1) := by decide +kernel
theorem d_Mo_init_380 : decode (yB Y_Mo_init) 380 = .ok (.iconst 3, 1) := by decide +kernel
theorem d_Mo_init_381 : decode (yB Y_Mo_init) 381 = .ok (.ldc2_w 139, 3) := by decide +kernel
theorem d_Mo_init_384 : decode (yB Y_Mo_init) 384 = .ok (.lastore, 1) := by decide +kernel
theorem d_Mo_init_385 : decode (yB Y_Mo_init) 385 = .ok (.putfield 141, 3) := by decide +kernel
theorem d_Mo_init_388 : decode (yB Y_Mo_init) 388 = .ok (.aload_n 0, 1) := by decide +kernel
theorem d_Mo_init_389 : decode (yB Y_Mo_init) 389 = .ok (.bipush 96, 2) := by decide +kernel
theorem d_Mo_init_391 : decode (yB Y_Mo_init) 391 = .ok (.newarray .int, 2) := by decide +kernel
theorem d_Mo_init_393 : decode (yB Y_Mo_init) 393 = .ok (.putfield 144, 3) := by decide +kernel
theorem d_Mo_init_396 : decode (yB Y_Mo_init) 396 = .ok (.aload_n 0, 1) := by decide +kernel
theorem d_Mo_init_397 : decode (yB Y_Mo_init) 397 = .ok (.iconst (-1), 1) := by decide +kernel
theorem d_Mo_init_398 : decode (yB Y_Mo_init) 398 = .ok (.putfield 147, 3) := by decide +kernel
theorem d_Mo_init_401 : decode (yB Y_Mo_init) 401 = .ok (.aload_n 0, 1) := by decide +kernel
theorem d_Mo_init_402 : decode (yB Y_Mo_init) 402 = .ok (.bipush 11, 2) := by decide +kernel
theorem d_Mo_init_404 : decode (yB Y_Mo_init) 404 = .ok (.newarray .int, 2) := by decide +kernel
theorem d_Mo_init_406 : decode (yB Y_Mo_init) 406 = .ok (.putfield 150, 3) := by decide +kernel
theorem d_Mo_init_409 : decode (yB Y_Mo_init) 409 = .ok (.aload_n 0, 1) := by decide +kernel
theorem d_Mo_init_410 : decode (yB Y_Mo_init) 410 = .ok (.iconst (-1), 1) := by decide +kernel
theorem d_Mo_init_411 : decode (yB Y_Mo_init) 411 = .ok (.putfield 153, 3) := by decide +kernel
theorem d_Mo_init_414 : decode (yB Y_Mo_init) 414 = .ok (.aload_n 0, 1) := by decide +kernel
theorem d_Mo_init_415 : decode (yB Y_Mo_init) 415 = .ok (.getfield 13, 3) := by decide +kernel
theorem d_Mo_init_418 : decode (yB Y_Mo_init) 418 = .ok (.iconst 3, 1) := by decide +kernel
theorem d_Mo_init_419 : decode (yB Y_Mo_init) 419 = .ok (.iconst (-1), 1) := by decide +kernel
theorem d_Mo_init_420 : decode (yB Y_Mo_init) 420 = .ok (.iastore, 1) := by decide +kernel
theorem d_Mo_init_421 : decode (yB Y_Mo_init) 421 = .ok (.aload_n 0, 1) := by decide +kernel
theorem d_Mo_init_422 : decode (yB Y_Mo_init) 422 = .ok (.getfield 13, 3) := by decide +kernel
theorem d_Mo_init_425 : decode (yB Y_Mo_init) 425 = .ok (.iconst 5, 1) := by decide +kernel
theorem d_Mo_init_426 : decode (yB Y_Mo_init) 426 = .ok (.iconst 3, 1) := by decide +kernel
theorem d_Mo_init_427 : decode (yB Y_Mo_init) 427 = .ok (.iastore, 1) := by decide +kernel
theorem d_Mo_init_428 : decode (yB Y_Mo_init) 428 = .ok (.aload_n 0, 1) := by decide +kernel
theorem d_Mo_init_429 : decode (yB Y_Mo_init) 429 = .ok (.getfield 13, 3) := by decide +kernel
theorem d_Mo_init_432 : decode (yB Y_Mo_init) 432 = .ok (.bipush 7, 2) := by decide +kernel
theorem d_Mo_init_434 : decode (yB Y_Mo_init) 434 = .ok (.iconst 1, 1) := by decide +kernel
theorem d_Mo_init_435 : decode (yB Y_Mo_init) 435 = .ok (.iastore, 1) := by decide +kernel
theorem d_Mo_init_436 : decode (yB Y_Mo_init) 436 = .ok (.iconst 0, 1) := by decide +kernel
theorem d_Mo_init_437 : decode (yB Y_Mo_init) 437 = .ok (.istore_n 1, 1) := by decide +kernel
theorem d_Mo_init_438 : decode (yB Y_Mo_init) 438 = .ok (.iload_n 1, 1) := by decide +kernel
theorem d_Mo_init_439 : decode (yB Y_Mo_init) 439 = .ok (.bipush 32, 2) := by decide +kernel
theorem d_Mo_init_441 : decode (yB Y_Mo_init) 441 = .ok (.if_icmp .ge 19, 3) := by decide +kernel
theorem d_Mo_init_444 : decode (yB Y_Mo_init) 444 = .ok (.aload_n 0, 1) := by decide +kernel
theorem d_Mo_init_445 : decode (yB Y_Mo_init) 445 = .ok (.getfield 13, 3) := by decide +kernel
theorem d_Mo_init_448 : decode (yB Y_Mo_init) 448 = .ok (.bipush 12, 2) := by decide +kernel
theorem d_Mo_init_450 : decode (yB Y_Mo_init) 450 = .ok (.iload_n 1, 1) := by decide +kernel
theorem d_Mo_init_451 : decode (yB Y_Mo_init) 451 = .ok (.iadd, 1) := by decide +kernel
theorem d_Mo_init_452 : decode (yB Y_Mo_init) 452 = .ok (.iconst 1, 1) := by decide +kernel
theorem d_Mo_init_453 : decode (yB Y_Mo_init) 453 = .ok (.iastore, 1) := by decide +kernel
theorem d_Mo_init_454 : decode (yB Y_Mo_init) 454 = .ok (.iinc 1 1, 3) := by decide +kernel
theorem d_Mo_init_457 : decode (yB Y_Mo_init) 457 = .ok (.goto (-19), 3) := by decide +kernel
theorem d_Mo_init_460 : decode (yB Y_Mo_init) 460 = .ok (.iconst 0, 1) := by decide +kernel
theorem d_Mo_init_461 : decode (yB Y_Mo_init) 461 = .ok (.istore_n 1, 1) := by decide +kernel
theorem d_Mo_init_462 : decode (yB Y_Mo_init) 462 = .ok (.iload_n 1, 1) := by decide +kernel
theorem d_Mo_init_463 : decode (yB Y_Mo_init) 463 = .ok (.bipush 8, 2) := by decide +kernel
theorem d_Mo_init_465 : decode (yB Y_Mo_init) 465 = .ok (.if_icmp .ge 19, 3) := by decide +kernel
theorem d_Mo_init_468 : decode (yB Y_Mo_init) 468 = .ok (.aload_n 0, 1) := by decide +kernel
theorem d_Mo_init_469 : decode (yB Y_Mo_init) 469 = .ok (.getfield 13, 3) := by decide +kernel
theorem d_Mo_init_472 : decode (yB Y_Mo_init) 472 = .ok (.bipush 57, 2) := by decide +kernel
theorem d_Mo_init_474 : decode (yB Y_Mo_init) 474 = .ok (.iload_n 1, 1) := by decide +kernel
theorem d_Mo_init_475 : decode (yB Y_Mo_init) 475 = .ok (.iadd, 1) := by decide +kernel
theorem d_Mo_init_476 : decode (yB Y_Mo_init) 476 = .ok (.iconst (-1), 1) := by decide +kernel
theorem d_Mo_init_477 : decode (yB Y_Mo_init) 477 = .ok (.iastore, 1) := by decide +kernel
theorem d_Mo_init_478 : decode (yB Y_Mo_init) 478 = .ok (.iinc 1 1, 3) := by decide +kernel
theorem d_Mo_init_481 : decode (yB Y_Mo_init) 481 = .ok (.goto (-19), 3) := by decide +kernel
theorem d_Mo_init_484 : decode (yB Y_Mo_init) 484 = .ok (.return_, 1) := by decide +kernel
def F_Mo_init_L462 (n : Nat) (E : zE) (r462 : Nat × Int32 × zS × zH → Option (zS × zH)) (a0 : Nat) (x1 : Int32) (S : zS) (M : zH) : Option (zS × zH) :=
  if 8 ≤ x1 then
    some (S, M)
  else
    (zgR S a0 11 3).bind fun b_2 =>
    (zstI S M b_2 (57 + x1) (-1)).bind fun m_3 =>
    r462 (a0, x1 + 1, S, m_3)
def F_Mo_init_b462 (n : Nat) (E : zE) : Nat × Int32 × zS × zH → Option (zS × zH) := zfix (fun r462 s => F_Mo_init_L462 n E r462 s.1 s.2.1 s.2.2.1 s.2.2.2) n
def F_Mo_init_L438 (n : Nat) (E : zE) (r438 : Nat × Int32 × zS × zH → Option (zS × zH)) (a0 : Nat) (x1 : Int32) (S : zS) (M : zH) : Option (zS × zH) :=
  if 32 ≤ x1 then
    F_Mo_init_b462 n E (a0, 0, S, M)
  else
    (zgR S a0 11 3).bind fun b_5 =>
    (zstI S M b_5 (12 + x1) 1).bind fun m_6 =>
    r438 (a0, x1 + 1, S, m_6)
def F_Mo_init_b438 (n : Nat) (E : zE) : Nat × Int32 × zS × zH → Option (zS × zH) := zfix (fun r438 s => F_Mo_init_L438 n E r438 s.1 s.2.1 s.2.2.1 s.2.2.2) n
def F_Mo_init (n : Nat) (E : zE) (a0 : Nat) (S : zS) (M : zH) : Option (zS × zH) :=
  (zmkA S M 12 7 7).bind fun q_7 =>
  (zpR q_7.2.1 a0 11 2 q_7.1).bind fun S_8 =>
  (zmkA S_8 q_7.2.2 12 5480 5480).bind fun q_9 =>
  (zpR q_9.2.1 a0 11 3 q_9.1).bind fun S_10 =>
  (zmkA S_10 q_9.2.2 12 10960 10960).bind fun q_11 =>
  (zpR q_11.2.1 a0 11 4 q_11.1).bind fun S_12 =>
  (zmkA S_12 q_11.2.2 13 2 2).bind fun q_13 =>
  (zpR q_13.2.1 a0 11 5 q_13.1).bind fun S_14 =>
  (zmkA S_14 q_13.2.2 12 900 900).bind fun q_15 =>
  (zpR q_15.2.1 a0 11 6 q_15.1).bind fun S_16 =>
  (zmkA S_16 q_15.2.2 12 16 16).bind fun q_17 =>
  (zpR q_17.2.1 a0 11 7 q_17.1).bind fun S_18 =>
  (zmkA S_18 q_17.2.2 12 800 800).bind fun q_19 =>
  (zpR q_19.2.1 a0 11 9 q_19.1).bind fun S_20 =>
  (zmkA S_20 q_19.2.2 12 16 16).bind fun q_21 =>
  (zpR q_21.2.1 a0 11 10 q_21.1).bind fun S_22 =>
  (zmkA S_22 q_21.2.2 12 400 400).bind fun q_23 =>
  (zpR q_23.2.1 a0 11 12 q_23.1).bind fun S_24 =>
  (zpI S_24 q_23.2.2 a0 11 18 (-1)).bind fun m_25 =>
  (zmkA S_24 m_25 12 96 96).bind fun q_26 =>
  (zpR q_26.2.1 a0 11 22 q_26.1).bind fun S_27 =>
  (zmkA S_27 q_26.2.2 12 400 400).bind fun q_28 =>
  (zpR q_28.2.1 a0 11 24 q_28.1).bind fun S_29 =>
  (zmkA S_29 q_28.2.2 12 400 400).bind fun q_30 =>
  (zpR q_30.2.1 a0 11 25 q_30.1).bind fun S_31 =>
  (zmkA S_31 q_30.2.2 12 400 400).bind fun q_32 =>
  (zpR q_32.2.1 a0 11 27 q_32.1).bind fun S_33 =>
  (zmkA S_33 q_32.2.2 12 400 400).bind fun q_34 =>
  (zpR q_34.2.1 a0 11 28 q_34.1).bind fun S_35 =>
  (zmkA S_35 q_34.2.2 15 9 9).bind fun q_36 =>
  (zstJ q_36.2.1 q_36.2.2 q_36.1 0 599495).bind fun m_37 =>
  (zstJ q_36.2.1 m_37 q_36.1 1 277893).bind fun m_38 =>
  (zstJ q_36.2.1 m_38 q_36.1 2 81477).bind fun m_39 =>
  (zstJ q_36.2.1 m_39 q_36.1 3 6591876).bind fun m_40 =>
  (zstJ q_36.2.1 m_40 q_36.1 4 89238708).bind fun m_41 =>
  (zstJ q_36.2.1 m_41 q_36.1 5 12769452).bind fun m_42 =>
  (zstJ q_36.2.1 m_42 q_36.1 6 278194).bind fun m_43 =>
  (zstJ q_36.2.1 m_43 q_36.1 7 23732).bind fun m_44 =>
  (zstJ q_36.2.1 m_44 q_36.1 8 441828).bind fun m_45 =>
  (zpR q_36.2.1 a0 11 31 q_36.1).bind fun S_46 =>
  (zmkA S_46 m_45 15 7 7).bind fun q_47 =>
  (zstJ q_47.2.1 q_47.2.2 q_47.1 0 278194).bind fun m_48 =>
  (zstJ q_47.2.1 m_48 q_47.1 1 146885).bind fun m_49 =>
  (zstJ q_47.2.1 m_49 q_47.1 2 404362868).bind fun m_50 =>
  (zstJ q_47.2.1 m_50 q_47.1 3 102407444).bind fun m_51 =>
  (zstJ q_47.2.1 m_51 q_47.1 4 677454).bind fun m_52 =>
  (zstJ q_47.2.1 m_52 q_47.1 5 12769452).bind fun m_53 =>
  (zstJ q_47.2.1 m_53 q_47.1 6 209399).bind fun m_54 =>
  (zpR q_47.2.1 a0 11 32 q_47.1).bind fun S_55 =>
  (zmkA S_55 m_54 15 4 4).bind fun q_56 =>
  (zstJ q_56.2.1 q_56.2.2 q_56.1 0 611795).bind fun m_57 =>
  (zstJ q_56.2.1 m_57 q_56.1 1 12748147).bind fun m_58 =>
  (zstJ q_56.2.1 m_58 q_56.1 2 526131).bind fun m_59 =>
  (zstJ q_56.2.1 m_59 q_56.1 3 67155).bind fun m_60 =>
  (zpR q_56.2.1 a0 11 33 q_56.1).bind fun S_61 =>
  (zmkA S_61 m_60 15 13 13).bind fun q_62 =>
  (zpR q_62.2.1 a0 11 35 q_62.1).bind fun S_63 =>
  (zmkA S_63 q_62.2.2 15 13 13).bind fun q_64 =>
  (zpR q_64.2.1 a0 11 36 q_64.1).bind fun S_65 =>
  (zmkA S_65 q_64.2.2 15 400 400).bind fun q_66 =>
  (zpR q_66.2.1 a0 11 37 q_66.1).bind fun S_67 =>
  (zmkA S_67 q_66.2.2 12 8 8).bind fun q_68 =>
  (zpR q_68.2.1 a0 11 41 q_68.1).bind fun S_69 =>
  (zmkA S_69 q_68.2.2 12 24 24).bind fun q_70 =>
  (zpR q_70.2.1 a0 11 42 q_70.1).bind fun S_71 =>
  (zmkA S_71 q_70.2.2 12 4 4).bind fun q_72 =>
  (zpR q_72.2.1 a0 11 43 q_72.1).bind fun S_73 =>
  (zmkA S_73 q_72.2.2 12 3 3).bind fun q_74 =>
  (zpR q_74.2.1 a0 11 44 q_74.1).bind fun S_75 =>
  (zmkA S_75 q_74.2.2 12 256 256).bind fun q_76 =>
  (zpR q_76.2.1 a0 11 45 q_76.1).bind fun S_77 =>
  (zmkA S_77 q_76.2.2 12 401 401).bind fun q_78 =>
  (zpR q_78.2.1 a0 11 46 q_78.1).bind fun S_79 =>
  (zmkA S_79 q_78.2.2 15 21 21).bind fun q_80 =>
  (zpR q_80.2.1 a0 11 47 q_80.1).bind fun S_81 =>
  (zmkA S_81 q_80.2.2 15 4 4).bind fun q_82 =>
  (zstJ q_82.2.1 q_82.2.2 q_82.1 0 2505835).bind fun m_83 =>
  (zstJ q_82.2.1 m_83 q_82.1 1 594989).bind fun m_84 =>
  (zstJ q_82.2.1 m_84 q_82.1 2 19636).bind fun m_85 =>
  (zstJ q_82.2.1 m_85 q_82.1 3 525939).bind fun m_86 =>
  (zpR q_82.2.1 a0 11 48 q_82.1).bind fun S_87 =>
  (zmkA S_87 m_86 12 96 96).bind fun q_88 =>
  (zpR q_88.2.1 a0 11 49 q_88.1).bind fun S_89 =>
  (zpI S_89 q_88.2.2 a0 11 52 (-1)).bind fun m_90 =>
  (zmkA S_89 m_90 12 11 11).bind fun q_91 =>
  (zpR q_91.2.1 a0 11 55 q_91.1).bind fun S_92 =>
  (zpI S_92 q_91.2.2 a0 11 56 (-1)).bind fun m_93 =>
  (zgR S_92 a0 11 3).bind fun b_94 =>
  (zstI S_92 m_93 b_94 3 (-1)).bind fun m_95 =>
  (zstI S_92 m_95 b_94 5 3).bind fun m_96 =>
  (zstI S_92 m_96 b_94 7 1).bind fun m_97 =>
  F_Mo_init_b438 n E (a0, 0, S_92, m_97)
theorem K_Mo_init_L462 (n : Nat) (E : zE) (r462 : Nat × Int32 × zS × zH → Option (zS × zH)) (a0 : Nat) (x1 : Int32) (S : zS) (M : zH) (S' : zS) (M' : zH) (hr462 : ∀ (a0 : Nat) (x1 : Int32) (S : zS) (M : zH), r462 (a0, x1, S, M) = some (S', M') → zG E Y_Mo_init (none, S', M') 462 [(0, .ref a0), (1, .int x1)] [] S M 30 21551) (h : F_Mo_init_L462 n E r462 a0 x1 S M = some (S', M')) : zG E Y_Mo_init (none, S', M') 462 [(0, .ref a0), (1, .int x1)] [] S M 30 21551 := by
  unfold F_Mo_init_L462 at h
  refine zi_iload_n 1 d_Mo_init_462 rfl ?_
  refine zi_bipush 8 d_Mo_init_463 rfl ?_
  refine zi_icmp_ge (tgt := 484) d_Mo_init_465 rfl (fun c_1 => ?_) (fun c_1 => ?_)
  · rw [if_pos c_1] at h
    cases h
    exact zo_ret d_Mo_init_484 (Nat.le_of_ble_eq_true rfl) (Nat.le_of_ble_eq_true rfl) rfl
  · rw [if_neg c_1] at h
    refine zi_aload_n 0 d_Mo_init_468 rfl ?_
    obtain ⟨b_2, eb_2, h⟩ := zbind h
    refine zo_getR 472 zkd_11 3 d_Mo_init_469 eb_2 rfl tw_1234 rfl ?_
    refine zi_bipush 57 d_Mo_init_472 rfl ?_
    refine zi_iload_n 1 d_Mo_init_474 rfl ?_
    refine zi_iadd d_Mo_init_475 ?_
    refine zi_iconst (-1) d_Mo_init_476 rfl ?_
    obtain ⟨m_3, em_3, h⟩ := zbind h
    refine zo_iast 478 d_Mo_init_477 em_3 rfl ?_
    refine zi_iinc 1 (x1 + 1) [(1, .int (x1 + 1)), (0, .ref a0)] d_Mo_init_478 rfl rfl (by decide) rfl ?_
    refine zi_goto (tgt := 462) d_Mo_init_481 rfl ?_
    refine zi_lo [(0, .ref a0), (1, .int (x1 + 1))] [1, 0] rfl ?_
    exact hr462 a0 (x1 + 1) S m_3 h
theorem K_Mo_init_b462 (n : Nat) (E : zE) (a0 : Nat) (x1 : Int32) (S : zS) (M : zH) (S' : zS) (M' : zH)  (h : F_Mo_init_b462 n E (a0, x1, S, M) = some (S', M')) : zG E Y_Mo_init (none, S', M') 462 [(0, .ref a0), (1, .int x1)] [] S M 30 21551 := by
  have key : ∀ (k : Nat) (a0 : Nat) (x1 : Int32) (S : zS) (M : zH), zfix (fun r462 s => F_Mo_init_L462 n E r462 s.1 s.2.1 s.2.2.1 s.2.2.2) k (a0, x1, S, M) = some (S', M') → zG E Y_Mo_init (none, S', M') 462 [(0, .ref a0), (1, .int x1)] [] S M 30 21551 := by
    intro k
    induction k with
    | zero => intro a0 x1 S M h; cases h
    | succ k ih => intro a0 x1 S M h; exact K_Mo_init_L462 n E _ a0 x1 S M S' M'  (fun a0 x1 S M h => ih a0 x1 S M h) h
  exact key n a0 x1 S M h
theorem K_Mo_init_L438 (n : Nat) (E : zE) (r438 : Nat × Int32 × zS × zH → Option (zS × zH)) (a0 : Nat) (x1 : Int32) (S : zS) (M : zH) (S' : zS) (M' : zH) (hr438 : ∀ (a0 : Nat) (x1 : Int32) (S : zS) (M : zH), r438 (a0, x1, S, M) = some (S', M') → zG E Y_Mo_init (none, S', M') 438 [(0, .ref a0), (1, .int x1)] [] S M 30 21551) (h : F_Mo_init_L438 n E r438 a0 x1 S M = some (S', M')) : zG E Y_Mo_init (none, S', M') 438 [(0, .ref a0), (1, .int x1)] [] S M 30 21551 := by
  unfold F_Mo_init_L438 at h
  refine zi_iload_n 1 d_Mo_init_438 rfl ?_
  refine zi_bipush 32 d_Mo_init_439 rfl ?_
  refine zi_icmp_ge (tgt := 460) d_Mo_init_441 rfl (fun c_4 => ?_) (fun c_4 => ?_)
  · rw [if_pos c_4] at h
    refine zi_iconst 0 d_Mo_init_460 rfl ?_
    refine zi_istore_n [(1, .int 0), (0, .ref a0)] d_Mo_init_461 (by decide) rfl ?_
    refine zi_lo [(0, .ref a0), (1, .int 0)] [1, 0] rfl ?_
    exact K_Mo_init_b462 n E a0 0 S M S' M'  h
  · rw [if_neg c_4] at h
    refine zi_aload_n 0 d_Mo_init_444 rfl ?_
    obtain ⟨b_5, eb_5, h⟩ := zbind h
    refine zo_getR 448 zkd_11 3 d_Mo_init_445 eb_5 rfl tw_1234 rfl ?_
    refine zi_bipush 12 d_Mo_init_448 rfl ?_
    refine zi_iload_n 1 d_Mo_init_450 rfl ?_
    refine zi_iadd d_Mo_init_451 ?_
    refine zi_iconst 1 d_Mo_init_452 rfl ?_
    obtain ⟨m_6, em_6, h⟩ := zbind h
    refine zo_iast 454 d_Mo_init_453 em_6 rfl ?_
    refine zi_iinc 1 (x1 + 1) [(1, .int (x1 + 1)), (0, .ref a0)] d_Mo_init_454 rfl rfl (by decide) rfl ?_
    refine zi_goto (tgt := 438) d_Mo_init_457 rfl ?_
    refine zi_lo [(0, .ref a0), (1, .int (x1 + 1))] [1, 0] rfl ?_
    exact hr438 a0 (x1 + 1) S m_6 h
theorem K_Mo_init_b438 (n : Nat) (E : zE) (a0 : Nat) (x1 : Int32) (S : zS) (M : zH) (S' : zS) (M' : zH)  (h : F_Mo_init_b438 n E (a0, x1, S, M) = some (S', M')) : zG E Y_Mo_init (none, S', M') 438 [(0, .ref a0), (1, .int x1)] [] S M 30 21551 := by
  have key : ∀ (k : Nat) (a0 : Nat) (x1 : Int32) (S : zS) (M : zH), zfix (fun r438 s => F_Mo_init_L438 n E r438 s.1 s.2.1 s.2.2.1 s.2.2.2) k (a0, x1, S, M) = some (S', M') → zG E Y_Mo_init (none, S', M') 438 [(0, .ref a0), (1, .int x1)] [] S M 30 21551 := by
    intro k
    induction k with
    | zero => intro a0 x1 S M h; cases h
    | succ k ih => intro a0 x1 S M h; exact K_Mo_init_L438 n E _ a0 x1 S M S' M'  (fun a0 x1 S M h => ih a0 x1 S M h) h
  exact key n a0 x1 S M h
theorem K_Mo_init (n : Nat) (E : zE) (a0 : Nat) (S : zS) (M : zH) (S' : zS) (M' : zH)  (h : F_Mo_init n E a0 S M = some (S', M')) : zG E Y_Mo_init (none, S', M') 0 [(0, .ref a0)] [] S M 0 0 := by
  unfold F_Mo_init at h
  refine zi_aload_n 0 d_Mo_init_0 rfl ?_
  refine zi_objInit d_Mo_init_1 tw_1208 tw_28 zobj (by decide) (Nat.le_of_ble_eq_true rfl) ?_
  refine zi_aload_n 0 d_Mo_init_4 rfl ?_
  refine zi_bipush 7 d_Mo_init_5 rfl ?_
  obtain ⟨q_7, eq_7, h⟩ := zbind h
  refine zo_newarr (pos := 0) 9 d_Mo_init_7 eq_7 (by decide) rfl rfl (by decide) tw_129 (Nat.le_of_ble_eq_true rfl) (Nat.le_of_ble_eq_true rfl) rfl rfl rfl ?_
  obtain ⟨S_8, eS_8, h⟩ := zbind h
  refine zo_putR 12 zkd_11 2 d_Mo_init_9 eS_8 rfl rfl rfl rfl ⟨rfl, rfl⟩ tw_1233 rfl ?_
  refine zi_aload_n 0 d_Mo_init_12 rfl ?_
  refine zi_sipush 5480 d_Mo_init_13 rfl ?_
  obtain ⟨q_9, eq_9, h⟩ := zbind h
  refine zo_newarr (pos := 0) 18 d_Mo_init_16 eq_9 (by decide) rfl rfl (by decide) tw_129 (Nat.le_of_ble_eq_true rfl) (Nat.le_of_ble_eq_true rfl) rfl rfl rfl ?_
  obtain ⟨S_10, eS_10, h⟩ := zbind h
  refine zo_putR 21 zkd_11 3 d_Mo_init_18 eS_10 rfl rfl rfl rfl ⟨rfl, rfl⟩ tw_1234 rfl ?_
  refine zi_aload_n 0 d_Mo_init_21 rfl ?_
  refine zi_sipush 10960 d_Mo_init_22 rfl ?_
  obtain ⟨q_11, eq_11, h⟩ := zbind h
  refine zo_newarr (pos := 0) 27 d_Mo_init_25 eq_11 (by decide) rfl rfl (by decide) tw_129 (Nat.le_of_ble_eq_true rfl) (Nat.le_of_ble_eq_true rfl) rfl rfl rfl ?_
  obtain ⟨S_12, eS_12, h⟩ := zbind h
  refine zo_putR 30 zkd_11 4 d_Mo_init_27 eS_12 rfl rfl rfl rfl ⟨rfl, rfl⟩ tw_1235 rfl ?_
  refine zi_aload_n 0 d_Mo_init_30 rfl ?_
  refine zi_iconst 2 d_Mo_init_31 rfl ?_
  obtain ⟨q_13, eq_13, h⟩ := zbind h
  refine zo_newarr (pos := 1) 34 d_Mo_init_32 eq_13 (by decide) rfl rfl (by decide) tw_130 (Nat.le_of_ble_eq_true rfl) (Nat.le_of_ble_eq_true rfl) rfl rfl rfl ?_
  obtain ⟨S_14, eS_14, h⟩ := zbind h
  refine zo_putR 37 zkd_11 5 d_Mo_init_34 eS_14 rfl rfl rfl rfl ⟨rfl, rfl⟩ tw_1236 rfl ?_
  refine zi_aload_n 0 d_Mo_init_37 rfl ?_
  refine zi_sipush 900 d_Mo_init_38 rfl ?_
  obtain ⟨q_15, eq_15, h⟩ := zbind h
  refine zo_newarr (pos := 0) 43 d_Mo_init_41 eq_15 (by decide) rfl rfl (by decide) tw_129 (Nat.le_of_ble_eq_true rfl) (Nat.le_of_ble_eq_true rfl) rfl rfl rfl ?_
  obtain ⟨S_16, eS_16, h⟩ := zbind h
  refine zo_putR 46 zkd_11 6 d_Mo_init_43 eS_16 rfl rfl rfl rfl ⟨rfl, rfl⟩ tw_1237 rfl ?_
  refine zi_aload_n 0 d_Mo_init_46 rfl ?_
  refine zi_bipush 16 d_Mo_init_47 rfl ?_
  obtain ⟨q_17, eq_17, h⟩ := zbind h
  refine zo_newarr (pos := 0) 51 d_Mo_init_49 eq_17 (by decide) rfl rfl (by decide) tw_129 (Nat.le_of_ble_eq_true rfl) (Nat.le_of_ble_eq_true rfl) rfl rfl rfl ?_
  obtain ⟨S_18, eS_18, h⟩ := zbind h
  refine zo_putR 54 zkd_11 7 d_Mo_init_51 eS_18 rfl rfl rfl rfl ⟨rfl, rfl⟩ tw_1238 rfl ?_
  refine zi_aload_n 0 d_Mo_init_54 rfl ?_
  refine zi_sipush 800 d_Mo_init_55 rfl ?_
  obtain ⟨q_19, eq_19, h⟩ := zbind h
  refine zo_newarr (pos := 0) 60 d_Mo_init_58 eq_19 (by decide) rfl rfl (by decide) tw_129 (Nat.le_of_ble_eq_true rfl) (Nat.le_of_ble_eq_true rfl) rfl rfl rfl ?_
  obtain ⟨S_20, eS_20, h⟩ := zbind h
  refine zo_putR 63 zkd_11 9 d_Mo_init_60 eS_20 rfl rfl rfl rfl ⟨rfl, rfl⟩ tw_1240 rfl ?_
  refine zi_aload_n 0 d_Mo_init_63 rfl ?_
  refine zi_bipush 16 d_Mo_init_64 rfl ?_
  obtain ⟨q_21, eq_21, h⟩ := zbind h
  refine zo_newarr (pos := 0) 68 d_Mo_init_66 eq_21 (by decide) rfl rfl (by decide) tw_129 (Nat.le_of_ble_eq_true rfl) (Nat.le_of_ble_eq_true rfl) rfl rfl rfl ?_
  obtain ⟨S_22, eS_22, h⟩ := zbind h
  refine zo_putR 71 zkd_11 10 d_Mo_init_68 eS_22 rfl rfl rfl rfl ⟨rfl, rfl⟩ tw_1241 rfl ?_
  refine zi_aload_n 0 d_Mo_init_71 rfl ?_
  refine zi_sipush 400 d_Mo_init_72 rfl ?_
  obtain ⟨q_23, eq_23, h⟩ := zbind h
  refine zo_newarr (pos := 0) 77 d_Mo_init_75 eq_23 (by decide) rfl rfl (by decide) tw_129 (Nat.le_of_ble_eq_true rfl) (Nat.le_of_ble_eq_true rfl) rfl rfl rfl ?_
  obtain ⟨S_24, eS_24, h⟩ := zbind h
  refine zo_putR 80 zkd_11 12 d_Mo_init_77 eS_24 rfl rfl rfl rfl ⟨rfl, rfl⟩ tw_1243 rfl ?_
  refine zi_aload_n 0 d_Mo_init_80 rfl ?_
  refine zi_iconst (-1) d_Mo_init_81 rfl ?_
  obtain ⟨m_25, em_25, h⟩ := zbind h
  refine zo_putI 85 zkd_11 18 d_Mo_init_82 em_25 rfl rfl rfl tw_1249 rfl ?_
  refine zi_aload_n 0 d_Mo_init_85 rfl ?_
  refine zi_bipush 96 d_Mo_init_86 rfl ?_
  obtain ⟨q_26, eq_26, h⟩ := zbind h
  refine zo_newarr (pos := 0) 90 d_Mo_init_88 eq_26 (by decide) rfl rfl (by decide) tw_129 (Nat.le_of_ble_eq_true rfl) (Nat.le_of_ble_eq_true rfl) rfl rfl rfl ?_
  obtain ⟨S_27, eS_27, h⟩ := zbind h
  refine zo_putR 93 zkd_11 22 d_Mo_init_90 eS_27 rfl rfl rfl rfl ⟨rfl, rfl⟩ tw_1253 rfl ?_
  refine zi_aload_n 0 d_Mo_init_93 rfl ?_
  refine zi_sipush 400 d_Mo_init_94 rfl ?_
  obtain ⟨q_28, eq_28, h⟩ := zbind h
  refine zo_newarr (pos := 0) 99 d_Mo_init_97 eq_28 (by decide) rfl rfl (by decide) tw_129 (Nat.le_of_ble_eq_true rfl) (Nat.le_of_ble_eq_true rfl) rfl rfl rfl ?_
  obtain ⟨S_29, eS_29, h⟩ := zbind h
  refine zo_putR 102 zkd_11 24 d_Mo_init_99 eS_29 rfl rfl rfl rfl ⟨rfl, rfl⟩ tw_1255 rfl ?_
  refine zi_aload_n 0 d_Mo_init_102 rfl ?_
  refine zi_sipush 400 d_Mo_init_103 rfl ?_
  obtain ⟨q_30, eq_30, h⟩ := zbind h
  refine zo_newarr (pos := 0) 108 d_Mo_init_106 eq_30 (by decide) rfl rfl (by decide) tw_129 (Nat.le_of_ble_eq_true rfl) (Nat.le_of_ble_eq_true rfl) rfl rfl rfl ?_
  obtain ⟨S_31, eS_31, h⟩ := zbind h
  refine zo_putR 111 zkd_11 25 d_Mo_init_108 eS_31 rfl rfl rfl rfl ⟨rfl, rfl⟩ tw_1256 rfl ?_
  refine zi_aload_n 0 d_Mo_init_111 rfl ?_
  refine zi_sipush 400 d_Mo_init_112 rfl ?_
  obtain ⟨q_32, eq_32, h⟩ := zbind h
  refine zo_newarr (pos := 0) 117 d_Mo_init_115 eq_32 (by decide) rfl rfl (by decide) tw_129 (Nat.le_of_ble_eq_true rfl) (Nat.le_of_ble_eq_true rfl) rfl rfl rfl ?_
  obtain ⟨S_33, eS_33, h⟩ := zbind h
  refine zo_putR 120 zkd_11 27 d_Mo_init_117 eS_33 rfl rfl rfl rfl ⟨rfl, rfl⟩ tw_1258 rfl ?_
  refine zi_aload_n 0 d_Mo_init_120 rfl ?_
  refine zi_sipush 400 d_Mo_init_121 rfl ?_
  obtain ⟨q_34, eq_34, h⟩ := zbind h
  refine zo_newarr (pos := 0) 126 d_Mo_init_124 eq_34 (by decide) rfl rfl (by decide) tw_129 (Nat.le_of_ble_eq_true rfl) (Nat.le_of_ble_eq_true rfl) rfl rfl rfl ?_
  obtain ⟨S_35, eS_35, h⟩ := zbind h
  refine zo_putR 129 zkd_11 28 d_Mo_init_126 eS_35 rfl rfl rfl rfl ⟨rfl, rfl⟩ tw_1259 rfl ?_
  refine zi_aload_n 0 d_Mo_init_129 rfl ?_
  refine zi_bipush 9 d_Mo_init_130 rfl ?_
  obtain ⟨q_36, eq_36, h⟩ := zbind h
  refine zo_newarr (pos := 3) 134 d_Mo_init_132 eq_36 (by decide) rfl rfl (by decide) tw_331 (Nat.le_of_ble_eq_true rfl) (Nat.le_of_ble_eq_true rfl) rfl rfl rfl ?_
  refine zi_dup d_Mo_init_134 rfl ?_
  refine zi_iconst 0 d_Mo_init_135 rfl ?_
  refine zi_ldc2 d_Mo_init_136 tw_1209 ?_
  obtain ⟨m_37, em_37, h⟩ := zbind h
  refine zo_last 140 d_Mo_init_139 em_37 rfl ?_
  refine zi_dup d_Mo_init_140 rfl ?_
  refine zi_iconst 1 d_Mo_init_141 rfl ?_
  refine zi_ldc2 d_Mo_init_142 tw_1210 ?_
  obtain ⟨m_38, em_38, h⟩ := zbind h
  refine zo_last 146 d_Mo_init_145 em_38 rfl ?_
  refine zi_dup d_Mo_init_146 rfl ?_
  refine zi_iconst 2 d_Mo_init_147 rfl ?_
  refine zi_ldc2 d_Mo_init_148 tw_1211 ?_
  obtain ⟨m_39, em_39, h⟩ := zbind h
  refine zo_last 152 d_Mo_init_151 em_39 rfl ?_
  refine zi_dup d_Mo_init_152 rfl ?_
  refine zi_iconst 3 d_Mo_init_153 rfl ?_
  refine zi_ldc2 d_Mo_init_154 tw_1212 ?_
  obtain ⟨m_40, em_40, h⟩ := zbind h
  refine zo_last 158 d_Mo_init_157 em_40 rfl ?_
  refine zi_dup d_Mo_init_158 rfl ?_
  refine zi_iconst 4 d_Mo_init_159 rfl ?_
  refine zi_ldc2 d_Mo_init_160 tw_1213 ?_
  obtain ⟨m_41, em_41, h⟩ := zbind h
  refine zo_last 164 d_Mo_init_163 em_41 rfl ?_
  refine zi_dup d_Mo_init_164 rfl ?_
  refine zi_iconst 5 d_Mo_init_165 rfl ?_
  refine zi_ldc2 d_Mo_init_166 tw_1214 ?_
  obtain ⟨m_42, em_42, h⟩ := zbind h
  refine zo_last 170 d_Mo_init_169 em_42 rfl ?_
  refine zi_dup d_Mo_init_170 rfl ?_
  refine zi_bipush 6 d_Mo_init_171 rfl ?_
  refine zi_ldc2 d_Mo_init_173 tw_1215 ?_
  obtain ⟨m_43, em_43, h⟩ := zbind h
  refine zo_last 177 d_Mo_init_176 em_43 rfl ?_
  refine zi_dup d_Mo_init_177 rfl ?_
  refine zi_bipush 7 d_Mo_init_178 rfl ?_
  refine zi_ldc2 d_Mo_init_180 tw_1216 ?_
  obtain ⟨m_44, em_44, h⟩ := zbind h
  refine zo_last 184 d_Mo_init_183 em_44 rfl ?_
  refine zi_dup d_Mo_init_184 rfl ?_
  refine zi_bipush 8 d_Mo_init_185 rfl ?_
  refine zi_ldc2 d_Mo_init_187 tw_1217 ?_
  obtain ⟨m_45, em_45, h⟩ := zbind h
  refine zo_last 191 d_Mo_init_190 em_45 rfl ?_
  obtain ⟨S_46, eS_46, h⟩ := zbind h
  refine zo_putR 194 zkd_11 31 d_Mo_init_191 eS_46 rfl rfl rfl rfl ⟨rfl, rfl⟩ tw_1262 rfl ?_
  refine zi_aload_n 0 d_Mo_init_194 rfl ?_
  refine zi_bipush 7 d_Mo_init_195 rfl ?_
  obtain ⟨q_47, eq_47, h⟩ := zbind h
  refine zo_newarr (pos := 3) 199 d_Mo_init_197 eq_47 (by decide) rfl rfl (by decide) tw_331 (Nat.le_of_ble_eq_true rfl) (Nat.le_of_ble_eq_true rfl) rfl rfl rfl ?_
  refine zi_dup d_Mo_init_199 rfl ?_
  refine zi_iconst 0 d_Mo_init_200 rfl ?_
  refine zi_ldc2 d_Mo_init_201 tw_1215 ?_
  obtain ⟨m_48, em_48, h⟩ := zbind h
  refine zo_last 205 d_Mo_init_204 em_48 rfl ?_
  refine zi_dup d_Mo_init_205 rfl ?_
  refine zi_iconst 1 d_Mo_init_206 rfl ?_
  refine zi_ldc2 d_Mo_init_207 tw_1218 ?_
  obtain ⟨m_49, em_49, h⟩ := zbind h
  refine zo_last 211 d_Mo_init_210 em_49 rfl ?_
  refine zi_dup d_Mo_init_211 rfl ?_
  refine zi_iconst 2 d_Mo_init_212 rfl ?_
  refine zi_ldc2 d_Mo_init_213 tw_1219 ?_
  obtain ⟨m_50, em_50, h⟩ := zbind h
  refine zo_last 217 d_Mo_init_216 em_50 rfl ?_
  refine zi_dup d_Mo_init_217 rfl ?_
  refine zi_iconst 3 d_Mo_init_218 rfl ?_
  refine zi_ldc2 d_Mo_init_219 tw_1220 ?_
  obtain ⟨m_51, em_51, h⟩ := zbind h
  refine zo_last 223 d_Mo_init_222 em_51 rfl ?_
  refine zi_dup d_Mo_init_223 rfl ?_
  refine zi_iconst 4 d_Mo_init_224 rfl ?_
  refine zi_ldc2 d_Mo_init_225 tw_1221 ?_
  obtain ⟨m_52, em_52, h⟩ := zbind h
  refine zo_last 229 d_Mo_init_228 em_52 rfl ?_
  refine zi_dup d_Mo_init_229 rfl ?_
  refine zi_iconst 5 d_Mo_init_230 rfl ?_
  refine zi_ldc2 d_Mo_init_231 tw_1214 ?_
  obtain ⟨m_53, em_53, h⟩ := zbind h
  refine zo_last 235 d_Mo_init_234 em_53 rfl ?_
  refine zi_dup d_Mo_init_235 rfl ?_
  refine zi_bipush 6 d_Mo_init_236 rfl ?_
  refine zi_ldc2 d_Mo_init_238 tw_1222 ?_
  obtain ⟨m_54, em_54, h⟩ := zbind h
  refine zo_last 242 d_Mo_init_241 em_54 rfl ?_
  obtain ⟨S_55, eS_55, h⟩ := zbind h
  refine zo_putR 245 zkd_11 32 d_Mo_init_242 eS_55 rfl rfl rfl rfl ⟨rfl, rfl⟩ tw_1263 rfl ?_
  refine zi_aload_n 0 d_Mo_init_245 rfl ?_
  refine zi_iconst 4 d_Mo_init_246 rfl ?_
  obtain ⟨q_56, eq_56, h⟩ := zbind h
  refine zo_newarr (pos := 3) 249 d_Mo_init_247 eq_56 (by decide) rfl rfl (by decide) tw_331 (Nat.le_of_ble_eq_true rfl) (Nat.le_of_ble_eq_true rfl) rfl rfl rfl ?_
  refine zi_dup d_Mo_init_249 rfl ?_
  refine zi_iconst 0 d_Mo_init_250 rfl ?_
  refine zi_ldc2 d_Mo_init_251 tw_1223 ?_
  obtain ⟨m_57, em_57, h⟩ := zbind h
  refine zo_last 255 d_Mo_init_254 em_57 rfl ?_
  refine zi_dup d_Mo_init_255 rfl ?_
  refine zi_iconst 1 d_Mo_init_256 rfl ?_
  refine zi_ldc2 d_Mo_init_257 tw_1224 ?_
  obtain ⟨m_58, em_58, h⟩ := zbind h
  refine zo_last 261 d_Mo_init_260 em_58 rfl ?_
  refine zi_dup d_Mo_init_261 rfl ?_
  refine zi_iconst 2 d_Mo_init_262 rfl ?_
  refine zi_ldc2 d_Mo_init_263 tw_1225 ?_
  obtain ⟨m_59, em_59, h⟩ := zbind h
  refine zo_last 267 d_Mo_init_266 em_59 rfl ?_
  refine zi_dup d_Mo_init_267 rfl ?_
  refine zi_iconst 3 d_Mo_init_268 rfl ?_
  refine zi_ldc2 d_Mo_init_269 tw_1226 ?_
  obtain ⟨m_60, em_60, h⟩ := zbind h
  refine zo_last 273 d_Mo_init_272 em_60 rfl ?_
  obtain ⟨S_61, eS_61, h⟩ := zbind h
  refine zo_putR 276 zkd_11 33 d_Mo_init_273 eS_61 rfl rfl rfl rfl ⟨rfl, rfl⟩ tw_1264 rfl ?_
  refine zi_aload_n 0 d_Mo_init_276 rfl ?_
  refine zi_bipush 13 d_Mo_init_277 rfl ?_
  obtain ⟨q_62, eq_62, h⟩ := zbind h
  refine zo_newarr (pos := 3) 281 d_Mo_init_279 eq_62 (by decide) rfl rfl (by decide) tw_331 (Nat.le_of_ble_eq_true rfl) (Nat.le_of_ble_eq_true rfl) rfl rfl rfl ?_
  obtain ⟨S_63, eS_63, h⟩ := zbind h
  refine zo_putR 284 zkd_11 35 d_Mo_init_281 eS_63 rfl rfl rfl rfl ⟨rfl, rfl⟩ tw_1266 rfl ?_
  refine zi_aload_n 0 d_Mo_init_284 rfl ?_
  refine zi_bipush 13 d_Mo_init_285 rfl ?_
  obtain ⟨q_64, eq_64, h⟩ := zbind h
  refine zo_newarr (pos := 3) 289 d_Mo_init_287 eq_64 (by decide) rfl rfl (by decide) tw_331 (Nat.le_of_ble_eq_true rfl) (Nat.le_of_ble_eq_true rfl) rfl rfl rfl ?_
  obtain ⟨S_65, eS_65, h⟩ := zbind h
  refine zo_putR 292 zkd_11 36 d_Mo_init_289 eS_65 rfl rfl rfl rfl ⟨rfl, rfl⟩ tw_1267 rfl ?_
  refine zi_aload_n 0 d_Mo_init_292 rfl ?_
  refine zi_sipush 400 d_Mo_init_293 rfl ?_
  obtain ⟨q_66, eq_66, h⟩ := zbind h
  refine zo_newarr (pos := 3) 298 d_Mo_init_296 eq_66 (by decide) rfl rfl (by decide) tw_331 (Nat.le_of_ble_eq_true rfl) (Nat.le_of_ble_eq_true rfl) rfl rfl rfl ?_
  obtain ⟨S_67, eS_67, h⟩ := zbind h
  refine zo_putR 301 zkd_11 37 d_Mo_init_298 eS_67 rfl rfl rfl rfl ⟨rfl, rfl⟩ tw_1268 rfl ?_
  refine zi_aload_n 0 d_Mo_init_301 rfl ?_
  refine zi_bipush 8 d_Mo_init_302 rfl ?_
  obtain ⟨q_68, eq_68, h⟩ := zbind h
  refine zo_newarr (pos := 0) 306 d_Mo_init_304 eq_68 (by decide) rfl rfl (by decide) tw_129 (Nat.le_of_ble_eq_true rfl) (Nat.le_of_ble_eq_true rfl) rfl rfl rfl ?_
  obtain ⟨S_69, eS_69, h⟩ := zbind h
  refine zo_putR 309 zkd_11 41 d_Mo_init_306 eS_69 rfl rfl rfl rfl ⟨rfl, rfl⟩ tw_1272 rfl ?_
  refine zi_aload_n 0 d_Mo_init_309 rfl ?_
  refine zi_bipush 24 d_Mo_init_310 rfl ?_
  obtain ⟨q_70, eq_70, h⟩ := zbind h
  refine zo_newarr (pos := 0) 314 d_Mo_init_312 eq_70 (by decide) rfl rfl (by decide) tw_129 (Nat.le_of_ble_eq_true rfl) (Nat.le_of_ble_eq_true rfl) rfl rfl rfl ?_
  obtain ⟨S_71, eS_71, h⟩ := zbind h
  refine zo_putR 317 zkd_11 42 d_Mo_init_314 eS_71 rfl rfl rfl rfl ⟨rfl, rfl⟩ tw_1273 rfl ?_
  refine zi_aload_n 0 d_Mo_init_317 rfl ?_
  refine zi_iconst 4 d_Mo_init_318 rfl ?_
  obtain ⟨q_72, eq_72, h⟩ := zbind h
  refine zo_newarr (pos := 0) 321 d_Mo_init_319 eq_72 (by decide) rfl rfl (by decide) tw_129 (Nat.le_of_ble_eq_true rfl) (Nat.le_of_ble_eq_true rfl) rfl rfl rfl ?_
  obtain ⟨S_73, eS_73, h⟩ := zbind h
  refine zo_putR 324 zkd_11 43 d_Mo_init_321 eS_73 rfl rfl rfl rfl ⟨rfl, rfl⟩ tw_1274 rfl ?_
  refine zi_aload_n 0 d_Mo_init_324 rfl ?_
  refine zi_iconst 3 d_Mo_init_325 rfl ?_
  obtain ⟨q_74, eq_74, h⟩ := zbind h
  refine zo_newarr (pos := 0) 328 d_Mo_init_326 eq_74 (by decide) rfl rfl (by decide) tw_129 (Nat.le_of_ble_eq_true rfl) (Nat.le_of_ble_eq_true rfl) rfl rfl rfl ?_
  obtain ⟨S_75, eS_75, h⟩ := zbind h
  refine zo_putR 331 zkd_11 44 d_Mo_init_328 eS_75 rfl rfl rfl rfl ⟨rfl, rfl⟩ tw_1275 rfl ?_
  refine zi_aload_n 0 d_Mo_init_331 rfl ?_
  refine zi_sipush 256 d_Mo_init_332 rfl ?_
  obtain ⟨q_76, eq_76, h⟩ := zbind h
  refine zo_newarr (pos := 0) 337 d_Mo_init_335 eq_76 (by decide) rfl rfl (by decide) tw_129 (Nat.le_of_ble_eq_true rfl) (Nat.le_of_ble_eq_true rfl) rfl rfl rfl ?_
  obtain ⟨S_77, eS_77, h⟩ := zbind h
  refine zo_putR 340 zkd_11 45 d_Mo_init_337 eS_77 rfl rfl rfl rfl ⟨rfl, rfl⟩ tw_1276 rfl ?_
  refine zi_aload_n 0 d_Mo_init_340 rfl ?_
  refine zi_sipush 401 d_Mo_init_341 rfl ?_
  obtain ⟨q_78, eq_78, h⟩ := zbind h
  refine zo_newarr (pos := 0) 346 d_Mo_init_344 eq_78 (by decide) rfl rfl (by decide) tw_129 (Nat.le_of_ble_eq_true rfl) (Nat.le_of_ble_eq_true rfl) rfl rfl rfl ?_
  obtain ⟨S_79, eS_79, h⟩ := zbind h
  refine zo_putR 349 zkd_11 46 d_Mo_init_346 eS_79 rfl rfl rfl rfl ⟨rfl, rfl⟩ tw_1277 rfl ?_
  refine zi_aload_n 0 d_Mo_init_349 rfl ?_
  refine zi_bipush 21 d_Mo_init_350 rfl ?_
  obtain ⟨q_80, eq_80, h⟩ := zbind h
  refine zo_newarr (pos := 3) 354 d_Mo_init_352 eq_80 (by decide) rfl rfl (by decide) tw_331 (Nat.le_of_ble_eq_true rfl) (Nat.le_of_ble_eq_true rfl) rfl rfl rfl ?_
  obtain ⟨S_81, eS_81, h⟩ := zbind h
  refine zo_putR 357 zkd_11 47 d_Mo_init_354 eS_81 rfl rfl rfl rfl ⟨rfl, rfl⟩ tw_1278 rfl ?_
  refine zi_aload_n 0 d_Mo_init_357 rfl ?_
  refine zi_iconst 4 d_Mo_init_358 rfl ?_
  obtain ⟨q_82, eq_82, h⟩ := zbind h
  refine zo_newarr (pos := 3) 361 d_Mo_init_359 eq_82 (by decide) rfl rfl (by decide) tw_331 (Nat.le_of_ble_eq_true rfl) (Nat.le_of_ble_eq_true rfl) rfl rfl rfl ?_
  refine zi_dup d_Mo_init_361 rfl ?_
  refine zi_iconst 0 d_Mo_init_362 rfl ?_
  refine zi_ldc2 d_Mo_init_363 tw_1227 ?_
  obtain ⟨m_83, em_83, h⟩ := zbind h
  refine zo_last 367 d_Mo_init_366 em_83 rfl ?_
  refine zi_dup d_Mo_init_367 rfl ?_
  refine zi_iconst 1 d_Mo_init_368 rfl ?_
  refine zi_ldc2 d_Mo_init_369 tw_1228 ?_
  obtain ⟨m_84, em_84, h⟩ := zbind h
  refine zo_last 373 d_Mo_init_372 em_84 rfl ?_
  refine zi_dup d_Mo_init_373 rfl ?_
  refine zi_iconst 2 d_Mo_init_374 rfl ?_
  refine zi_ldc2 d_Mo_init_375 tw_1229 ?_
  obtain ⟨m_85, em_85, h⟩ := zbind h
  refine zo_last 379 d_Mo_init_378 em_85 rfl ?_
  refine zi_dup d_Mo_init_379 rfl ?_
  refine zi_iconst 3 d_Mo_init_380 rfl ?_
  refine zi_ldc2 d_Mo_init_381 tw_1230 ?_
  obtain ⟨m_86, em_86, h⟩ := zbind h
  refine zo_last 385 d_Mo_init_384 em_86 rfl ?_
  obtain ⟨S_87, eS_87, h⟩ := zbind h
  refine zo_putR 388 zkd_11 48 d_Mo_init_385 eS_87 rfl rfl rfl rfl ⟨rfl, rfl⟩ tw_1279 rfl ?_
  refine zi_aload_n 0 d_Mo_init_388 rfl ?_
  refine zi_bipush 96 d_Mo_init_389 rfl ?_
  obtain ⟨q_88, eq_88, h⟩ := zbind h
  refine zo_newarr (pos := 0) 393 d_Mo_init_391 eq_88 (by decide) rfl rfl (by decide) tw_129 (Nat.le_of_ble_eq_true rfl) (Nat.le_of_ble_eq_true rfl) rfl rfl rfl ?_
  obtain ⟨S_89, eS_89, h⟩ := zbind h
  refine zo_putR 396 zkd_11 49 d_Mo_init_393 eS_89 rfl rfl rfl rfl ⟨rfl, rfl⟩ tw_1280 rfl ?_
  refine zi_aload_n 0 d_Mo_init_396 rfl ?_
  refine zi_iconst (-1) d_Mo_init_397 rfl ?_
  obtain ⟨m_90, em_90, h⟩ := zbind h
  refine zo_putI 401 zkd_11 52 d_Mo_init_398 em_90 rfl rfl rfl tw_1283 rfl ?_
  refine zi_aload_n 0 d_Mo_init_401 rfl ?_
  refine zi_bipush 11 d_Mo_init_402 rfl ?_
  obtain ⟨q_91, eq_91, h⟩ := zbind h
  refine zo_newarr (pos := 0) 406 d_Mo_init_404 eq_91 (by decide) rfl rfl (by decide) tw_129 (Nat.le_of_ble_eq_true rfl) (Nat.le_of_ble_eq_true rfl) rfl rfl rfl ?_
  obtain ⟨S_92, eS_92, h⟩ := zbind h
  refine zo_putR 409 zkd_11 55 d_Mo_init_406 eS_92 rfl rfl rfl rfl ⟨rfl, rfl⟩ tw_1286 rfl ?_
  refine zi_aload_n 0 d_Mo_init_409 rfl ?_
  refine zi_iconst (-1) d_Mo_init_410 rfl ?_
  obtain ⟨m_93, em_93, h⟩ := zbind h
  refine zo_putI 414 zkd_11 56 d_Mo_init_411 em_93 rfl rfl rfl tw_1287 rfl ?_
  refine zi_aload_n 0 d_Mo_init_414 rfl ?_
  obtain ⟨b_94, eb_94, h⟩ := zbind h
  refine zo_getR 418 zkd_11 3 d_Mo_init_415 eb_94 rfl tw_1234 rfl ?_
  refine zi_iconst 3 d_Mo_init_418 rfl ?_
  refine zi_iconst (-1) d_Mo_init_419 rfl ?_
  obtain ⟨m_95, em_95, h⟩ := zbind h
  refine zo_iast 421 d_Mo_init_420 em_95 rfl ?_
  refine zi_aload_n 0 d_Mo_init_421 rfl ?_
  refine zo_getR 425 zkd_11 3 d_Mo_init_422 eb_94 rfl tw_1234 rfl ?_
  refine zi_iconst 5 d_Mo_init_425 rfl ?_
  refine zi_iconst 3 d_Mo_init_426 rfl ?_
  obtain ⟨m_96, em_96, h⟩ := zbind h
  refine zo_iast 428 d_Mo_init_427 em_96 rfl ?_
  refine zi_aload_n 0 d_Mo_init_428 rfl ?_
  refine zo_getR 432 zkd_11 3 d_Mo_init_429 eb_94 rfl tw_1234 rfl ?_
  refine zi_bipush 7 d_Mo_init_432 rfl ?_
  refine zi_iconst 1 d_Mo_init_434 rfl ?_
  obtain ⟨m_97, em_97, h⟩ := zbind h
  refine zo_iast 436 d_Mo_init_435 em_97 rfl ?_
  refine zi_iconst 0 d_Mo_init_436 rfl ?_
  refine zi_istore_n [(1, .int 0), (0, .ref a0)] d_Mo_init_437 (by decide) rfl ?_
  refine zi_lo [(0, .ref a0), (1, .int 0)] [1, 0] rfl ?_
  exact K_Mo_init_b438 n E a0 0 S_92 m_97 S' M'  h
theorem C_Mo_init (n : Nat) (E : zE) (a0 : Nat) (S : zS) (M : zH) (S' : zS) (M' : zH) (h : F_Mo_init n E a0 S M = some (S', M')) : zC E Y_Mo_init [.ref a0] S M (none, S', M') :=
  zC.of (Or.inl (show plainName "NightColanderModel" = true by decide)) (Nat.le_of_ble_eq_true rfl) (trivial) (K_Mo_init n E a0 S M S' M' h)
