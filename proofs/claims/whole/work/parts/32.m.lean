/-! METHODS (printed by gen/build.py): NC_few Pa_worthBy NC_worth De_nextDraw De_runYears NC_years Ni_boresOfRing NC_drawn NC_image NC_back Ni_blockedHoles NC_count NC_status -/
theorem d_NC_few_0 : decode (yB Y_NC_few) 0 = .ok (.iload_n 1, 1) := by decide +kernel
theorem d_NC_few_1 : decode (yB Y_NC_few) 1 = .ok (.iconst 1, 1) := by decide +kernel
theorem d_NC_few_2 : decode (yB Y_NC_few) 2 = .ok (.bipush 20, 2) := by decide +kernel
theorem d_NC_few_4 : decode (yB Y_NC_few) 4 = .ok (.invokestatic 132, 3) := by decide +kernel
theorem d_NC_few_7 : decode (yB Y_NC_few) 7 = .ok (.ifCond .eq 13, 3) := by decide +kernel
theorem d_NC_few_10 : decode (yB Y_NC_few) 10 = .ok (.iload_n 2, 1) := by decide +kernel
theorem d_NC_few_11 : decode (yB Y_NC_few) 11 = .ok (.iconst 0, 1) := by decide +kernel
theorem d_NC_few_12 : decode (yB Y_NC_few) 12 = .ok (.bipush 99, 2) := by decide +kernel
theorem d_NC_few_14 : decode (yB Y_NC_few) 14 = .ok (.invokestatic 132, 3) := by decide +kernel
theorem d_NC_few_17 : decode (yB Y_NC_few) 17 = .ok (.ifCond .ne 7, 3) := by decide +kernel
theorem d_NC_few_20 : decode (yB Y_NC_few) 20 = .ok (.ldc2_w 304, 3) := by decide +kernel
theorem d_NC_few_23 : decode (yB Y_NC_few) 23 = .ok (.lreturn, 1) := by decide +kernel
theorem d_NC_few_24 : decode (yB Y_NC_few) 24 = .ok (.aload_n 0, 1) := by decide +kernel
theorem d_NC_few_25 : decode (yB Y_NC_few) 25 = .ok (.getfield 86, 3) := by decide +kernel
theorem d_NC_few_28 : decode (yB Y_NC_few) 28 = .ok (.iload_n 1, 1) := by decide +kernel
theorem d_NC_few_29 : decode (yB Y_NC_few) 29 = .ok (.iload_n 2, 1) := by decide +kernel
theorem d_NC_few_30 : decode (yB Y_NC_few) 30 = .ok (.aload_n 0, 1) := by decide +kernel
theorem d_NC_few_31 : decode (yB Y_NC_few) 31 = .ok (.getfield 12, 3) := by decide +kernel
theorem d_NC_few_34 : decode (yB Y_NC_few) 34 = .ok (.getfield 192, 3) := by decide +kernel
theorem d_NC_few_37 : decode (yB Y_NC_few) 37 = .ok (.iconst 3, 1) := by decide +kernel
theorem d_NC_few_38 : decode (yB Y_NC_few) 38 = .ok (.iaload, 1) := by decide +kernel
theorem d_NC_few_39 : decode (yB Y_NC_few) 39 = .ok (.invokevirtual 306, 3) := by decide +kernel
theorem d_NC_few_42 : decode (yB Y_NC_few) 42 = .ok (.lreturn, 1) := by decide +kernel
def F_NC_few_b20 (n : Nat) (E : zE) (S : zS)  (M : zH) : Option (Int64 × zH) :=
  some ((-1), M)
def F_NC_few (n : Nat) (E : zE) (S : zS) (a0 : Nat) (x1 : Int32) (x2 : Int32) (M : zH) : Option (Int64 × zH) :=
  (F_NC_within n E S x1 1 20 M).bind fun q_1 =>
  if q_1.1 = true then
    (F_NC_within n E S x2 0 99 q_1.2).bind fun q_3 =>
    if q_3.1 = true then
      (zgR S a0 10 12).bind fun b_5 =>
      (zgR S a0 10 0).bind fun b_6 =>
      (zgR S b_6 3 9).bind fun b_7 =>
      (zldI S q_3.2 b_7 3).bind fun v_8 =>
      (zck S b_5 4).bind fun u_9 =>
      (F_Pa_chanceOfFew n E S b_5 x1 x2 v_8 q_3.2).bind fun q_10 =>
      some (q_10.1, q_10.2)
    else
      F_NC_few_b20 n E S  q_3.2
  else
    F_NC_few_b20 n E S  q_1.2
theorem K_NC_few_b20 (n : Nat) (E : zE) (S : zS)  (M : zH) (r : Int64) (M' : zH)  (h : F_NC_few_b20 n E S  M = some (r, M')) : zG E Y_NC_few (some (.long r), S, M') 20 [] [] S M 0 0 := by
  unfold F_NC_few_b20 at h
  refine zi_ldc2 d_NC_few_20 tw_1135 ?_
  cases h
  exact zo_ret d_NC_few_23 (Nat.le_of_ble_eq_true rfl) (Nat.le_of_ble_eq_true rfl) rfl
theorem K_NC_few (n : Nat) (E : zE) (S : zS) (a0 : Nat) (x1 : Int32) (x2 : Int32) (M : zH) (r : Int64) (M' : zH)  (h : F_NC_few n E S a0 x1 x2 M = some (r, M')) : zG E Y_NC_few (some (.long r), S, M') 0 [(0, .ref a0), (1, .int x1), (2, .int x2)] [] S M 0 0 := by
  unfold F_NC_few at h
  refine zi_iload_n 1 d_NC_few_0 rfl ?_
  refine zi_iconst 1 d_NC_few_1 rfl ?_
  refine zi_bipush 20 d_NC_few_2 rfl ?_
  obtain ⟨q_1, eq_1, h⟩ := zbind h
  refine zo_stat (k' := 0) (n' := 0) 7 [.int x1, .int 1, .int 20] [] [.int (bI q_1.1)] (C_NC_within n E S x1 1 20 M q_1.1 q_1.2 eq_1) d_NC_few_4 tw_399 tw_397 tw_398 tw_1 dd_NC_within ⟨Nat.le_of_ble_eq_true rfl, Nat.le_of_ble_eq_true rfl, Nat.le_of_ble_eq_true rfl, Nat.le_of_ble_eq_true rfl⟩ (Nat.le_of_ble_eq_true rfl) rfl rfl rfl rfl ?_
  refine zo_ifeqB d_NC_few_7 rfl 10 rfl (fun c_2 => ?_) (fun c_2 => ?_)
  · rw [if_neg c_2] at h
    refine zi_lo [] [] rfl ?_
    exact K_NC_few_b20 n E S  q_1.2 r M'  h
  · rw [if_pos c_2] at h
    refine zi_iload_n 2 d_NC_few_10 rfl ?_
    refine zi_iconst 0 d_NC_few_11 rfl ?_
    refine zi_bipush 99 d_NC_few_12 rfl ?_
    obtain ⟨q_3, eq_3, h⟩ := zbind h
    refine zo_stat (k' := 0) (n' := 0) 17 [.int x2, .int 0, .int 99] [] [.int (bI q_3.1)] (C_NC_within n E S x2 0 99 q_1.2 q_3.1 q_3.2 eq_3) d_NC_few_14 tw_399 tw_397 tw_398 tw_1 dd_NC_within ⟨Nat.le_of_ble_eq_true rfl, Nat.le_of_ble_eq_true rfl, Nat.le_of_ble_eq_true rfl, Nat.le_of_ble_eq_true rfl⟩ (Nat.le_of_ble_eq_true rfl) rfl rfl rfl rfl ?_
    refine zo_ifneB d_NC_few_17 rfl 20 rfl (fun c_4 => ?_) (fun c_4 => ?_)
    · rw [if_pos c_4] at h
      refine zi_aload_n 0 d_NC_few_24 rfl ?_
      obtain ⟨b_5, eb_5, h⟩ := zbind h
      refine zo_getR 28 zkd_10 12 d_NC_few_25 eb_5 rfl tw_344 rfl ?_
      refine zi_iload_n 1 d_NC_few_28 rfl ?_
      refine zi_iload_n 2 d_NC_few_29 rfl ?_
      refine zi_aload_n 0 d_NC_few_30 rfl ?_
      obtain ⟨b_6, eb_6, h⟩ := zbind h
      refine zo_getR 34 zkd_10 0 d_NC_few_31 eb_6 rfl tw_332 rfl ?_
      obtain ⟨b_7, eb_7, h⟩ := zbind h
      refine zo_getR 37 zkd_3 9 d_NC_few_34 eb_7 rfl tw_84 rfl ?_
      refine zi_iconst 3 d_NC_few_37 rfl ?_
      obtain ⟨v_8, ev_8, h⟩ := zbind h
      refine zo_iald 39 d_NC_few_38 ev_8 rfl ?_
      obtain ⟨u_9, eu_9, h⟩ := zbind h
      obtain ⟨q_10, eq_10, h⟩ := zbind h
      refine zo_virt (k' := 0) (n' := 0) 42 [.int x1, .int x2, .int v_8] [] [.long q_10.1] zkd_4 (zck_s eu_9) (C_Pa_chanceOfFew n E S b_5 x1 x2 v_8 q_3.2 q_10.1 q_10.2 eq_10) d_NC_few_39 tw_1139 tw_1136 tw_1137 tw_1138 tw_12 dd_Pa_chanceOfFew ⟨Nat.le_of_ble_eq_true rfl, Nat.le_of_ble_eq_true rfl, Nat.le_of_ble_eq_true rfl, Nat.le_of_ble_eq_true rfl⟩ (Nat.le_of_ble_eq_true rfl) rfl rfl rfl rfl ?_
      cases h
      exact zo_ret d_NC_few_42 (Nat.le_of_ble_eq_true rfl) (Nat.le_of_ble_eq_true rfl) rfl
    · rw [if_neg c_4] at h
      refine zi_lo [] [] rfl ?_
      exact K_NC_few_b20 n E S  q_3.2 r M'  h
theorem C_NC_few (n : Nat) (E : zE) (S : zS) (a0 : Nat) (x1 : Int32) (x2 : Int32) (M : zH) (r : Int64) (M' : zH) (h : F_NC_few n E S a0 x1 x2 M = some (r, M')) : zC E Y_NC_few [.ref a0, .int x1, .int x2] S M (some (.long r), S, M') :=
  zC.of (Or.inl (show plainName "NightColander" = true by decide)) (Nat.le_of_ble_eq_true rfl) (trivial) (K_NC_few n E S a0 x1 x2 M r M' h)
theorem d_Pa_worthBy_0 : decode (yB Y_Pa_worthBy) 0 = .ok (.aload_n 0, 1) := by decide +kernel
theorem d_Pa_worthBy_1 : decode (yB Y_Pa_worthBy) 1 = .ok (.getfield 12, 3) := by decide +kernel
theorem d_Pa_worthBy_4 : decode (yB Y_Pa_worthBy) 4 = .ok (.aload_n 1, 1) := by decide +kernel
theorem d_Pa_worthBy_5 : decode (yB Y_Pa_worthBy) 5 = .ok (.invokevirtual 53, 3) := by decide +kernel
theorem d_Pa_worthBy_8 : decode (yB Y_Pa_worthBy) 8 = .ok (.aload_n 0, 1) := by decide +kernel
theorem d_Pa_worthBy_9 : decode (yB Y_Pa_worthBy) 9 = .ok (.getfield 12, 3) := by decide +kernel
theorem d_Pa_worthBy_12 : decode (yB Y_Pa_worthBy) 12 = .ok (.iload_n 2, 1) := by decide +kernel
theorem d_Pa_worthBy_13 : decode (yB Y_Pa_worthBy) 13 = .ok (.putfield 189, 3) := by decide +kernel
theorem d_Pa_worthBy_16 : decode (yB Y_Pa_worthBy) 16 = .ok (.iconst 0, 1) := by decide +kernel
theorem d_Pa_worthBy_17 : decode (yB Y_Pa_worthBy) 17 = .ok (.istore_n 3, 1) := by decide +kernel
theorem d_Pa_worthBy_18 : decode (yB Y_Pa_worthBy) 18 = .ok (.iconst 0, 1) := by decide +kernel
theorem d_Pa_worthBy_19 : decode (yB Y_Pa_worthBy) 19 = .ok (.istore 4, 2) := by decide +kernel
theorem d_Pa_worthBy_21 : decode (yB Y_Pa_worthBy) 21 = .ok (.iload 4, 2) := by decide +kernel
theorem d_Pa_worthBy_23 : decode (yB Y_Pa_worthBy) 23 = .ok (.aload_n 0, 1) := by decide +kernel
theorem d_Pa_worthBy_24 : decode (yB Y_Pa_worthBy) 24 = .ok (.getfield 12, 3) := by decide +kernel
theorem d_Pa_worthBy_27 : decode (yB Y_Pa_worthBy) 27 = .ok (.getfield 77, 3) := by decide +kernel
theorem d_Pa_worthBy_30 : decode (yB Y_Pa_worthBy) 30 = .ok (.if_icmp .ge 46, 3) := by decide +kernel
theorem d_Pa_worthBy_33 : decode (yB Y_Pa_worthBy) 33 = .ok (.iload_n 3, 1) := by decide +kernel
theorem d_Pa_worthBy_34 : decode (yB Y_Pa_worthBy) 34 = .ok (.aload_n 0, 1) := by decide +kernel
theorem d_Pa_worthBy_35 : decode (yB Y_Pa_worthBy) 35 = .ok (.getfield 12, 3) := by decide +kernel
theorem d_Pa_worthBy_38 : decode (yB Y_Pa_worthBy) 38 = .ok (.getfield 97, 3) := by decide +kernel
theorem d_Pa_worthBy_41 : decode (yB Y_Pa_worthBy) 41 = .ok (.iload 4, 2) := by decide +kernel
theorem d_Pa_worthBy_43 : decode (yB Y_Pa_worthBy) 43 = .ok (.iaload, 1) := by decide +kernel
theorem d_Pa_worthBy_44 : decode (yB Y_Pa_worthBy) 44 = .ok (.aload_n 0, 1) := by decide +kernel
theorem d_Pa_worthBy_45 : decode (yB Y_Pa_worthBy) 45 = .ok (.getfield 45, 3) := by decide +kernel
theorem d_Pa_worthBy_48 : decode (yB Y_Pa_worthBy) 48 = .ok (.aload_n 0, 1) := by decide +kernel
theorem d_Pa_worthBy_49 : decode (yB Y_Pa_worthBy) 49 = .ok (.getfield 12, 3) := by decide +kernel
theorem d_Pa_worthBy_52 : decode (yB Y_Pa_worthBy) 52 = .ok (.iload 4, 2) := by decide +kernel
theorem d_Pa_worthBy_54 : decode (yB Y_Pa_worthBy) 54 = .ok (.aload_n 0, 1) := by decide +kernel
theorem d_Pa_worthBy_55 : decode (yB Y_Pa_worthBy) 55 = .ok (.getfield 12, 3) := by decide +kernel
theorem d_Pa_worthBy_58 : decode (yB Y_Pa_worthBy) 58 = .ok (.getfield 91, 3) := by decide +kernel
theorem d_Pa_worthBy_61 : decode (yB Y_Pa_worthBy) 61 = .ok (.iload 4, 2) := by decide +kernel
theorem d_Pa_worthBy_63 : decode (yB Y_Pa_worthBy) 63 = .ok (.iaload, 1) := by decide +kernel
theorem d_Pa_worthBy_64 : decode (yB Y_Pa_worthBy) 64 = .ok (.invokevirtual 192, 3) := by decide +kernel
theorem d_Pa_worthBy_67 : decode (yB Y_Pa_worthBy) 67 = .ok (.imul, 1) := by decide +kernel
theorem d_Pa_worthBy_68 : decode (yB Y_Pa_worthBy) 68 = .ok (.iadd, 1) := by decide +kernel
theorem d_Pa_worthBy_69 : decode (yB Y_Pa_worthBy) 69 = .ok (.istore_n 3, 1) := by decide +kernel
theorem d_Pa_worthBy_70 : decode (yB Y_Pa_worthBy) 70 = .ok (.iinc 4 1, 3) := by decide +kernel
theorem d_Pa_worthBy_73 : decode (yB Y_Pa_worthBy) 73 = .ok (.goto (-52), 3) := by decide +kernel
theorem d_Pa_worthBy_76 : decode (yB Y_Pa_worthBy) 76 = .ok (.iload_n 3, 1) := by decide +kernel
theorem d_Pa_worthBy_77 : decode (yB Y_Pa_worthBy) 77 = .ok (.ireturn, 1) := by decide +kernel
def F_Pa_worthBy_L21 (n : Nat) (E : zE) (S : zS) (r21 : Nat × Int32 × Int32 × zH → Option (Int32 × zH)) (a0 : Nat) (x3 : Int32) (x4 : Int32) (M : zH) : Option (Int32 × zH) :=
  (zgR S a0 4 1).bind fun b_1 =>
  (zgI S M b_1 3 11).bind fun v_2 =>
  if v_2 ≤ x4 then
    some (x3, M)
  else
    (zgR S b_1 3 4).bind fun b_4 =>
    (zldI S M b_4 x4).bind fun v_5 =>
    (zgR S a0 4 0).bind fun b_6 =>
    (zgR S b_1 3 5).bind fun b_7 =>
    (zldI S M b_7 x4).bind fun v_8 =>
    (zck S b_6 1).bind fun u_9 =>
    (F_Ju_payOf n E S b_6 b_1 x4 v_8 M).bind fun q_10 =>
    r21 (a0, x3 + (v_5 * q_10.1), x4 + 1, q_10.2)
def F_Pa_worthBy_b21 (n : Nat) (E : zE) (S : zS) : Nat × Int32 × Int32 × zH → Option (Int32 × zH) := zfix (fun r21 s => F_Pa_worthBy_L21 n E S r21 s.1 s.2.1 s.2.2.1 s.2.2.2) n
def F_Pa_worthBy (n : Nat) (E : zE) (S : zS) (a0 : Nat) (a1 : Nat) (x2 : Int32) (M : zH) : Option (Int32 × zH) :=
  (zgR S a0 4 1).bind fun b_11 =>
  (zck S b_11 3).bind fun u_12 =>
  (F_Ni_copyFrom n E S b_11 a1 M).bind fun q_13 =>
  (zpI S q_13 b_11 3 14 x2).bind fun m_14 =>
  F_Pa_worthBy_b21 n E S (a0, 0, 0, m_14)
theorem K_Pa_worthBy_L21 (n : Nat) (E : zE) (S : zS) (r21 : Nat × Int32 × Int32 × zH → Option (Int32 × zH)) (a0 : Nat) (x3 : Int32) (x4 : Int32) (M : zH) (r : Int32) (M' : zH) (hr21 : ∀ (a0 : Nat) (x3 : Int32) (x4 : Int32) (M : zH), r21 (a0, x3, x4, M) = some (r, M') → zG E Y_Pa_worthBy (some (.int r), S, M') 21 [(0, .ref a0), (3, .int x3), (4, .int x4)] [] S M 0 0) (h : F_Pa_worthBy_L21 n E S r21 a0 x3 x4 M = some (r, M')) : zG E Y_Pa_worthBy (some (.int r), S, M') 21 [(0, .ref a0), (3, .int x3), (4, .int x4)] [] S M 0 0 := by
  unfold F_Pa_worthBy_L21 at h
  refine zi_iload 2 d_Pa_worthBy_21 rfl ?_
  refine zi_aload_n 0 d_Pa_worthBy_23 rfl ?_
  obtain ⟨b_1, eb_1, h⟩ := zbind h
  refine zo_getR 27 zkd_4 1 d_Pa_worthBy_24 eb_1 rfl tw_299 rfl ?_
  obtain ⟨v_2, ev_2, h⟩ := zbind h
  refine zo_getI 30 zkd_3 11 d_Pa_worthBy_27 ev_2 rfl tw_88 rfl ?_
  refine zi_icmp_ge (tgt := 76) d_Pa_worthBy_30 rfl (fun c_3 => ?_) (fun c_3 => ?_)
  · rw [if_pos c_3] at h
    refine zi_iload_n 1 d_Pa_worthBy_76 rfl ?_
    cases h
    exact zo_ret d_Pa_worthBy_77 (Nat.le_of_ble_eq_true rfl) (Nat.le_of_ble_eq_true rfl) rfl
  · rw [if_neg c_3] at h
    refine zi_iload_n 1 d_Pa_worthBy_33 rfl ?_
    refine zi_aload_n 0 d_Pa_worthBy_34 rfl ?_
    refine zo_getR 38 zkd_4 1 d_Pa_worthBy_35 eb_1 rfl tw_299 rfl ?_
    obtain ⟨b_4, eb_4, h⟩ := zbind h
    refine zo_getR 41 zkd_3 4 d_Pa_worthBy_38 eb_4 rfl tw_65 rfl ?_
    refine zi_iload 2 d_Pa_worthBy_41 rfl ?_
    obtain ⟨v_5, ev_5, h⟩ := zbind h
    refine zo_iald 44 d_Pa_worthBy_43 ev_5 rfl ?_
    refine zi_aload_n 0 d_Pa_worthBy_44 rfl ?_
    obtain ⟨b_6, eb_6, h⟩ := zbind h
    refine zo_getR 48 zkd_4 0 d_Pa_worthBy_45 eb_6 rfl tw_298 rfl ?_
    refine zi_aload_n 0 d_Pa_worthBy_48 rfl ?_
    refine zo_getR 52 zkd_4 1 d_Pa_worthBy_49 eb_1 rfl tw_299 rfl ?_
    refine zi_iload 2 d_Pa_worthBy_52 rfl ?_
    refine zi_aload_n 0 d_Pa_worthBy_54 rfl ?_
    refine zo_getR 58 zkd_4 1 d_Pa_worthBy_55 eb_1 rfl tw_299 rfl ?_
    obtain ⟨b_7, eb_7, h⟩ := zbind h
    refine zo_getR 61 zkd_3 5 d_Pa_worthBy_58 eb_7 rfl tw_72 rfl ?_
    refine zi_iload 2 d_Pa_worthBy_61 rfl ?_
    obtain ⟨v_8, ev_8, h⟩ := zbind h
    refine zo_iald 64 d_Pa_worthBy_63 ev_8 rfl ?_
    obtain ⟨u_9, eu_9, h⟩ := zbind h
    obtain ⟨q_10, eq_10, h⟩ := zbind h
    refine zo_virt (k' := 0) (n' := 0) 67 [.ref b_1, .int x4, .int v_8] [.int v_5, .int x3] [.int q_10.1, .int v_5, .int x3] zkd_1 (zck_s eu_9) (C_Ju_payOf n E S b_6 b_1 x4 v_8 M q_10.1 q_10.2 eq_10) d_Pa_worthBy_64 tw_492 tw_1153 tw_490 tw_491 tw_8 dd_Ju_payOf ⟨Nat.le_of_ble_eq_true rfl, Nat.le_of_ble_eq_true rfl, Nat.le_of_ble_eq_true rfl, Nat.le_of_ble_eq_true rfl⟩ (Nat.le_of_ble_eq_true rfl) rfl rfl rfl rfl ?_
    refine zi_imul d_Pa_worthBy_67 ?_
    refine zi_iadd d_Pa_worthBy_68 ?_
    refine zi_istore_n [(3, .int (x3 + (v_5 * q_10.1))), (0, .ref a0), (4, .int x4)] d_Pa_worthBy_69 (by decide) rfl ?_
    refine zi_iinc 2 (x4 + 1) [(4, .int (x4 + 1)), (3, .int (x3 + (v_5 * q_10.1))), (0, .ref a0)] d_Pa_worthBy_70 rfl rfl (by decide) rfl ?_
    refine zi_goto (tgt := 21) d_Pa_worthBy_73 rfl ?_
    refine zi_lo [(0, .ref a0), (3, .int (x3 + (v_5 * q_10.1))), (4, .int (x4 + 1))] [2, 1, 0] rfl ?_
    exact hr21 a0 (x3 + (v_5 * q_10.1)) (x4 + 1) q_10.2 h
theorem K_Pa_worthBy_b21 (n : Nat) (E : zE) (S : zS) (a0 : Nat) (x3 : Int32) (x4 : Int32) (M : zH) (r : Int32) (M' : zH)  (h : F_Pa_worthBy_b21 n E S (a0, x3, x4, M) = some (r, M')) : zG E Y_Pa_worthBy (some (.int r), S, M') 21 [(0, .ref a0), (3, .int x3), (4, .int x4)] [] S M 0 0 := by
  have key : ∀ (k : Nat) (a0 : Nat) (x3 : Int32) (x4 : Int32) (M : zH), zfix (fun r21 s => F_Pa_worthBy_L21 n E S r21 s.1 s.2.1 s.2.2.1 s.2.2.2) k (a0, x3, x4, M) = some (r, M') → zG E Y_Pa_worthBy (some (.int r), S, M') 21 [(0, .ref a0), (3, .int x3), (4, .int x4)] [] S M 0 0 := by
    intro k
    induction k with
    | zero => intro a0 x3 x4 M h; cases h
    | succ k ih => intro a0 x3 x4 M h; exact K_Pa_worthBy_L21 n E S _ a0 x3 x4 M r M'  (fun a0 x3 x4 M h => ih a0 x3 x4 M h) h
  exact key n a0 x3 x4 M h
theorem K_Pa_worthBy (n : Nat) (E : zE) (S : zS) (a0 : Nat) (a1 : Nat) (x2 : Int32) (M : zH) (r : Int32) (M' : zH)  (h : F_Pa_worthBy n E S a0 a1 x2 M = some (r, M')) : zG E Y_Pa_worthBy (some (.int r), S, M') 0 [(0, .ref a0), (1, .ref a1), (2, .int x2)] [] S M 0 0 := by
  unfold F_Pa_worthBy at h
  refine zi_aload_n 0 d_Pa_worthBy_0 rfl ?_
  obtain ⟨b_11, eb_11, h⟩ := zbind h
  refine zo_getR 4 zkd_4 1 d_Pa_worthBy_1 eb_11 rfl tw_299 rfl ?_
  refine zi_aload_n 1 d_Pa_worthBy_4 rfl ?_
  obtain ⟨u_12, eu_12, h⟩ := zbind h
  obtain ⟨q_13, eq_13, h⟩ := zbind h
  refine zo_virt (k' := 0) (n' := 0) 8 [.ref a1] [] [] zkd_3 (zck_s eu_12) (C_Ni_copyFrom n E S b_11 a1 M q_13 eq_13) d_Pa_worthBy_5 tw_865 tw_982 tw_863 tw_864 tw_2 dd_Ni_copyFrom ⟨Nat.le_of_ble_eq_true rfl, Nat.le_of_ble_eq_true rfl, Nat.le_of_ble_eq_true rfl, Nat.le_of_ble_eq_true rfl⟩ (Nat.le_of_ble_eq_true rfl) rfl rfl rfl rfl ?_
  refine zi_aload_n 0 d_Pa_worthBy_8 rfl ?_
  refine zo_getR 12 zkd_4 1 d_Pa_worthBy_9 eb_11 rfl tw_299 rfl ?_
  refine zi_iload_n 2 d_Pa_worthBy_12 rfl ?_
  obtain ⟨m_14, em_14, h⟩ := zbind h
  refine zo_putI 16 zkd_3 14 d_Pa_worthBy_13 em_14 rfl rfl rfl tw_97 rfl ?_
  refine zi_iconst 0 d_Pa_worthBy_16 rfl ?_
  refine zi_istore_n [(3, .int 0), (0, .ref a0), (1, .ref a1), (2, .int x2)] d_Pa_worthBy_17 (by decide) rfl ?_
  refine zi_iconst 0 d_Pa_worthBy_18 rfl ?_
  refine zi_istore [(4, .int 0), (3, .int 0), (0, .ref a0), (1, .ref a1), (2, .int x2)] d_Pa_worthBy_19 (by decide) rfl ?_
  refine zi_lo [(0, .ref a0), (3, .int 0), (4, .int 0)] [2, 1, 0] rfl ?_
  exact K_Pa_worthBy_b21 n E S a0 0 0 m_14 r M'  h
theorem C_Pa_worthBy (n : Nat) (E : zE) (S : zS) (a0 : Nat) (a1 : Nat) (x2 : Int32) (M : zH) (r : Int32) (M' : zH) (h : F_Pa_worthBy n E S a0 a1 x2 M = some (r, M')) : zC E Y_Pa_worthBy [.ref a0, .ref a1, .int x2] S M (some (.int r), S, M') :=
  zC.of (Or.inl (show plainName "NightColander$Paper" = true by decide)) (Nat.le_of_ble_eq_true rfl) (trivial) (K_Pa_worthBy n E S a0 a1 x2 M r M' h)
theorem d_NC_worth_0 : decode (yB Y_NC_worth) 0 = .ok (.iload_n 1, 1) := by decide +kernel
theorem d_NC_worth_1 : decode (yB Y_NC_worth) 1 = .ok (.iconst (-1), 1) := by decide +kernel
theorem d_NC_worth_2 : decode (yB Y_NC_worth) 2 = .ok (.if_icmp .eq 16, 3) := by decide +kernel
theorem d_NC_worth_5 : decode (yB Y_NC_worth) 5 = .ok (.aload_n 0, 1) := by decide +kernel
theorem d_NC_worth_6 : decode (yB Y_NC_worth) 6 = .ok (.getfield 12, 3) := by decide +kernel
theorem d_NC_worth_9 : decode (yB Y_NC_worth) 9 = .ok (.iload_n 1, 1) := by decide +kernel
theorem d_NC_worth_10 : decode (yB Y_NC_worth) 10 = .ok (.invokevirtual 243, 3) := by decide +kernel
theorem d_NC_worth_13 : decode (yB Y_NC_worth) 13 = .ok (.ifCond .ne 5, 3) := by decide +kernel
theorem d_NC_worth_16 : decode (yB Y_NC_worth) 16 = .ok (.iconst (-1), 1) := by decide +kernel
theorem d_NC_worth_17 : decode (yB Y_NC_worth) 17 = .ok (.ireturn, 1) := by decide +kernel
theorem d_NC_worth_18 : decode (yB Y_NC_worth) 18 = .ok (.aload_n 0, 1) := by decide +kernel
theorem d_NC_worth_19 : decode (yB Y_NC_worth) 19 = .ok (.getfield 86, 3) := by decide +kernel
theorem d_NC_worth_22 : decode (yB Y_NC_worth) 22 = .ok (.aload_n 0, 1) := by decide +kernel
theorem d_NC_worth_23 : decode (yB Y_NC_worth) 23 = .ok (.getfield 12, 3) := by decide +kernel
theorem d_NC_worth_26 : decode (yB Y_NC_worth) 26 = .ok (.iload_n 1, 1) := by decide +kernel
theorem d_NC_worth_27 : decode (yB Y_NC_worth) 27 = .ok (.invokevirtual 310, 3) := by decide +kernel
theorem d_NC_worth_30 : decode (yB Y_NC_worth) 30 = .ok (.ireturn, 1) := by decide +kernel
def F_NC_worth_b18 (n : Nat) (E : zE) (S : zS) (a0 : Nat) (x1 : Int32) (M : zH) : Option (Int32 × zH) :=
  (zgR S a0 10 12).bind fun b_1 =>
  (zgR S a0 10 0).bind fun b_2 =>
  (zck S b_1 4).bind fun u_3 =>
  (F_Pa_worthBy n E S b_1 b_2 x1 M).bind fun q_4 =>
  some (q_4.1, q_4.2)
def F_NC_worth (n : Nat) (E : zE) (S : zS) (a0 : Nat) (x1 : Int32) (M : zH) : Option (Int32 × zH) :=
  if x1 = (-1) then
    F_NC_worth_b18 n E S a0 x1 M
  else
    (zgR S a0 10 0).bind fun b_6 =>
    (zck S b_6 3).bind fun u_7 =>
    (F_Ni_hasLaw n E S b_6 x1 M).bind fun q_8 =>
    if q_8.1 = true then
      F_NC_worth_b18 n E S a0 x1 q_8.2
    else
      some ((-1), q_8.2)
theorem K_NC_worth_b18 (n : Nat) (E : zE) (S : zS) (a0 : Nat) (x1 : Int32) (M : zH) (r : Int32) (M' : zH)  (h : F_NC_worth_b18 n E S a0 x1 M = some (r, M')) : zG E Y_NC_worth (some (.int r), S, M') 18 [(0, .ref a0), (1, .int x1)] [] S M 0 0 := by
  unfold F_NC_worth_b18 at h
  refine zi_aload_n 0 d_NC_worth_18 rfl ?_
  obtain ⟨b_1, eb_1, h⟩ := zbind h
  refine zo_getR 22 zkd_10 12 d_NC_worth_19 eb_1 rfl tw_344 rfl ?_
  refine zi_aload_n 0 d_NC_worth_22 rfl ?_
  obtain ⟨b_2, eb_2, h⟩ := zbind h
  refine zo_getR 26 zkd_10 0 d_NC_worth_23 eb_2 rfl tw_332 rfl ?_
  refine zi_iload_n 1 d_NC_worth_26 rfl ?_
  obtain ⟨u_3, eu_3, h⟩ := zbind h
  obtain ⟨q_4, eq_4, h⟩ := zbind h
  refine zo_virt (k' := 0) (n' := 0) 30 [.ref b_2, .int x1] [] [.int q_4.1] zkd_4 (zck_s eu_3) (C_Pa_worthBy n E S b_1 b_2 x1 M q_4.1 q_4.2 eq_4) d_NC_worth_27 tw_1152 tw_1149 tw_1150 tw_1151 tw_12 dd_Pa_worthBy ⟨Nat.le_of_ble_eq_true rfl, Nat.le_of_ble_eq_true rfl, Nat.le_of_ble_eq_true rfl, Nat.le_of_ble_eq_true rfl⟩ (Nat.le_of_ble_eq_true rfl) rfl rfl rfl rfl ?_
  cases h
  exact zo_ret d_NC_worth_30 (Nat.le_of_ble_eq_true rfl) (Nat.le_of_ble_eq_true rfl) rfl
theorem K_NC_worth (n : Nat) (E : zE) (S : zS) (a0 : Nat) (x1 : Int32) (M : zH) (r : Int32) (M' : zH)  (h : F_NC_worth n E S a0 x1 M = some (r, M')) : zG E Y_NC_worth (some (.int r), S, M') 0 [(0, .ref a0), (1, .int x1)] [] S M 0 0 := by
  unfold F_NC_worth at h
  refine zi_iload_n 1 d_NC_worth_0 rfl ?_
  refine zi_iconst (-1) d_NC_worth_1 rfl ?_
  refine zi_icmp_eq (tgt := 18) d_NC_worth_2 rfl (fun c_5 => ?_) (fun c_5 => ?_)
  · rw [if_pos c_5] at h
    refine zi_lo [(0, .ref a0), (1, .int x1)] [0, 1] rfl ?_
    exact K_NC_worth_b18 n E S a0 x1 M r M'  h
  · rw [if_neg c_5] at h
    refine zi_aload_n 0 d_NC_worth_5 rfl ?_
    obtain ⟨b_6, eb_6, h⟩ := zbind h
    refine zo_getR 9 zkd_10 0 d_NC_worth_6 eb_6 rfl tw_332 rfl ?_
    refine zi_iload_n 1 d_NC_worth_9 rfl ?_
    obtain ⟨u_7, eu_7, h⟩ := zbind h
    obtain ⟨q_8, eq_8, h⟩ := zbind h
    refine zo_virt (k' := 0) (n' := 0) 13 [.int x1] [] [.int (bI q_8.1)] zkd_3 (zck_s eu_7) (C_Ni_hasLaw n E S b_6 x1 M q_8.1 q_8.2 eq_8) d_NC_worth_10 tw_943 tw_940 tw_941 tw_942 tw_2 dd_Ni_hasLaw ⟨Nat.le_of_ble_eq_true rfl, Nat.le_of_ble_eq_true rfl, Nat.le_of_ble_eq_true rfl, Nat.le_of_ble_eq_true rfl⟩ (Nat.le_of_ble_eq_true rfl) rfl rfl rfl rfl ?_
    refine zo_ifneB d_NC_worth_13 rfl 16 rfl (fun c_9 => ?_) (fun c_9 => ?_)
    · rw [if_pos c_9] at h
      refine zi_lo [(0, .ref a0), (1, .int x1)] [0, 1] rfl ?_
      exact K_NC_worth_b18 n E S a0 x1 q_8.2 r M'  h
    · rw [if_neg c_9] at h
      refine zi_iconst (-1) d_NC_worth_16 rfl ?_
      cases h
      exact zo_ret d_NC_worth_17 (Nat.le_of_ble_eq_true rfl) (Nat.le_of_ble_eq_true rfl) rfl
theorem C_NC_worth (n : Nat) (E : zE) (S : zS) (a0 : Nat) (x1 : Int32) (M : zH) (r : Int32) (M' : zH) (h : F_NC_worth n E S a0 x1 M = some (r, M')) : zC E Y_NC_worth [.ref a0, .int x1] S M (some (.int r), S, M') :=
  zC.of (Or.inl (show plainName "NightColander" = true by decide)) (Nat.le_of_ble_eq_true rfl) (trivial) (K_NC_worth n E S a0 x1 M r M' h)
theorem d_De_nextDraw_0 : decode (yB Y_De_nextDraw) 0 = .ok (.lload_n 0, 1) := by decide +kernel
theorem d_De_nextDraw_1 : decode (yB Y_De_nextDraw) 1 = .ok (.ldc2_w 65, 3) := by decide +kernel
theorem d_De_nextDraw_4 : decode (yB Y_De_nextDraw) 4 = .ok (.lmul, 1) := by decide +kernel
theorem d_De_nextDraw_5 : decode (yB Y_De_nextDraw) 5 = .ok (.ldc2_w 67, 3) := by decide +kernel
theorem d_De_nextDraw_8 : decode (yB Y_De_nextDraw) 8 = .ok (.ladd, 1) := by decide +kernel
theorem d_De_nextDraw_9 : decode (yB Y_De_nextDraw) 9 = .ok (.ldc2_w 69, 3) := by decide +kernel
theorem d_De_nextDraw_12 : decode (yB Y_De_nextDraw) 12 = .ok (.lrem, 1) := by decide +kernel
theorem d_De_nextDraw_13 : decode (yB Y_De_nextDraw) 13 = .ok (.lreturn, 1) := by decide +kernel
def F_De_nextDraw (n : Nat) (E : zE) (S : zS) (y0 : Int64) (M : zH) : Option (Int64 × zH) :=
  (zremJ ((y0 * 1103) + 12345) 1000003).bind fun v_1 =>
  some (v_1, M)
theorem K_De_nextDraw (n : Nat) (E : zE) (S : zS) (y0 : Int64) (M : zH) (r : Int64) (M' : zH)  (h : F_De_nextDraw n E S y0 M = some (r, M')) : zG E Y_De_nextDraw (some (.long r), S, M') 0 [(0, .long y0)] [] S M 0 0 := by
  unfold F_De_nextDraw at h
  refine zi_lload_n 0 d_De_nextDraw_0 rfl ?_
  refine zi_ldc2 d_De_nextDraw_1 tw_1166 ?_
  refine zi_lmul d_De_nextDraw_4 ?_
  refine zi_ldc2 d_De_nextDraw_5 tw_1167 ?_
  refine zi_ladd d_De_nextDraw_8 ?_
  refine zi_ldc2 d_De_nextDraw_9 tw_1168 ?_
  obtain ⟨v_1, ev_1, h⟩ := zbind h
  refine zo_lrem 13 d_De_nextDraw_12 ev_1 rfl ?_
  cases h
  exact zo_ret d_De_nextDraw_13 (Nat.le_of_ble_eq_true rfl) (Nat.le_of_ble_eq_true rfl) rfl
theorem C_De_nextDraw (n : Nat) (E : zE) (S : zS) (y0 : Int64) (M : zH) (r : Int64) (M' : zH) (h : F_De_nextDraw n E S y0 M = some (r, M')) : zC E Y_De_nextDraw [.long y0] S M (some (.long r), S, M') :=
  zC.of (Or.inl (show plainName "NightColander$Deeds" = true by decide)) (Nat.le_of_ble_eq_true rfl) (trivial) (K_De_nextDraw n E S y0 M r M' h)
theorem d_De_runYears_0 : decode (yB Y_De_runYears) 0 = .ok (.iload_n 2, 1) := by decide +kernel
theorem d_De_runYears_1 : decode (yB Y_De_runYears) 1 = .ok (.i2l, 1) := by decide +kernel
theorem d_De_runYears_2 : decode (yB Y_De_runYears) 2 = .ok (.lstore 4, 2) := by decide +kernel
theorem d_De_runYears_4 : decode (yB Y_De_runYears) 4 = .ok (.iconst 0, 1) := by decide +kernel
theorem d_De_runYears_5 : decode (yB Y_De_runYears) 5 = .ok (.istore 6, 2) := by decide +kernel
theorem d_De_runYears_7 : decode (yB Y_De_runYears) 7 = .ok (.iconst 0, 1) := by decide +kernel
theorem d_De_runYears_8 : decode (yB Y_De_runYears) 8 = .ok (.istore 7, 2) := by decide +kernel
theorem d_De_runYears_10 : decode (yB Y_De_runYears) 10 = .ok (.iload 7, 2) := by decide +kernel
theorem d_De_runYears_12 : decode (yB Y_De_runYears) 12 = .ok (.iload_n 3, 1) := by decide +kernel
theorem d_De_runYears_13 : decode (yB Y_De_runYears) 13 = .ok (.if_icmp .ge 125, 3) := by decide +kernel
theorem d_De_runYears_16 : decode (yB Y_De_runYears) 16 = .ok (.aload_n 1, 1) := by decide +kernel
theorem d_De_runYears_17 : decode (yB Y_De_runYears) 17 = .ok (.getfield 49, 3) := by decide +kernel
theorem d_De_runYears_20 : decode (yB Y_De_runYears) 20 = .ok (.iconst 0, 1) := by decide +kernel
theorem d_De_runYears_21 : decode (yB Y_De_runYears) 21 = .ok (.iaload, 1) := by decide +kernel
theorem d_De_runYears_22 : decode (yB Y_De_runYears) 22 = .ok (.sipush 999, 3) := by decide +kernel
theorem d_De_runYears_25 : decode (yB Y_De_runYears) 25 = .ok (.if_icmp .ge 113, 3) := by decide +kernel
theorem d_De_runYears_28 : decode (yB Y_De_runYears) 28 = .ok (.lload 4, 2) := by decide +kernel
theorem d_De_runYears_30 : decode (yB Y_De_runYears) 30 = .ok (.invokestatic 52, 3) := by decide +kernel
theorem d_De_runYears_33 : decode (yB Y_De_runYears) 33 = .ok (.lstore 4, 2) := by decide +kernel
theorem d_De_runYears_35 : decode (yB Y_De_runYears) 35 = .ok (.lload 4, 2) := by decide +kernel
theorem d_De_runYears_37 : decode (yB Y_De_runYears) 37 = .ok (.ldc2_w 56, 3) := by decide +kernel
theorem d_De_runYears_40 : decode (yB Y_De_runYears) 40 = .ok (.lrem, 1) := by decide +kernel
theorem d_De_runYears_41 : decode (yB Y_De_runYears) 41 = .ok (.l2i, 1) := by decide +kernel
theorem d_De_runYears_42 : decode (yB Y_De_runYears) 42 = .ok (.istore 8, 2) := by decide +kernel
theorem d_De_runYears_44 : decode (yB Y_De_runYears) 44 = .ok (.lload 4, 2) := by decide +kernel
theorem d_De_runYears_46 : decode (yB Y_De_runYears) 46 = .ok (.invokestatic 52, 3) := by decide +kernel
theorem d_De_runYears_49 : decode (yB Y_De_runYears) 49 = .ok (.lstore 4, 2) := by decide +kernel
theorem d_De_runYears_51 : decode (yB Y_De_runYears) 51 = .ok (.iload 8, 2) := by decide +kernel
theorem d_De_runYears_53 : decode (yB Y_De_runYears) 53 = .ok (.bipush 8, 2) := by decide +kernel
theorem d_De_runYears_55 : decode (yB Y_De_runYears) 55 = .ok (.imul, 1) := by decide +kernel
theorem d_De_runYears_56 : decode (yB Y_De_runYears) 56 = .ok (.lload 4, 2) := by decide +kernel
theorem d_De_runYears_58 : decode (yB Y_De_runYears) 58 = .ok (.ldc2_w 58, 3) := by decide +kernel
theorem d_De_runYears_61 : decode (yB Y_De_runYears) 61 = .ok (.lrem, 1) := by decide +kernel
theorem d_De_runYears_62 : decode (yB Y_De_runYears) 62 = .ok (.l2i, 1) := by decide +kernel
theorem d_De_runYears_63 : decode (yB Y_De_runYears) 63 = .ok (.iadd, 1) := by decide +kernel
theorem d_De_runYears_64 : decode (yB Y_De_runYears) 64 = .ok (.istore 9, 2) := by decide +kernel
theorem d_De_runYears_66 : decode (yB Y_De_runYears) 66 = .ok (.lload 4, 2) := by decide +kernel
theorem d_De_runYears_68 : decode (yB Y_De_runYears) 68 = .ok (.invokestatic 52, 3) := by decide +kernel
theorem d_De_runYears_71 : decode (yB Y_De_runYears) 71 = .ok (.lstore 4, 2) := by decide +kernel
theorem d_De_runYears_73 : decode (yB Y_De_runYears) 73 = .ok (.lload 4, 2) := by decide +kernel
theorem d_De_runYears_75 : decode (yB Y_De_runYears) 75 = .ok (.ldc2_w 60, 3) := by decide +kernel
theorem d_De_runYears_78 : decode (yB Y_De_runYears) 78 = .ok (.lrem, 1) := by decide +kernel
theorem d_De_runYears_79 : decode (yB Y_De_runYears) 79 = .ok (.l2i, 1) := by decide +kernel
theorem d_De_runYears_80 : decode (yB Y_De_runYears) 80 = .ok (.istore 10, 2) := by decide +kernel
theorem d_De_runYears_82 : decode (yB Y_De_runYears) 82 = .ok (.iload 10, 2) := by decide +kernel
theorem d_De_runYears_84 : decode (yB Y_De_runYears) 84 = .ok (.ifCond .ne 13, 3) := by decide +kernel
theorem d_De_runYears_87 : decode (yB Y_De_runYears) 87 = .ok (.aload_n 1, 1) := by decide +kernel
theorem d_De_runYears_88 : decode (yB Y_De_runYears) 88 = .ok (.iload 9, 2) := by decide +kernel
theorem d_De_runYears_90 : decode (yB Y_De_runYears) 90 = .ok (.invokestatic 34, 3) := by decide +kernel
theorem d_De_runYears_93 : decode (yB Y_De_runYears) 93 = .ok (.pop, 1) := by decide +kernel
theorem d_De_runYears_94 : decode (yB Y_De_runYears) 94 = .ok (.goto 28, 3) := by decide +kernel
theorem d_De_runYears_97 : decode (yB Y_De_runYears) 97 = .ok (.iload 10, 2) := by decide +kernel
theorem d_De_runYears_99 : decode (yB Y_De_runYears) 99 = .ok (.iconst 1, 1) := by decide +kernel
theorem d_De_runYears_100 : decode (yB Y_De_runYears) 100 = .ok (.if_icmp .ne 22, 3) := by decide +kernel
theorem d_De_runYears_103 : decode (yB Y_De_runYears) 103 = .ok (.aload_n 1, 1) := by decide +kernel
theorem d_De_runYears_104 : decode (yB Y_De_runYears) 104 = .ok (.getfield 62, 3) := by decide +kernel
theorem d_De_runYears_107 : decode (yB Y_De_runYears) 107 = .ok (.iload 9, 2) := by decide +kernel
theorem d_De_runYears_109 : decode (yB Y_De_runYears) 109 = .ok (.iaload, 1) := by decide +kernel
theorem d_De_runYears_110 : decode (yB Y_De_runYears) 110 = .ok (.bipush 9, 2) := by decide +kernel
theorem d_De_runYears_112 : decode (yB Y_De_runYears) 112 = .ok (.if_icmp .ge 10, 3) := by decide +kernel
theorem d_De_runYears_115 : decode (yB Y_De_runYears) 115 = .ok (.aload_n 1, 1) := by decide +kernel
theorem d_De_runYears_116 : decode (yB Y_De_runYears) 116 = .ok (.iload 9, 2) := by decide +kernel
theorem d_De_runYears_118 : decode (yB Y_De_runYears) 118 = .ok (.invokestatic 38, 3) := by decide +kernel
theorem d_De_runYears_121 : decode (yB Y_De_runYears) 121 = .ok (.pop, 1) := by decide +kernel
theorem d_De_runYears_122 : decode (yB Y_De_runYears) 122 = .ok (.iload 6, 2) := by decide +kernel
theorem d_De_runYears_124 : decode (yB Y_De_runYears) 124 = .ok (.aload_n 0, 1) := by decide +kernel
theorem d_De_runYears_125 : decode (yB Y_De_runYears) 125 = .ok (.aload_n 1, 1) := by decide +kernel
theorem d_De_runYears_126 : decode (yB Y_De_runYears) 126 = .ok (.invokevirtual 45, 3) := by decide +kernel
theorem d_De_runYears_129 : decode (yB Y_De_runYears) 129 = .ok (.iadd, 1) := by decide +kernel
theorem d_De_runYears_130 : decode (yB Y_De_runYears) 130 = .ok (.istore 6, 2) := by decide +kernel
theorem d_De_runYears_132 : decode (yB Y_De_runYears) 132 = .ok (.iinc 7 1, 3) := by decide +kernel
theorem d_De_runYears_135 : decode (yB Y_De_runYears) 135 = .ok (.goto (-125), 3) := by decide +kernel
theorem d_De_runYears_138 : decode (yB Y_De_runYears) 138 = .ok (.iload 6, 2) := by decide +kernel
theorem d_De_runYears_140 : decode (yB Y_De_runYears) 140 = .ok (.ireturn, 1) := by decide +kernel
def F_De_runYears_b122 (n : Nat) (E : zE) (S : zS) (r10 : Nat × Nat × Int32 × Int64 × Int32 × Int32 × zH → Option (Int32 × zH)) (a0 : Nat) (a1 : Nat) (x3 : Int32) (y4 : Int64) (x6 : Int32) (x7 : Int32) (M : zH) : Option (Int32 × zH) :=
  (zck S a0 0).bind fun u_1 =>
  (F_De_letHourPass n E S a0 a1 M).bind fun q_2 =>
  r10 (a0, a1, x3, y4, x6 + q_2.1, x7 + 1, q_2.2)
def F_De_runYears_L10 (n : Nat) (E : zE) (S : zS) (r10 : Nat × Nat × Int32 × Int64 × Int32 × Int32 × zH → Option (Int32 × zH)) (a0 : Nat) (a1 : Nat) (x3 : Int32) (y4 : Int64) (x6 : Int32) (x7 : Int32) (M : zH) : Option (Int32 × zH) :=
  if x3 ≤ x7 then
    some (x6, M)
  else
    (zgR S a1 3 9).bind fun b_4 =>
    (zldI S M b_4 0).bind fun v_5 =>
    if 999 ≤ v_5 then
      some (x6, M)
    else
      (F_De_nextDraw n E S y4 M).bind fun q_7 =>
      (zremJ q_7.1 4).bind fun v_8 =>
      (F_De_nextDraw n E S q_7.1 q_7.2).bind fun q_9 =>
      (zremJ q_9.1 8).bind fun v_10 =>
      (F_De_nextDraw n E S q_9.1 q_9.2).bind fun q_11 =>
      (zremJ q_11.1 3).bind fun v_12 =>
      if v_12.toInt32 = 0 then
        (F_De_changeBlock n E S a1 ((v_8.toInt32 * 8) + v_10.toInt32) q_11.2).bind fun q_14 =>
        F_De_runYears_b122 n E S r10 a0 a1 x3 q_11.1 x6 x7 q_14.2
      else
        if v_12.toInt32 = 1 then
          (zgR S a1 3 0).bind fun b_16 =>
          (zldI S q_11.2 b_16 ((v_8.toInt32 * 8) + v_10.toInt32)).bind fun v_17 =>
          if 9 ≤ v_17 then
            F_De_runYears_b122 n E S r10 a0 a1 x3 q_11.1 x6 x7 q_11.2
          else
            (F_De_widen n E S a1 ((v_8.toInt32 * 8) + v_10.toInt32) q_11.2).bind fun q_19 =>
            F_De_runYears_b122 n E S r10 a0 a1 x3 q_11.1 x6 x7 q_19.2
        else
          F_De_runYears_b122 n E S r10 a0 a1 x3 q_11.1 x6 x7 q_11.2
def F_De_runYears_b10 (n : Nat) (E : zE) (S : zS) : Nat × Nat × Int32 × Int64 × Int32 × Int32 × zH → Option (Int32 × zH) := zfix (fun r10 s => F_De_runYears_L10 n E S r10 s.1 s.2.1 s.2.2.1 s.2.2.2.1 s.2.2.2.2.1 s.2.2.2.2.2.1 s.2.2.2.2.2.2) n
def F_De_runYears (n : Nat) (E : zE) (S : zS) (a0 : Nat) (a1 : Nat) (x2 : Int32) (x3 : Int32) (M : zH) : Option (Int32 × zH) :=
  F_De_runYears_b10 n E S (a0, a1, x3, x2.toInt64, 0, 0, M)
theorem K_De_runYears_b122 (n : Nat) (E : zE) (S : zS) (r10 : Nat × Nat × Int32 × Int64 × Int32 × Int32 × zH → Option (Int32 × zH)) (a0 : Nat) (a1 : Nat) (x3 : Int32) (y4 : Int64) (x6 : Int32) (x7 : Int32) (M : zH) (r : Int32) (M' : zH) (hr10 : ∀ (a0 : Nat) (a1 : Nat) (x3 : Int32) (y4 : Int64) (x6 : Int32) (x7 : Int32) (M : zH), r10 (a0, a1, x3, y4, x6, x7, M) = some (r, M') → zG E Y_De_runYears (some (.int r), S, M') 10 [(0, .ref a0), (1, .ref a1), (3, .int x3), (4, .long y4), (6, .int x6), (7, .int x7)] [] S M 0 0) (h : F_De_runYears_b122 n E S r10 a0 a1 x3 y4 x6 x7 M = some (r, M')) : zG E Y_De_runYears (some (.int r), S, M') 122 [(0, .ref a0), (1, .ref a1), (3, .int x3), (4, .long y4), (6, .int x6), (7, .int x7)] [] S M 0 0 := by
  unfold F_De_runYears_b122 at h
  refine zi_iload 4 d_De_runYears_122 rfl ?_
  refine zi_aload_n 0 d_De_runYears_124 rfl ?_
  refine zi_aload_n 1 d_De_runYears_125 rfl ?_
  obtain ⟨u_1, eu_1, h⟩ := zbind h
  obtain ⟨q_2, eq_2, h⟩ := zbind h
  refine zo_virt (k' := 0) (n' := 0) 129 [.ref a1] [.int x6] [.int q_2.1, .int x6] zkd_0 (zck_s eu_1) (C_De_letHourPass n E S a0 a1 M q_2.1 q_2.2 eq_2) d_De_runYears_126 tw_919 tw_916 tw_918 ts_23 tw_10 dd_De_letHourPass ⟨Nat.le_of_ble_eq_true rfl, Nat.le_of_ble_eq_true rfl, Nat.le_of_ble_eq_true rfl, Nat.le_of_ble_eq_true rfl⟩ (Nat.le_of_ble_eq_true rfl) rfl rfl rfl rfl ?_
  refine zi_iadd d_De_runYears_129 ?_
  refine zi_istore [(6, .int (x6 + q_2.1)), (0, .ref a0), (1, .ref a1), (3, .int x3), (4, .long y4), (7, .int x7)] d_De_runYears_130 (by decide) rfl ?_
  refine zi_iinc 5 (x7 + 1) [(7, .int (x7 + 1)), (6, .int (x6 + q_2.1)), (0, .ref a0), (1, .ref a1), (3, .int x3), (4, .long y4)] d_De_runYears_132 rfl rfl (by decide) rfl ?_
  refine zi_goto (tgt := 10) d_De_runYears_135 rfl ?_
  refine zi_lo [(0, .ref a0), (1, .ref a1), (3, .int x3), (4, .long y4), (6, .int (x6 + q_2.1)), (7, .int (x7 + 1))] [2, 3, 4, 5, 1, 0] rfl ?_
  exact hr10 a0 a1 x3 y4 (x6 + q_2.1) (x7 + 1) q_2.2 h
theorem K_De_runYears_L10 (n : Nat) (E : zE) (S : zS) (r10 : Nat × Nat × Int32 × Int64 × Int32 × Int32 × zH → Option (Int32 × zH)) (a0 : Nat) (a1 : Nat) (x3 : Int32) (y4 : Int64) (x6 : Int32) (x7 : Int32) (M : zH) (r : Int32) (M' : zH) (hr10 : ∀ (a0 : Nat) (a1 : Nat) (x3 : Int32) (y4 : Int64) (x6 : Int32) (x7 : Int32) (M : zH), r10 (a0, a1, x3, y4, x6, x7, M) = some (r, M') → zG E Y_De_runYears (some (.int r), S, M') 10 [(0, .ref a0), (1, .ref a1), (3, .int x3), (4, .long y4), (6, .int x6), (7, .int x7)] [] S M 0 0) (h : F_De_runYears_L10 n E S r10 a0 a1 x3 y4 x6 x7 M = some (r, M')) : zG E Y_De_runYears (some (.int r), S, M') 10 [(0, .ref a0), (1, .ref a1), (3, .int x3), (4, .long y4), (6, .int x6), (7, .int x7)] [] S M 0 0 := by
  unfold F_De_runYears_L10 at h
  refine zi_iload 5 d_De_runYears_10 rfl ?_
  refine zi_iload_n 2 d_De_runYears_12 rfl ?_
  refine zi_icmp_ge (tgt := 138) d_De_runYears_13 rfl (fun c_3 => ?_) (fun c_3 => ?_)
  · rw [if_pos c_3] at h
    refine zi_iload 4 d_De_runYears_138 rfl ?_
    cases h
    exact zo_ret d_De_runYears_140 (Nat.le_of_ble_eq_true rfl) (Nat.le_of_ble_eq_true rfl) rfl
  · rw [if_neg c_3] at h
    refine zi_aload_n 1 d_De_runYears_16 rfl ?_
    obtain ⟨b_4, eb_4, h⟩ := zbind h
    refine zo_getR 20 zkd_3 9 d_De_runYears_17 eb_4 rfl tw_83 rfl ?_
    refine zi_iconst 0 d_De_runYears_20 rfl ?_
    obtain ⟨v_5, ev_5, h⟩ := zbind h
    refine zo_iald 22 d_De_runYears_21 ev_5 rfl ?_
    refine zi_sipush 999 d_De_runYears_22 rfl ?_
    refine zi_icmp_ge (tgt := 138) d_De_runYears_25 rfl (fun c_6 => ?_) (fun c_6 => ?_)
    · rw [if_pos c_6] at h
      refine zi_iload 4 d_De_runYears_138 rfl ?_
      cases h
      exact zo_ret d_De_runYears_140 (Nat.le_of_ble_eq_true rfl) (Nat.le_of_ble_eq_true rfl) rfl
    · rw [if_neg c_6] at h
      refine zi_lload 3 d_De_runYears_28 rfl ?_
      obtain ⟨q_7, eq_7, h⟩ := zbind h
      refine zo_stat (k' := 0) (n' := 0) 33 [.long y4] [] [.long q_7.1] (C_De_nextDraw n E S y4 M q_7.1 q_7.2 eq_7) d_De_runYears_30 tw_1165 tw_1163 tw_1164 tw_10 dd_De_nextDraw ⟨Nat.le_of_ble_eq_true rfl, Nat.le_of_ble_eq_true rfl, Nat.le_of_ble_eq_true rfl, Nat.le_of_ble_eq_true rfl⟩ (Nat.le_of_ble_eq_true rfl) rfl rfl rfl rfl ?_
      refine zi_lstore [(4, .long q_7.1), (0, .ref a0), (1, .ref a1), (3, .int x3), (6, .int x6), (7, .int x7)] d_De_runYears_33 (by decide) rfl ?_
      refine zi_lload 0 d_De_runYears_35 rfl ?_
      refine zi_ldc2 d_De_runYears_37 tw_1169 ?_
      obtain ⟨v_8, ev_8, h⟩ := zbind h
      refine zo_lrem 41 d_De_runYears_40 ev_8 rfl ?_
      refine zi_l2i d_De_runYears_41 ?_
      refine zi_istore [(8, .int v_8.toInt32), (4, .long q_7.1), (0, .ref a0), (1, .ref a1), (3, .int x3), (6, .int x6), (7, .int x7)] d_De_runYears_42 (by decide) rfl ?_
      refine zi_lload 1 d_De_runYears_44 rfl ?_
      obtain ⟨q_9, eq_9, h⟩ := zbind h
      refine zo_stat (k' := 0) (n' := 0) 49 [.long q_7.1] [] [.long q_9.1] (C_De_nextDraw n E S q_7.1 q_7.2 q_9.1 q_9.2 eq_9) d_De_runYears_46 tw_1165 tw_1163 tw_1164 tw_10 dd_De_nextDraw ⟨Nat.le_of_ble_eq_true rfl, Nat.le_of_ble_eq_true rfl, Nat.le_of_ble_eq_true rfl, Nat.le_of_ble_eq_true rfl⟩ (Nat.le_of_ble_eq_true rfl) rfl rfl rfl rfl ?_
      refine zi_lstore [(4, .long q_9.1), (8, .int v_8.toInt32), (0, .ref a0), (1, .ref a1), (3, .int x3), (6, .int x6), (7, .int x7)] d_De_runYears_49 (by decide) rfl ?_
      refine zi_iload 1 d_De_runYears_51 rfl ?_
      refine zi_bipush 8 d_De_runYears_53 rfl ?_
      refine zi_imul d_De_runYears_55 ?_
      refine zi_lload 0 d_De_runYears_56 rfl ?_
      refine zi_ldc2 d_De_runYears_58 tw_1170 ?_
      obtain ⟨v_10, ev_10, h⟩ := zbind h
      refine zo_lrem 62 d_De_runYears_61 ev_10 rfl ?_
      refine zi_l2i d_De_runYears_62 ?_
      refine zi_iadd d_De_runYears_63 ?_
      refine zi_istore [(9, .int ((v_8.toInt32 * 8) + v_10.toInt32)), (4, .long q_9.1), (8, .int v_8.toInt32), (0, .ref a0), (1, .ref a1), (3, .int x3), (6, .int x6), (7, .int x7)] d_De_runYears_64 (by decide) rfl ?_
      refine zi_lload 1 d_De_runYears_66 rfl ?_
      obtain ⟨q_11, eq_11, h⟩ := zbind h
      refine zo_stat (k' := 0) (n' := 0) 71 [.long q_9.1] [] [.long q_11.1] (C_De_nextDraw n E S q_9.1 q_9.2 q_11.1 q_11.2 eq_11) d_De_runYears_68 tw_1165 tw_1163 tw_1164 tw_10 dd_De_nextDraw ⟨Nat.le_of_ble_eq_true rfl, Nat.le_of_ble_eq_true rfl, Nat.le_of_ble_eq_true rfl, Nat.le_of_ble_eq_true rfl⟩ (Nat.le_of_ble_eq_true rfl) rfl rfl rfl rfl ?_
      refine zi_lstore [(4, .long q_11.1), (9, .int ((v_8.toInt32 * 8) + v_10.toInt32)), (8, .int v_8.toInt32), (0, .ref a0), (1, .ref a1), (3, .int x3), (6, .int x6), (7, .int x7)] d_De_runYears_71 (by decide) rfl ?_
      refine zi_lload 0 d_De_runYears_73 rfl ?_
      refine zi_ldc2 d_De_runYears_75 tw_1171 ?_
      obtain ⟨v_12, ev_12, h⟩ := zbind h
      refine zo_lrem 79 d_De_runYears_78 ev_12 rfl ?_
      refine zi_l2i d_De_runYears_79 ?_
      refine zi_istore [(10, .int v_12.toInt32), (4, .long q_11.1), (9, .int ((v_8.toInt32 * 8) + v_10.toInt32)), (8, .int v_8.toInt32), (0, .ref a0), (1, .ref a1), (3, .int x3), (6, .int x6), (7, .int x7)] d_De_runYears_80 (by decide) rfl ?_
      refine zi_iload 0 d_De_runYears_82 rfl ?_
      refine zi_if_ne (tgt := 97) d_De_runYears_84 rfl (fun c_13 => ?_) (fun c_13 => ?_)
      · rw [if_neg c_13] at h
        refine zi_iload 0 d_De_runYears_97 rfl ?_
        refine zi_iconst 1 d_De_runYears_99 rfl ?_
        refine zi_icmp_ne (tgt := 122) d_De_runYears_100 rfl (fun c_15 => ?_) (fun c_15 => ?_)
        · rw [if_neg c_15] at h
          refine zi_lo [(0, .ref a0), (1, .ref a1), (3, .int x3), (4, .long q_11.1), (6, .int x6), (7, .int x7)] [4, 5, 6, 1, 7, 8] rfl ?_
          exact K_De_runYears_b122 n E S r10 a0 a1 x3 q_11.1 x6 x7 q_11.2 r M' hr10 h
        · rw [if_pos c_15] at h
          refine zi_aload_n 5 d_De_runYears_103 rfl ?_
          obtain ⟨b_16, eb_16, h⟩ := zbind h
          refine zo_getR 107 zkd_3 0 d_De_runYears_104 eb_16 rfl tw_44 rfl ?_
          refine zi_iload 2 d_De_runYears_107 rfl ?_
          obtain ⟨v_17, ev_17, h⟩ := zbind h
          refine zo_iald 110 d_De_runYears_109 ev_17 rfl ?_
          refine zi_bipush 9 d_De_runYears_110 rfl ?_
          refine zi_icmp_ge (tgt := 122) d_De_runYears_112 rfl (fun c_18 => ?_) (fun c_18 => ?_)
          · rw [if_pos c_18] at h
            refine zi_lo [(0, .ref a0), (1, .ref a1), (3, .int x3), (4, .long q_11.1), (6, .int x6), (7, .int x7)] [4, 5, 6, 1, 7, 8] rfl ?_
            exact K_De_runYears_b122 n E S r10 a0 a1 x3 q_11.1 x6 x7 q_11.2 r M' hr10 h
          · rw [if_neg c_18] at h
            refine zi_aload_n 5 d_De_runYears_115 rfl ?_
            refine zi_iload 2 d_De_runYears_116 rfl ?_
            obtain ⟨q_19, eq_19, h⟩ := zbind h
            refine zo_stat (k' := 0) (n' := 0) 121 [.ref a1, .int ((v_8.toInt32 * 8) + v_10.toInt32)] [] [.int q_19.1] (C_De_widen n E S a1 ((v_8.toInt32 * 8) + v_10.toInt32) q_11.2 q_19.1 q_19.2 eq_19) d_De_runYears_118 tw_912 tw_910 tw_911 tw_10 dd_De_widen ⟨Nat.le_of_ble_eq_true rfl, Nat.le_of_ble_eq_true rfl, Nat.le_of_ble_eq_true rfl, Nat.le_of_ble_eq_true rfl⟩ (Nat.le_of_ble_eq_true rfl) rfl rfl rfl rfl ?_
            refine zi_pop d_De_runYears_121 rfl ?_
            refine zi_lo [(0, .ref a0), (1, .ref a1), (3, .int x3), (4, .long q_11.1), (6, .int x6), (7, .int x7)] [4, 5, 6, 1, 7, 8] rfl ?_
            exact K_De_runYears_b122 n E S r10 a0 a1 x3 q_11.1 x6 x7 q_19.2 r M' hr10 h
      · rw [if_pos c_13] at h
        refine zi_aload_n 5 d_De_runYears_87 rfl ?_
        refine zi_iload 2 d_De_runYears_88 rfl ?_
        obtain ⟨q_14, eq_14, h⟩ := zbind h
        refine zo_stat (k' := 0) (n' := 0) 93 [.ref a1, .int ((v_8.toInt32 * 8) + v_10.toInt32)] [] [.int q_14.1] (C_De_changeBlock n E S a1 ((v_8.toInt32 * 8) + v_10.toInt32) q_11.2 q_14.1 q_14.2 eq_14) d_De_runYears_90 tw_909 tw_907 tw_908 tw_10 dd_De_changeBlock ⟨Nat.le_of_ble_eq_true rfl, Nat.le_of_ble_eq_true rfl, Nat.le_of_ble_eq_true rfl, Nat.le_of_ble_eq_true rfl⟩ (Nat.le_of_ble_eq_true rfl) rfl rfl rfl rfl ?_
        refine zi_pop d_De_runYears_93 rfl ?_
        refine zi_goto (tgt := 122) d_De_runYears_94 rfl ?_
        refine zi_lo [(0, .ref a0), (1, .ref a1), (3, .int x3), (4, .long q_11.1), (6, .int x6), (7, .int x7)] [4, 5, 6, 1, 7, 8] rfl ?_
        exact K_De_runYears_b122 n E S r10 a0 a1 x3 q_11.1 x6 x7 q_14.2 r M' hr10 h
theorem K_De_runYears_b10 (n : Nat) (E : zE) (S : zS) (a0 : Nat) (a1 : Nat) (x3 : Int32) (y4 : Int64) (x6 : Int32) (x7 : Int32) (M : zH) (r : Int32) (M' : zH)  (h : F_De_runYears_b10 n E S (a0, a1, x3, y4, x6, x7, M) = some (r, M')) : zG E Y_De_runYears (some (.int r), S, M') 10 [(0, .ref a0), (1, .ref a1), (3, .int x3), (4, .long y4), (6, .int x6), (7, .int x7)] [] S M 0 0 := by
  have key : ∀ (k : Nat) (a0 : Nat) (a1 : Nat) (x3 : Int32) (y4 : Int64) (x6 : Int32) (x7 : Int32) (M : zH), zfix (fun r10 s => F_De_runYears_L10 n E S r10 s.1 s.2.1 s.2.2.1 s.2.2.2.1 s.2.2.2.2.1 s.2.2.2.2.2.1 s.2.2.2.2.2.2) k (a0, a1, x3, y4, x6, x7, M) = some (r, M') → zG E Y_De_runYears (some (.int r), S, M') 10 [(0, .ref a0), (1, .ref a1), (3, .int x3), (4, .long y4), (6, .int x6), (7, .int x7)] [] S M 0 0 := by
    intro k
    induction k with
    | zero => intro a0 a1 x3 y4 x6 x7 M h; cases h
    | succ k ih => intro a0 a1 x3 y4 x6 x7 M h; exact K_De_runYears_L10 n E S _ a0 a1 x3 y4 x6 x7 M r M'  (fun a0 a1 x3 y4 x6 x7 M h => ih a0 a1 x3 y4 x6 x7 M h) h
  exact key n a0 a1 x3 y4 x6 x7 M h
theorem K_De_runYears (n : Nat) (E : zE) (S : zS) (a0 : Nat) (a1 : Nat) (x2 : Int32) (x3 : Int32) (M : zH) (r : Int32) (M' : zH)  (h : F_De_runYears n E S a0 a1 x2 x3 M = some (r, M')) : zG E Y_De_runYears (some (.int r), S, M') 0 [(0, .ref a0), (1, .ref a1), (2, .int x2), (3, .int x3)] [] S M 0 0 := by
  unfold F_De_runYears at h
  refine zi_iload_n 2 d_De_runYears_0 rfl ?_
  refine zi_i2l d_De_runYears_1 ?_
  refine zi_lstore [(4, .long x2.toInt64), (0, .ref a0), (1, .ref a1), (2, .int x2), (3, .int x3)] d_De_runYears_2 (by decide) rfl ?_
  refine zi_iconst 0 d_De_runYears_4 rfl ?_
  refine zi_istore [(6, .int 0), (4, .long x2.toInt64), (0, .ref a0), (1, .ref a1), (2, .int x2), (3, .int x3)] d_De_runYears_5 (by decide) rfl ?_
  refine zi_iconst 0 d_De_runYears_7 rfl ?_
  refine zi_istore [(7, .int 0), (6, .int 0), (4, .long x2.toInt64), (0, .ref a0), (1, .ref a1), (2, .int x2), (3, .int x3)] d_De_runYears_8 (by decide) rfl ?_
  refine zi_lo [(0, .ref a0), (1, .ref a1), (3, .int x3), (4, .long x2.toInt64), (6, .int 0), (7, .int 0)] [3, 4, 6, 2, 1, 0] rfl ?_
  exact K_De_runYears_b10 n E S a0 a1 x3 x2.toInt64 0 0 M r M'  h
theorem C_De_runYears (n : Nat) (E : zE) (S : zS) (a0 : Nat) (a1 : Nat) (x2 : Int32) (x3 : Int32) (M : zH) (r : Int32) (M' : zH) (h : F_De_runYears n E S a0 a1 x2 x3 M = some (r, M')) : zC E Y_De_runYears [.ref a0, .ref a1, .int x2, .int x3] S M (some (.int r), S, M') :=
  zC.of (Or.inl (show plainName "NightColander$Deeds" = true by decide)) (Nat.le_of_ble_eq_true rfl) (trivial) (K_De_runYears n E S a0 a1 x2 x3 M r M' h)
theorem d_NC_years_0 : decode (yB Y_NC_years) 0 = .ok (.iload_n 1, 1) := by decide +kernel
theorem d_NC_years_1 : decode (yB Y_NC_years) 1 = .ok (.iconst 0, 1) := by decide +kernel
theorem d_NC_years_2 : decode (yB Y_NC_years) 2 = .ok (.ldc_w 313, 3) := by decide +kernel
theorem d_NC_years_5 : decode (yB Y_NC_years) 5 = .ok (.invokestatic 132, 3) := by decide +kernel
theorem d_NC_years_8 : decode (yB Y_NC_years) 8 = .ok (.ifCond .eq 13, 3) := by decide +kernel
theorem d_NC_years_11 : decode (yB Y_NC_years) 11 = .ok (.iload_n 2, 1) := by decide +kernel
theorem d_NC_years_12 : decode (yB Y_NC_years) 12 = .ok (.iconst 1, 1) := by decide +kernel
theorem d_NC_years_13 : decode (yB Y_NC_years) 13 = .ok (.bipush 60, 2) := by decide +kernel
theorem d_NC_years_15 : decode (yB Y_NC_years) 15 = .ok (.invokestatic 132, 3) := by decide +kernel
theorem d_NC_years_18 : decode (yB Y_NC_years) 18 = .ok (.ifCond .ne 9, 3) := by decide +kernel
theorem d_NC_years_21 : decode (yB Y_NC_years) 21 = .ok (.aload_n 0, 1) := by decide +kernel
theorem d_NC_years_22 : decode (yB Y_NC_years) 22 = .ok (.iconst (-1), 1) := by decide +kernel
theorem d_NC_years_23 : decode (yB Y_NC_years) 23 = .ok (.invokevirtual 136, 3) := by decide +kernel
theorem d_NC_years_26 : decode (yB Y_NC_years) 26 = .ok (.ireturn, 1) := by decide +kernel
theorem d_NC_years_27 : decode (yB Y_NC_years) 27 = .ok (.aload_n 0, 1) := by decide +kernel
theorem d_NC_years_28 : decode (yB Y_NC_years) 28 = .ok (.getfield 26, 3) := by decide +kernel
theorem d_NC_years_31 : decode (yB Y_NC_years) 31 = .ok (.aload_n 0, 1) := by decide +kernel
theorem d_NC_years_32 : decode (yB Y_NC_years) 32 = .ok (.getfield 12, 3) := by decide +kernel
theorem d_NC_years_35 : decode (yB Y_NC_years) 35 = .ok (.invokevirtual 229, 3) := by decide +kernel
theorem d_NC_years_38 : decode (yB Y_NC_years) 38 = .ok (.aload_n 0, 1) := by decide +kernel
theorem d_NC_years_39 : decode (yB Y_NC_years) 39 = .ok (.iconst 1, 1) := by decide +kernel
theorem d_NC_years_40 : decode (yB Y_NC_years) 40 = .ok (.putfield 94, 3) := by decide +kernel
theorem d_NC_years_43 : decode (yB Y_NC_years) 43 = .ok (.aload_n 0, 1) := by decide +kernel
theorem d_NC_years_44 : decode (yB Y_NC_years) 44 = .ok (.aload_n 0, 1) := by decide +kernel
theorem d_NC_years_45 : decode (yB Y_NC_years) 45 = .ok (.getfield 70, 3) := by decide +kernel
theorem d_NC_years_48 : decode (yB Y_NC_years) 48 = .ok (.aload_n 0, 1) := by decide +kernel
theorem d_NC_years_49 : decode (yB Y_NC_years) 49 = .ok (.getfield 26, 3) := by decide +kernel
theorem d_NC_years_52 : decode (yB Y_NC_years) 52 = .ok (.iload_n 1, 1) := by decide +kernel
theorem d_NC_years_53 : decode (yB Y_NC_years) 53 = .ok (.iload_n 2, 1) := by decide +kernel
theorem d_NC_years_54 : decode (yB Y_NC_years) 54 = .ok (.invokevirtual 314, 3) := by decide +kernel
theorem d_NC_years_57 : decode (yB Y_NC_years) 57 = .ok (.invokevirtual 146, 3) := by decide +kernel
theorem d_NC_years_60 : decode (yB Y_NC_years) 60 = .ok (.ireturn, 1) := by decide +kernel
def F_NC_years_b21 (n : Nat) (E : zE) (S : zS) (a0 : Nat) (M : zH) : Option (Int32 × zH) :=
  (zck S a0 10).bind fun u_1 =>
  (F_NC_refuse n E S a0 (-1) M).bind fun q_2 =>
  some (q_2.1, q_2.2)
def F_NC_years (n : Nat) (E : zE) (S : zS) (a0 : Nat) (x1 : Int32) (x2 : Int32) (M : zH) : Option (Int32 × zH) :=
  (F_NC_within n E S x1 0 1000000 M).bind fun q_3 =>
  if q_3.1 = true then
    (F_NC_within n E S x2 1 60 q_3.2).bind fun q_5 =>
    if q_5.1 = true then
      (zgR S a0 10 3).bind fun b_7 =>
      (zgR S a0 10 0).bind fun b_8 =>
      (zck S b_7 3).bind fun u_9 =>
      (F_Ni_copyFrom n E S b_7 b_8 q_5.2).bind fun q_10 =>
      (zpZ S q_10 a0 10 14 1).bind fun m_11 =>
      (zgR S a0 10 10).bind fun b_12 =>
      (zck S b_12 0).bind fun u_13 =>
      (F_De_runYears n E S b_12 b_7 x1 x2 m_11).bind fun q_14 =>
      (F_NC_accept n E S a0 q_14.1 q_14.2).bind fun q_15 =>
      some (q_15.1, q_15.2)
    else
      F_NC_years_b21 n E S a0 q_5.2
  else
    F_NC_years_b21 n E S a0 q_3.2
theorem K_NC_years_b21 (n : Nat) (E : zE) (S : zS) (a0 : Nat) (M : zH) (r : Int32) (M' : zH)  (h : F_NC_years_b21 n E S a0 M = some (r, M')) : zG E Y_NC_years (some (.int r), S, M') 21 [(0, .ref a0)] [] S M 0 0 := by
  unfold F_NC_years_b21 at h
  refine zi_aload_n 0 d_NC_years_21 rfl ?_
  refine zi_iconst (-1) d_NC_years_22 rfl ?_
  obtain ⟨u_1, eu_1, h⟩ := zbind h
  obtain ⟨q_2, eq_2, h⟩ := zbind h
  refine zo_virt (k' := 0) (n' := 0) 26 [.int (-1)] [] [.int q_2.1] zkd_10 (zck_s eu_1) (C_NC_refuse n E S a0 (-1) M q_2.1 q_2.2 eq_2) d_NC_years_23 tw_448 tw_445 tw_447 ts_1 tw_1 dd_NC_refuse ⟨Nat.le_of_ble_eq_true rfl, Nat.le_of_ble_eq_true rfl, Nat.le_of_ble_eq_true rfl, Nat.le_of_ble_eq_true rfl⟩ (Nat.le_of_ble_eq_true rfl) rfl rfl rfl rfl ?_
  cases h
  exact zo_ret d_NC_years_26 (Nat.le_of_ble_eq_true rfl) (Nat.le_of_ble_eq_true rfl) rfl
theorem K_NC_years (n : Nat) (E : zE) (S : zS) (a0 : Nat) (x1 : Int32) (x2 : Int32) (M : zH) (r : Int32) (M' : zH)  (h : F_NC_years n E S a0 x1 x2 M = some (r, M')) : zG E Y_NC_years (some (.int r), S, M') 0 [(0, .ref a0), (1, .int x1), (2, .int x2)] [] S M 0 0 := by
  unfold F_NC_years at h
  refine zi_iload_n 1 d_NC_years_0 rfl ?_
  refine zi_iconst 0 d_NC_years_1 rfl ?_
  refine zi_ldcw d_NC_years_2 tw_1158 ?_
  obtain ⟨q_3, eq_3, h⟩ := zbind h
  refine zo_stat (k' := 0) (n' := 0) 8 [.int x1, .int 0, .int 1000000] [] [.int (bI q_3.1)] (C_NC_within n E S x1 0 1000000 M q_3.1 q_3.2 eq_3) d_NC_years_5 tw_399 tw_397 tw_398 tw_1 dd_NC_within ⟨Nat.le_of_ble_eq_true rfl, Nat.le_of_ble_eq_true rfl, Nat.le_of_ble_eq_true rfl, Nat.le_of_ble_eq_true rfl⟩ (Nat.le_of_ble_eq_true rfl) rfl rfl rfl rfl ?_
  refine zo_ifeqB d_NC_years_8 rfl 11 rfl (fun c_4 => ?_) (fun c_4 => ?_)
  · rw [if_neg c_4] at h
    refine zi_lo [(0, .ref a0)] [0] rfl ?_
    exact K_NC_years_b21 n E S a0 q_3.2 r M'  h
  · rw [if_pos c_4] at h
    refine zi_iload_n 2 d_NC_years_11 rfl ?_
    refine zi_iconst 1 d_NC_years_12 rfl ?_
    refine zi_bipush 60 d_NC_years_13 rfl ?_
    obtain ⟨q_5, eq_5, h⟩ := zbind h
    refine zo_stat (k' := 0) (n' := 0) 18 [.int x2, .int 1, .int 60] [] [.int (bI q_5.1)] (C_NC_within n E S x2 1 60 q_3.2 q_5.1 q_5.2 eq_5) d_NC_years_15 tw_399 tw_397 tw_398 tw_1 dd_NC_within ⟨Nat.le_of_ble_eq_true rfl, Nat.le_of_ble_eq_true rfl, Nat.le_of_ble_eq_true rfl, Nat.le_of_ble_eq_true rfl⟩ (Nat.le_of_ble_eq_true rfl) rfl rfl rfl rfl ?_
    refine zo_ifneB d_NC_years_18 rfl 21 rfl (fun c_6 => ?_) (fun c_6 => ?_)
    · rw [if_pos c_6] at h
      refine zi_aload_n 0 d_NC_years_27 rfl ?_
      obtain ⟨b_7, eb_7, h⟩ := zbind h
      refine zo_getR 31 zkd_10 3 d_NC_years_28 eb_7 rfl tw_335 rfl ?_
      refine zi_aload_n 0 d_NC_years_31 rfl ?_
      obtain ⟨b_8, eb_8, h⟩ := zbind h
      refine zo_getR 35 zkd_10 0 d_NC_years_32 eb_8 rfl tw_332 rfl ?_
      obtain ⟨u_9, eu_9, h⟩ := zbind h
      obtain ⟨q_10, eq_10, h⟩ := zbind h
      refine zo_virt (k' := 0) (n' := 0) 38 [.ref b_8] [] [] zkd_3 (zck_s eu_9) (C_Ni_copyFrom n E S b_7 b_8 q_5.2 q_10 eq_10) d_NC_years_35 tw_865 tw_862 tw_863 tw_864 tw_2 dd_Ni_copyFrom ⟨Nat.le_of_ble_eq_true rfl, Nat.le_of_ble_eq_true rfl, Nat.le_of_ble_eq_true rfl, Nat.le_of_ble_eq_true rfl⟩ (Nat.le_of_ble_eq_true rfl) rfl rfl rfl rfl ?_
      refine zi_aload_n 0 d_NC_years_38 rfl ?_
      refine zi_iconst 1 d_NC_years_39 rfl ?_
      obtain ⟨m_11, em_11, h⟩ := zbind h
      refine zo_putZ 43 zkd_10 14 d_NC_years_40 em_11 rfl rfl rfl tw_346 rfl ?_
      refine zi_aload_n 0 d_NC_years_43 rfl ?_
      refine zi_aload_n 0 d_NC_years_44 rfl ?_
      obtain ⟨b_12, eb_12, h⟩ := zbind h
      refine zo_getR 48 zkd_10 10 d_NC_years_45 eb_12 rfl tw_342 rfl ?_
      refine zi_aload_n 0 d_NC_years_48 rfl ?_
      refine zo_getR 52 zkd_10 3 d_NC_years_49 eb_7 rfl tw_335 rfl ?_
      refine zi_iload_n 1 d_NC_years_52 rfl ?_
      refine zi_iload_n 2 d_NC_years_53 rfl ?_
      obtain ⟨u_13, eu_13, h⟩ := zbind h
      obtain ⟨q_14, eq_14, h⟩ := zbind h
      refine zo_virt (k' := 0) (n' := 0) 57 [.ref b_7, .int x1, .int x2] [.ref a0] [.int q_14.1, .ref a0] zkd_0 (zck_s eu_13) (C_De_runYears n E S b_12 b_7 x1 x2 m_11 q_14.1 q_14.2 eq_14) d_NC_years_54 tw_1162 tw_1159 tw_1160 tw_1161 tw_10 dd_De_runYears ⟨Nat.le_of_ble_eq_true rfl, Nat.le_of_ble_eq_true rfl, Nat.le_of_ble_eq_true rfl, Nat.le_of_ble_eq_true rfl⟩ (Nat.le_of_ble_eq_true rfl) rfl rfl rfl rfl ?_
      obtain ⟨q_15, eq_15, h⟩ := zbind h
      refine zo_virt (k' := 0) (n' := 0) 60 [.int q_14.1] [] [.int q_15.1] zkd_10 (zgR_s eb_7).1 (C_NC_accept n E S a0 q_14.1 q_14.2 q_15.1 q_15.2 eq_15) d_NC_years_57 tw_456 tw_453 tw_455 ts_2 tw_1 dd_NC_accept ⟨Nat.le_of_ble_eq_true rfl, Nat.le_of_ble_eq_true rfl, Nat.le_of_ble_eq_true rfl, Nat.le_of_ble_eq_true rfl⟩ (Nat.le_of_ble_eq_true rfl) rfl rfl rfl rfl ?_
      cases h
      exact zo_ret d_NC_years_60 (Nat.le_of_ble_eq_true rfl) (Nat.le_of_ble_eq_true rfl) rfl
    · rw [if_neg c_6] at h
      refine zi_lo [(0, .ref a0)] [0] rfl ?_
      exact K_NC_years_b21 n E S a0 q_5.2 r M'  h
theorem C_NC_years (n : Nat) (E : zE) (S : zS) (a0 : Nat) (x1 : Int32) (x2 : Int32) (M : zH) (r : Int32) (M' : zH) (h : F_NC_years n E S a0 x1 x2 M = some (r, M')) : zC E Y_NC_years [.ref a0, .int x1, .int x2] S M (some (.int r), S, M') :=
  zC.of (Or.inl (show plainName "NightColander" = true by decide)) (Nat.le_of_ble_eq_true rfl) (trivial) (K_NC_years n E S a0 x1 x2 M r M' h)
theorem d_Ni_boresOfRing_0 : decode (yB Y_Ni_boresOfRing) 0 = .ok (.iconst 0, 1) := by decide +kernel
theorem d_Ni_boresOfRing_1 : decode (yB Y_Ni_boresOfRing) 1 = .ok (.istore_n 2, 1) := by decide +kernel
theorem d_Ni_boresOfRing_2 : decode (yB Y_Ni_boresOfRing) 2 = .ok (.iconst 0, 1) := by decide +kernel
theorem d_Ni_boresOfRing_3 : decode (yB Y_Ni_boresOfRing) 3 = .ok (.istore_n 3, 1) := by decide +kernel
theorem d_Ni_boresOfRing_4 : decode (yB Y_Ni_boresOfRing) 4 = .ok (.iload_n 3, 1) := by decide +kernel
theorem d_Ni_boresOfRing_5 : decode (yB Y_Ni_boresOfRing) 5 = .ok (.bipush 8, 2) := by decide +kernel
theorem d_Ni_boresOfRing_7 : decode (yB Y_Ni_boresOfRing) 7 = .ok (.if_icmp .ge 23, 3) := by decide +kernel
theorem d_Ni_boresOfRing_10 : decode (yB Y_Ni_boresOfRing) 10 = .ok (.iload_n 2, 1) := by decide +kernel
theorem d_Ni_boresOfRing_11 : decode (yB Y_Ni_boresOfRing) 11 = .ok (.aload_n 0, 1) := by decide +kernel
theorem d_Ni_boresOfRing_12 : decode (yB Y_Ni_boresOfRing) 12 = .ok (.getfield 9, 3) := by decide +kernel
theorem d_Ni_boresOfRing_15 : decode (yB Y_Ni_boresOfRing) 15 = .ok (.iload_n 1, 1) := by decide +kernel
theorem d_Ni_boresOfRing_16 : decode (yB Y_Ni_boresOfRing) 16 = .ok (.bipush 8, 2) := by decide +kernel
theorem d_Ni_boresOfRing_18 : decode (yB Y_Ni_boresOfRing) 18 = .ok (.imul, 1) := by decide +kernel
theorem d_Ni_boresOfRing_19 : decode (yB Y_Ni_boresOfRing) 19 = .ok (.iload_n 3, 1) := by decide +kernel
theorem d_Ni_boresOfRing_20 : decode (yB Y_Ni_boresOfRing) 20 = .ok (.iadd, 1) := by decide +kernel
theorem d_Ni_boresOfRing_21 : decode (yB Y_Ni_boresOfRing) 21 = .ok (.iaload, 1) := by decide +kernel
theorem d_Ni_boresOfRing_22 : decode (yB Y_Ni_boresOfRing) 22 = .ok (.iadd, 1) := by decide +kernel
theorem d_Ni_boresOfRing_23 : decode (yB Y_Ni_boresOfRing) 23 = .ok (.istore_n 2, 1) := by decide +kernel
theorem d_Ni_boresOfRing_24 : decode (yB Y_Ni_boresOfRing) 24 = .ok (.iinc 3 1, 3) := by decide +kernel
theorem d_Ni_boresOfRing_27 : decode (yB Y_Ni_boresOfRing) 27 = .ok (.goto (-23), 3) := by decide +kernel
theorem d_Ni_boresOfRing_30 : decode (yB Y_Ni_boresOfRing) 30 = .ok (.iload_n 2, 1) := by decide +kernel
theorem d_Ni_boresOfRing_31 : decode (yB Y_Ni_boresOfRing) 31 = .ok (.ireturn, 1) := by decide +kernel
def F_Ni_boresOfRing_L4 (n : Nat) (E : zE) (S : zS) (r4 : Nat × Int32 × Int32 × Int32 × zH → Option (Int32 × zH)) (a0 : Nat) (x1 : Int32) (x2 : Int32) (x3 : Int32) (M : zH) : Option (Int32 × zH) :=
  if 8 ≤ x3 then
    some (x2, M)
  else
    (zgR S a0 3 0).bind fun b_2 =>
    (zldI S M b_2 ((x1 * 8) + x3)).bind fun v_3 =>
    r4 (a0, x1, x2 + v_3, x3 + 1, M)
def F_Ni_boresOfRing_b4 (n : Nat) (E : zE) (S : zS) : Nat × Int32 × Int32 × Int32 × zH → Option (Int32 × zH) := zfix (fun r4 s => F_Ni_boresOfRing_L4 n E S r4 s.1 s.2.1 s.2.2.1 s.2.2.2.1 s.2.2.2.2) n
def F_Ni_boresOfRing (n : Nat) (E : zE) (S : zS) (a0 : Nat) (x1 : Int32) (M : zH) : Option (Int32 × zH) :=
  F_Ni_boresOfRing_b4 n E S (a0, x1, 0, 0, M)
theorem K_Ni_boresOfRing_L4 (n : Nat) (E : zE) (S : zS) (r4 : Nat × Int32 × Int32 × Int32 × zH → Option (Int32 × zH)) (a0 : Nat) (x1 : Int32) (x2 : Int32) (x3 : Int32) (M : zH) (r : Int32) (M' : zH) (hr4 : ∀ (a0 : Nat) (x1 : Int32) (x2 : Int32) (x3 : Int32) (M : zH), r4 (a0, x1, x2, x3, M) = some (r, M') → zG E Y_Ni_boresOfRing (some (.int r), S, M') 4 [(0, .ref a0), (1, .int x1), (2, .int x2), (3, .int x3)] [] S M 0 0) (h : F_Ni_boresOfRing_L4 n E S r4 a0 x1 x2 x3 M = some (r, M')) : zG E Y_Ni_boresOfRing (some (.int r), S, M') 4 [(0, .ref a0), (1, .int x1), (2, .int x2), (3, .int x3)] [] S M 0 0 := by
  unfold F_Ni_boresOfRing_L4 at h
  refine zi_iload_n 3 d_Ni_boresOfRing_4 rfl ?_
  refine zi_bipush 8 d_Ni_boresOfRing_5 rfl ?_
  refine zi_icmp_ge (tgt := 30) d_Ni_boresOfRing_7 rfl (fun c_1 => ?_) (fun c_1 => ?_)
  · rw [if_pos c_1] at h
    refine zi_iload_n 2 d_Ni_boresOfRing_30 rfl ?_
    cases h
    exact zo_ret d_Ni_boresOfRing_31 (Nat.le_of_ble_eq_true rfl) (Nat.le_of_ble_eq_true rfl) rfl
  · rw [if_neg c_1] at h
    refine zi_iload_n 2 d_Ni_boresOfRing_10 rfl ?_
    refine zi_aload_n 0 d_Ni_boresOfRing_11 rfl ?_
    obtain ⟨b_2, eb_2, h⟩ := zbind h
    refine zo_getR 15 zkd_3 0 d_Ni_boresOfRing_12 eb_2 rfl tw_41 rfl ?_
    refine zi_iload_n 1 d_Ni_boresOfRing_15 rfl ?_
    refine zi_bipush 8 d_Ni_boresOfRing_16 rfl ?_
    refine zi_imul d_Ni_boresOfRing_18 ?_
    refine zi_iload_n 3 d_Ni_boresOfRing_19 rfl ?_
    refine zi_iadd d_Ni_boresOfRing_20 ?_
    obtain ⟨v_3, ev_3, h⟩ := zbind h
    refine zo_iald 22 d_Ni_boresOfRing_21 ev_3 rfl ?_
    refine zi_iadd d_Ni_boresOfRing_22 ?_
    refine zi_istore_n [(2, .int (x2 + v_3)), (0, .ref a0), (1, .int x1), (3, .int x3)] d_Ni_boresOfRing_23 (by decide) rfl ?_
    refine zi_iinc 3 (x3 + 1) [(3, .int (x3 + 1)), (2, .int (x2 + v_3)), (0, .ref a0), (1, .int x1)] d_Ni_boresOfRing_24 rfl rfl (by decide) rfl ?_
    refine zi_goto (tgt := 4) d_Ni_boresOfRing_27 rfl ?_
    refine zi_lo [(0, .ref a0), (1, .int x1), (2, .int (x2 + v_3)), (3, .int (x3 + 1))] [2, 3, 1, 0] rfl ?_
    exact hr4 a0 x1 (x2 + v_3) (x3 + 1) M h
theorem K_Ni_boresOfRing_b4 (n : Nat) (E : zE) (S : zS) (a0 : Nat) (x1 : Int32) (x2 : Int32) (x3 : Int32) (M : zH) (r : Int32) (M' : zH)  (h : F_Ni_boresOfRing_b4 n E S (a0, x1, x2, x3, M) = some (r, M')) : zG E Y_Ni_boresOfRing (some (.int r), S, M') 4 [(0, .ref a0), (1, .int x1), (2, .int x2), (3, .int x3)] [] S M 0 0 := by
  have key : ∀ (k : Nat) (a0 : Nat) (x1 : Int32) (x2 : Int32) (x3 : Int32) (M : zH), zfix (fun r4 s => F_Ni_boresOfRing_L4 n E S r4 s.1 s.2.1 s.2.2.1 s.2.2.2.1 s.2.2.2.2) k (a0, x1, x2, x3, M) = some (r, M') → zG E Y_Ni_boresOfRing (some (.int r), S, M') 4 [(0, .ref a0), (1, .int x1), (2, .int x2), (3, .int x3)] [] S M 0 0 := by
    intro k
    induction k with
    | zero => intro a0 x1 x2 x3 M h; cases h
    | succ k ih => intro a0 x1 x2 x3 M h; exact K_Ni_boresOfRing_L4 n E S _ a0 x1 x2 x3 M r M'  (fun a0 x1 x2 x3 M h => ih a0 x1 x2 x3 M h) h
  exact key n a0 x1 x2 x3 M h
theorem K_Ni_boresOfRing (n : Nat) (E : zE) (S : zS) (a0 : Nat) (x1 : Int32) (M : zH) (r : Int32) (M' : zH)  (h : F_Ni_boresOfRing n E S a0 x1 M = some (r, M')) : zG E Y_Ni_boresOfRing (some (.int r), S, M') 0 [(0, .ref a0), (1, .int x1)] [] S M 0 0 := by
  unfold F_Ni_boresOfRing at h
  refine zi_iconst 0 d_Ni_boresOfRing_0 rfl ?_
  refine zi_istore_n [(2, .int 0), (0, .ref a0), (1, .int x1)] d_Ni_boresOfRing_1 (by decide) rfl ?_
  refine zi_iconst 0 d_Ni_boresOfRing_2 rfl ?_
  refine zi_istore_n [(3, .int 0), (2, .int 0), (0, .ref a0), (1, .int x1)] d_Ni_boresOfRing_3 (by decide) rfl ?_
  refine zi_lo [(0, .ref a0), (1, .int x1), (2, .int 0), (3, .int 0)] [2, 3, 1, 0] rfl ?_
  exact K_Ni_boresOfRing_b4 n E S a0 x1 0 0 M r M'  h
theorem C_Ni_boresOfRing (n : Nat) (E : zE) (S : zS) (a0 : Nat) (x1 : Int32) (M : zH) (r : Int32) (M' : zH) (h : F_Ni_boresOfRing n E S a0 x1 M = some (r, M')) : zC E Y_Ni_boresOfRing [.ref a0, .int x1] S M (some (.int r), S, M') :=
  zC.of (Or.inl (show plainName "NightColander$Night" = true by decide)) (Nat.le_of_ble_eq_true rfl) (trivial) (K_Ni_boresOfRing n E S a0 x1 M r M' h)
theorem d_NC_drawn_0 : decode (yB Y_NC_drawn) 0 = .ok (.aload_n 0, 1) := by decide +kernel
theorem d_NC_drawn_1 : decode (yB Y_NC_drawn) 1 = .ok (.getfield 94, 3) := by decide +kernel
theorem d_NC_drawn_4 : decode (yB Y_NC_drawn) 4 = .ok (.ifCond .ne 5, 3) := by decide +kernel
theorem d_NC_drawn_7 : decode (yB Y_NC_drawn) 7 = .ok (.iconst (-1), 1) := by decide +kernel
theorem d_NC_drawn_8 : decode (yB Y_NC_drawn) 8 = .ok (.ireturn, 1) := by decide +kernel
theorem d_NC_drawn_9 : decode (yB Y_NC_drawn) 9 = .ok (.iload_n 2, 1) := by decide +kernel
theorem d_NC_drawn_10 : decode (yB Y_NC_drawn) 10 = .ok (.tableswitch 92 0 2 #[26, 46, 67], 26) := by decide +kernel
theorem d_NC_drawn_36 : decode (yB Y_NC_drawn) 36 = .ok (.iload_n 1, 1) := by decide +kernel
theorem d_NC_drawn_37 : decode (yB Y_NC_drawn) 37 = .ok (.invokestatic 111, 3) := by decide +kernel
theorem d_NC_drawn_40 : decode (yB Y_NC_drawn) 40 = .ok (.ifCond .eq 14, 3) := by decide +kernel
theorem d_NC_drawn_43 : decode (yB Y_NC_drawn) 43 = .ok (.aload_n 0, 1) := by decide +kernel
theorem d_NC_drawn_44 : decode (yB Y_NC_drawn) 44 = .ok (.getfield 26, 3) := by decide +kernel
theorem d_NC_drawn_47 : decode (yB Y_NC_drawn) 47 = .ok (.iload_n 1, 1) := by decide +kernel
theorem d_NC_drawn_48 : decode (yB Y_NC_drawn) 48 = .ok (.invokevirtual 317, 3) := by decide +kernel
theorem d_NC_drawn_51 : decode (yB Y_NC_drawn) 51 = .ok (.goto 4, 3) := by decide +kernel
theorem d_NC_drawn_54 : decode (yB Y_NC_drawn) 54 = .ok (.iconst (-1), 1) := by decide +kernel
theorem d_NC_drawn_55 : decode (yB Y_NC_drawn) 55 = .ok (.ireturn, 1) := by decide +kernel
theorem d_NC_drawn_56 : decode (yB Y_NC_drawn) 56 = .ok (.iload_n 1, 1) := by decide +kernel
theorem d_NC_drawn_57 : decode (yB Y_NC_drawn) 57 = .ok (.invokestatic 111, 3) := by decide +kernel
theorem d_NC_drawn_60 : decode (yB Y_NC_drawn) 60 = .ok (.ifCond .eq 15, 3) := by decide +kernel
theorem d_NC_drawn_63 : decode (yB Y_NC_drawn) 63 = .ok (.aload_n 0, 1) := by decide +kernel
theorem d_NC_drawn_64 : decode (yB Y_NC_drawn) 64 = .ok (.getfield 26, 3) := by decide +kernel
theorem d_NC_drawn_67 : decode (yB Y_NC_drawn) 67 = .ok (.getfield 140, 3) := by decide +kernel
theorem d_NC_drawn_70 : decode (yB Y_NC_drawn) 70 = .ok (.iload_n 1, 1) := by decide +kernel
theorem d_NC_drawn_71 : decode (yB Y_NC_drawn) 71 = .ok (.iaload, 1) := by decide +kernel
theorem d_NC_drawn_72 : decode (yB Y_NC_drawn) 72 = .ok (.goto 4, 3) := by decide +kernel
theorem d_NC_drawn_75 : decode (yB Y_NC_drawn) 75 = .ok (.iconst (-1), 1) := by decide +kernel
theorem d_NC_drawn_76 : decode (yB Y_NC_drawn) 76 = .ok (.ireturn, 1) := by decide +kernel
theorem d_NC_drawn_77 : decode (yB Y_NC_drawn) 77 = .ok (.aload_n 0, 1) := by decide +kernel
theorem d_NC_drawn_78 : decode (yB Y_NC_drawn) 78 = .ok (.getfield 26, 3) := by decide +kernel
theorem d_NC_drawn_81 : decode (yB Y_NC_drawn) 81 = .ok (.iload_n 1, 1) := by decide +kernel
theorem d_NC_drawn_82 : decode (yB Y_NC_drawn) 82 = .ok (.invokevirtual 161, 3) := by decide +kernel
theorem d_NC_drawn_85 : decode (yB Y_NC_drawn) 85 = .ok (.ifCond .eq 15, 3) := by decide +kernel
theorem d_NC_drawn_88 : decode (yB Y_NC_drawn) 88 = .ok (.aload_n 0, 1) := by decide +kernel
theorem d_NC_drawn_89 : decode (yB Y_NC_drawn) 89 = .ok (.getfield 26, 3) := by decide +kernel
theorem d_NC_drawn_92 : decode (yB Y_NC_drawn) 92 = .ok (.getfield 167, 3) := by decide +kernel
theorem d_NC_drawn_95 : decode (yB Y_NC_drawn) 95 = .ok (.iload_n 1, 1) := by decide +kernel
theorem d_NC_drawn_96 : decode (yB Y_NC_drawn) 96 = .ok (.iaload, 1) := by decide +kernel
theorem d_NC_drawn_97 : decode (yB Y_NC_drawn) 97 = .ok (.goto 4, 3) := by decide +kernel
theorem d_NC_drawn_100 : decode (yB Y_NC_drawn) 100 = .ok (.iconst (-1), 1) := by decide +kernel
theorem d_NC_drawn_101 : decode (yB Y_NC_drawn) 101 = .ok (.ireturn, 1) := by decide +kernel
theorem d_NC_drawn_102 : decode (yB Y_NC_drawn) 102 = .ok (.iconst (-1), 1) := by decide +kernel
theorem d_NC_drawn_103 : decode (yB Y_NC_drawn) 103 = .ok (.ireturn, 1) := by decide +kernel
def F_NC_drawn (n : Nat) (E : zE) (S : zS) (a0 : Nat) (x1 : Int32) (x2 : Int32) (M : zH) : Option (Int32 × zH) :=
  (zgI S M a0 10 14).bind fun v_1 =>
  if v_1 = 0 then
    some ((-1), M)
  else
    if x2 = 0 then
      (F_NC_isRing n E S x1 M).bind fun q_4 =>
      if q_4.1 = true then
        (zgR S a0 10 3).bind fun b_6 =>
        (zck S b_6 3).bind fun u_7 =>
        (F_Ni_boresOfRing n E S b_6 x1 q_4.2).bind fun q_8 =>
        some (q_8.1, q_8.2)
      else
        some ((-1), q_4.2)
    else
    if x2 = 1 then
      (F_NC_isRing n E S x1 M).bind fun q_10 =>
      if q_10.1 = true then
        (zgR S a0 10 3).bind fun b_12 =>
        (zgR S b_12 3 2).bind fun b_13 =>
        (zldI S q_10.2 b_13 x1).bind fun v_14 =>
        some (v_14, q_10.2)
      else
        some ((-1), q_10.2)
    else
    if x2 = 2 then
      (zgR S a0 10 3).bind fun b_16 =>
      (zck S b_16 3).bind fun u_17 =>
      (F_Ni_hasBucket n E S b_16 x1 M).bind fun q_18 =>
      if q_18.1 = true then
        (zgR S b_16 3 4).bind fun b_20 =>
        (zldI S q_18.2 b_20 x1).bind fun v_21 =>
        some (v_21, q_18.2)
      else
        some ((-1), q_18.2)
    else
      some ((-1), M)
theorem K_NC_drawn (n : Nat) (E : zE) (S : zS) (a0 : Nat) (x1 : Int32) (x2 : Int32) (M : zH) (r : Int32) (M' : zH)  (h : F_NC_drawn n E S a0 x1 x2 M = some (r, M')) : zG E Y_NC_drawn (some (.int r), S, M') 0 [(0, .ref a0), (1, .int x1), (2, .int x2)] [] S M 0 0 := by
  unfold F_NC_drawn at h
  refine zi_aload_n 0 d_NC_drawn_0 rfl ?_
  obtain ⟨v_1, ev_1, h⟩ := zbind h
  refine zo_getI 4 zkd_10 14 d_NC_drawn_1 ev_1 rfl tw_346 rfl ?_
  refine zi_if_ne (tgt := 9) d_NC_drawn_4 rfl (fun c_2 => ?_) (fun c_2 => ?_)
  · rw [if_neg c_2] at h
    refine zi_iload_n 2 d_NC_drawn_9 rfl ?_
    by_cases c_3 : x2 = 0
    · rw [if_pos c_3] at h
      refine zo_tab (tgt := 36) 0 d_NC_drawn_10 c_3 (by decide) (by decide) rfl rfl ?_
      refine zi_iload_n 1 d_NC_drawn_36 rfl ?_
      obtain ⟨q_4, eq_4, h⟩ := zbind h
      refine zo_stat (k' := 0) (n' := 0) 40 [.int x1] [] [.int (bI q_4.1)] (C_NC_isRing n E S x1 M q_4.1 q_4.2 eq_4) d_NC_drawn_37 tw_396 tw_394 tw_395 tw_1 dd_NC_isRing ⟨Nat.le_of_ble_eq_true rfl, Nat.le_of_ble_eq_true rfl, Nat.le_of_ble_eq_true rfl, Nat.le_of_ble_eq_true rfl⟩ (Nat.le_of_ble_eq_true rfl) rfl rfl rfl rfl ?_
      refine zo_ifeqB d_NC_drawn_40 rfl 43 rfl (fun c_5 => ?_) (fun c_5 => ?_)
      · rw [if_neg c_5] at h
        refine zi_iconst (-1) d_NC_drawn_54 rfl ?_
        cases h
        exact zo_ret d_NC_drawn_55 (Nat.le_of_ble_eq_true rfl) (Nat.le_of_ble_eq_true rfl) rfl
      · rw [if_pos c_5] at h
        refine zi_aload_n 0 d_NC_drawn_43 rfl ?_
        obtain ⟨b_6, eb_6, h⟩ := zbind h
        refine zo_getR 47 zkd_10 3 d_NC_drawn_44 eb_6 rfl tw_335 rfl ?_
        refine zi_iload_n 1 d_NC_drawn_47 rfl ?_
        obtain ⟨u_7, eu_7, h⟩ := zbind h
        obtain ⟨q_8, eq_8, h⟩ := zbind h
        refine zo_virt (k' := 0) (n' := 0) 51 [.int x1] [] [.int q_8.1] zkd_3 (zck_s eu_7) (C_Ni_boresOfRing n E S b_6 x1 q_4.2 q_8.1 q_8.2 eq_8) d_NC_drawn_48 tw_1179 tw_1176 tw_1177 tw_1178 tw_2 dd_Ni_boresOfRing ⟨Nat.le_of_ble_eq_true rfl, Nat.le_of_ble_eq_true rfl, Nat.le_of_ble_eq_true rfl, Nat.le_of_ble_eq_true rfl⟩ (Nat.le_of_ble_eq_true rfl) rfl rfl rfl rfl ?_
        refine zi_goto (tgt := 55) d_NC_drawn_51 rfl ?_
        cases h
        exact zo_ret d_NC_drawn_55 (Nat.le_of_ble_eq_true rfl) (Nat.le_of_ble_eq_true rfl) rfl
    rw [if_neg c_3] at h
    by_cases c_9 : x2 = 1
    · rw [if_pos c_9] at h
      refine zo_tab (tgt := 56) 1 d_NC_drawn_10 c_9 (by decide) (by decide) rfl rfl ?_
      refine zi_iload_n 1 d_NC_drawn_56 rfl ?_
      obtain ⟨q_10, eq_10, h⟩ := zbind h
      refine zo_stat (k' := 0) (n' := 0) 60 [.int x1] [] [.int (bI q_10.1)] (C_NC_isRing n E S x1 M q_10.1 q_10.2 eq_10) d_NC_drawn_57 tw_396 tw_394 tw_395 tw_1 dd_NC_isRing ⟨Nat.le_of_ble_eq_true rfl, Nat.le_of_ble_eq_true rfl, Nat.le_of_ble_eq_true rfl, Nat.le_of_ble_eq_true rfl⟩ (Nat.le_of_ble_eq_true rfl) rfl rfl rfl rfl ?_
      refine zo_ifeqB d_NC_drawn_60 rfl 63 rfl (fun c_11 => ?_) (fun c_11 => ?_)
      · rw [if_neg c_11] at h
        refine zi_iconst (-1) d_NC_drawn_75 rfl ?_
        cases h
        exact zo_ret d_NC_drawn_76 (Nat.le_of_ble_eq_true rfl) (Nat.le_of_ble_eq_true rfl) rfl
      · rw [if_pos c_11] at h
        refine zi_aload_n 0 d_NC_drawn_63 rfl ?_
        obtain ⟨b_12, eb_12, h⟩ := zbind h
        refine zo_getR 67 zkd_10 3 d_NC_drawn_64 eb_12 rfl tw_335 rfl ?_
        obtain ⟨b_13, eb_13, h⟩ := zbind h
        refine zo_getR 70 zkd_3 2 d_NC_drawn_67 eb_13 rfl tw_53 rfl ?_
        refine zi_iload_n 1 d_NC_drawn_70 rfl ?_
        obtain ⟨v_14, ev_14, h⟩ := zbind h
        refine zo_iald 72 d_NC_drawn_71 ev_14 rfl ?_
        refine zi_goto (tgt := 76) d_NC_drawn_72 rfl ?_
        cases h
        exact zo_ret d_NC_drawn_76 (Nat.le_of_ble_eq_true rfl) (Nat.le_of_ble_eq_true rfl) rfl
    rw [if_neg c_9] at h
    by_cases c_15 : x2 = 2
    · rw [if_pos c_15] at h
      refine zo_tab (tgt := 77) 2 d_NC_drawn_10 c_15 (by decide) (by decide) rfl rfl ?_
      refine zi_aload_n 0 d_NC_drawn_77 rfl ?_
      obtain ⟨b_16, eb_16, h⟩ := zbind h
      refine zo_getR 81 zkd_10 3 d_NC_drawn_78 eb_16 rfl tw_335 rfl ?_
      refine zi_iload_n 1 d_NC_drawn_81 rfl ?_
      obtain ⟨u_17, eu_17, h⟩ := zbind h
      obtain ⟨q_18, eq_18, h⟩ := zbind h
      refine zo_virt (k' := 0) (n' := 0) 85 [.int x1] [] [.int (bI q_18.1)] zkd_3 (zck_s eu_17) (C_Ni_hasBucket n E S b_16 x1 M q_18.1 q_18.2 eq_18) d_NC_drawn_82 tw_479 tw_476 tw_477 tw_478 tw_2 dd_Ni_hasBucket ⟨Nat.le_of_ble_eq_true rfl, Nat.le_of_ble_eq_true rfl, Nat.le_of_ble_eq_true rfl, Nat.le_of_ble_eq_true rfl⟩ (Nat.le_of_ble_eq_true rfl) rfl rfl rfl rfl ?_
      refine zo_ifeqB d_NC_drawn_85 rfl 88 rfl (fun c_19 => ?_) (fun c_19 => ?_)
      · rw [if_neg c_19] at h
        refine zi_iconst (-1) d_NC_drawn_100 rfl ?_
        cases h
        exact zo_ret d_NC_drawn_101 (Nat.le_of_ble_eq_true rfl) (Nat.le_of_ble_eq_true rfl) rfl
      · rw [if_pos c_19] at h
        refine zi_aload_n 0 d_NC_drawn_88 rfl ?_
        refine zo_getR 92 zkd_10 3 d_NC_drawn_89 eb_16 rfl tw_335 rfl ?_
        obtain ⟨b_20, eb_20, h⟩ := zbind h
        refine zo_getR 95 zkd_3 4 d_NC_drawn_92 eb_20 rfl tw_63 rfl ?_
        refine zi_iload_n 1 d_NC_drawn_95 rfl ?_
        obtain ⟨v_21, ev_21, h⟩ := zbind h
        refine zo_iald 97 d_NC_drawn_96 ev_21 rfl ?_
        refine zi_goto (tgt := 101) d_NC_drawn_97 rfl ?_
        cases h
        exact zo_ret d_NC_drawn_101 (Nat.le_of_ble_eq_true rfl) (Nat.le_of_ble_eq_true rfl) rfl
    rw [if_neg c_15] at h
    refine zo_tabP (tgt := 102) 0 3 d_NC_drawn_10 rfl rfl (fun j hj => by match j, hj with | 0, _ => exact c_3  | 1, _ => exact c_9  | 2, _ => exact c_15 | j + 3, hj => exact absurd hj (by omega)) rfl ?_
    refine zi_iconst (-1) d_NC_drawn_102 rfl ?_
    cases h
    exact zo_ret d_NC_drawn_103 (Nat.le_of_ble_eq_true rfl) (Nat.le_of_ble_eq_true rfl) rfl
  · rw [if_pos c_2] at h
    refine zi_iconst (-1) d_NC_drawn_7 rfl ?_
    cases h
    exact zo_ret d_NC_drawn_8 (Nat.le_of_ble_eq_true rfl) (Nat.le_of_ble_eq_true rfl) rfl
theorem C_NC_drawn (n : Nat) (E : zE) (S : zS) (a0 : Nat) (x1 : Int32) (x2 : Int32) (M : zH) (r : Int32) (M' : zH) (h : F_NC_drawn n E S a0 x1 x2 M = some (r, M')) : zC E Y_NC_drawn [.ref a0, .int x1, .int x2] S M (some (.int r), S, M') :=
  zC.of (Or.inl (show plainName "NightColander" = true by decide)) (Nat.le_of_ble_eq_true rfl) (trivial) (K_NC_drawn n E S a0 x1 x2 M r M' h)
theorem d_NC_image_0 : decode (yB Y_NC_image) 0 = .ok (.iload_n 1, 1) := by decide +kernel
theorem d_NC_image_1 : decode (yB Y_NC_image) 1 = .ok (.iconst 0, 1) := by decide +kernel
theorem d_NC_image_2 : decode (yB Y_NC_image) 2 = .ok (.iconst 1, 1) := by decide +kernel
theorem d_NC_image_3 : decode (yB Y_NC_image) 3 = .ok (.invokestatic 132, 3) := by decide +kernel
theorem d_NC_image_6 : decode (yB Y_NC_image) 6 = .ok (.ifCond .ne 9, 3) := by decide +kernel
theorem d_NC_image_9 : decode (yB Y_NC_image) 9 = .ok (.aload_n 0, 1) := by decide +kernel
theorem d_NC_image_10 : decode (yB Y_NC_image) 10 = .ok (.iconst (-1), 1) := by decide +kernel
theorem d_NC_image_11 : decode (yB Y_NC_image) 11 = .ok (.invokevirtual 136, 3) := by decide +kernel
theorem d_NC_image_14 : decode (yB Y_NC_image) 14 = .ok (.ireturn, 1) := by decide +kernel
theorem d_NC_image_15 : decode (yB Y_NC_image) 15 = .ok (.aload_n 0, 1) := by decide +kernel
theorem d_NC_image_16 : decode (yB Y_NC_image) 16 = .ok (.getfield 18, 3) := by decide +kernel
theorem d_NC_image_19 : decode (yB Y_NC_image) 19 = .ok (.iload_n 1, 1) := by decide +kernel
theorem d_NC_image_20 : decode (yB Y_NC_image) 20 = .ok (.aaload, 1) := by decide +kernel
theorem d_NC_image_21 : decode (yB Y_NC_image) 21 = .ok (.aload_n 0, 1) := by decide +kernel
theorem d_NC_image_22 : decode (yB Y_NC_image) 22 = .ok (.getfield 12, 3) := by decide +kernel
theorem d_NC_image_25 : decode (yB Y_NC_image) 25 = .ok (.invokevirtual 229, 3) := by decide +kernel
theorem d_NC_image_28 : decode (yB Y_NC_image) 28 = .ok (.aload_n 0, 1) := by decide +kernel
theorem d_NC_image_29 : decode (yB Y_NC_image) 29 = .ok (.getfield 22, 3) := by decide +kernel
theorem d_NC_image_32 : decode (yB Y_NC_image) 32 = .ok (.iload_n 1, 1) := by decide +kernel
theorem d_NC_image_33 : decode (yB Y_NC_image) 33 = .ok (.iconst 1, 1) := by decide +kernel
theorem d_NC_image_34 : decode (yB Y_NC_image) 34 = .ok (.bastore, 1) := by decide +kernel
theorem d_NC_image_35 : decode (yB Y_NC_image) 35 = .ok (.aload_n 0, 1) := by decide +kernel
theorem d_NC_image_36 : decode (yB Y_NC_image) 36 = .ok (.iconst 0, 1) := by decide +kernel
theorem d_NC_image_37 : decode (yB Y_NC_image) 37 = .ok (.invokevirtual 146, 3) := by decide +kernel
theorem d_NC_image_40 : decode (yB Y_NC_image) 40 = .ok (.ireturn, 1) := by decide +kernel
def F_NC_image (n : Nat) (E : zE) (S : zS) (a0 : Nat) (x1 : Int32) (M : zH) : Option (Int32 × zH) :=
  (F_NC_within n E S x1 0 1 M).bind fun q_1 =>
  if q_1.1 = true then
    (zgR S a0 10 1).bind fun b_3 =>
    (zldR S q_1.2 17 b_3 x1).bind fun o_4 =>
    (zgR S a0 10 0).bind fun b_5 =>
    (o_4).bind fun g_6 =>
    (zck S g_6 3).bind fun u_7 =>
    (F_Ni_copyFrom n E S g_6 b_5 q_1.2).bind fun q_8 =>
    (zgR S a0 10 2).bind fun b_9 =>
    (zstZ S q_8 b_9 x1 1).bind fun m_10 =>
    (F_NC_accept n E S a0 0 m_10).bind fun q_11 =>
    some (q_11.1, q_11.2)
  else
    (zck S a0 10).bind fun u_12 =>
    (F_NC_refuse n E S a0 (-1) q_1.2).bind fun q_13 =>
    some (q_13.1, q_13.2)
theorem K_NC_image (n : Nat) (E : zE) (S : zS) (a0 : Nat) (x1 : Int32) (M : zH) (r : Int32) (M' : zH)  (h : F_NC_image n E S a0 x1 M = some (r, M')) : zG E Y_NC_image (some (.int r), S, M') 0 [(0, .ref a0), (1, .int x1)] [] S M 0 0 := by
  unfold F_NC_image at h
  refine zi_iload_n 1 d_NC_image_0 rfl ?_
  refine zi_iconst 0 d_NC_image_1 rfl ?_
  refine zi_iconst 1 d_NC_image_2 rfl ?_
  obtain ⟨q_1, eq_1, h⟩ := zbind h
  refine zo_stat (k' := 0) (n' := 0) 6 [.int x1, .int 0, .int 1] [] [.int (bI q_1.1)] (C_NC_within n E S x1 0 1 M q_1.1 q_1.2 eq_1) d_NC_image_3 tw_399 tw_397 tw_398 tw_1 dd_NC_within ⟨Nat.le_of_ble_eq_true rfl, Nat.le_of_ble_eq_true rfl, Nat.le_of_ble_eq_true rfl, Nat.le_of_ble_eq_true rfl⟩ (Nat.le_of_ble_eq_true rfl) rfl rfl rfl rfl ?_
  refine zo_ifneB d_NC_image_6 rfl 9 rfl (fun c_2 => ?_) (fun c_2 => ?_)
  · rw [if_pos c_2] at h
    refine zi_aload_n 0 d_NC_image_15 rfl ?_
    obtain ⟨b_3, eb_3, h⟩ := zbind h
    refine zo_getR 19 zkd_10 1 d_NC_image_16 eb_3 rfl tw_333 rfl ?_
    refine zi_iload_n 1 d_NC_image_19 rfl ?_
    obtain ⟨o_4, eo_4, h⟩ := zbind h
    refine zo_aald 21 d_NC_image_20 eo_4 (by decide) rfl ?_
    refine zi_aload_n 0 d_NC_image_21 rfl ?_
    obtain ⟨b_5, eb_5, h⟩ := zbind h
    refine zo_getR 25 zkd_10 0 d_NC_image_22 eb_5 rfl tw_332 rfl ?_
    obtain ⟨g_6, eg_6, h⟩ := zbind h
    simp only [eg_6, va_rf]
    obtain ⟨u_7, eu_7, h⟩ := zbind h
    obtain ⟨q_8, eq_8, h⟩ := zbind h
    refine zo_virt (k' := 0) (n' := 0) 28 [.ref b_5] [] [] zkd_3 (zck_s eu_7) (C_Ni_copyFrom n E S g_6 b_5 q_1.2 q_8 eq_8) d_NC_image_25 tw_865 tw_862 tw_863 tw_864 tw_2 dd_Ni_copyFrom ⟨Nat.le_of_ble_eq_true rfl, Nat.le_of_ble_eq_true rfl, Nat.le_of_ble_eq_true rfl, Nat.le_of_ble_eq_true rfl⟩ (Nat.le_of_ble_eq_true rfl) rfl rfl rfl rfl ?_
    refine zi_aload_n 0 d_NC_image_28 rfl ?_
    obtain ⟨b_9, eb_9, h⟩ := zbind h
    refine zo_getR 32 zkd_10 2 d_NC_image_29 eb_9 rfl tw_334 rfl ?_
    refine zi_iload_n 1 d_NC_image_32 rfl ?_
    refine zi_iconst 1 d_NC_image_33 rfl ?_
    obtain ⟨m_10, em_10, h⟩ := zbind h
    refine zo_zast 35 d_NC_image_34 em_10 rfl ?_
    refine zi_aload_n 0 d_NC_image_35 rfl ?_
    refine zi_iconst 0 d_NC_image_36 rfl ?_
    obtain ⟨q_11, eq_11, h⟩ := zbind h
    refine zo_virt (k' := 0) (n' := 0) 40 [.int 0] [] [.int q_11.1] zkd_10 (zgR_s eb_3).1 (C_NC_accept n E S a0 0 m_10 q_11.1 q_11.2 eq_11) d_NC_image_37 tw_456 tw_453 tw_455 ts_2 tw_1 dd_NC_accept ⟨Nat.le_of_ble_eq_true rfl, Nat.le_of_ble_eq_true rfl, Nat.le_of_ble_eq_true rfl, Nat.le_of_ble_eq_true rfl⟩ (Nat.le_of_ble_eq_true rfl) rfl rfl rfl rfl ?_
    cases h
    exact zo_ret d_NC_image_40 (Nat.le_of_ble_eq_true rfl) (Nat.le_of_ble_eq_true rfl) rfl
  · rw [if_neg c_2] at h
    refine zi_aload_n 0 d_NC_image_9 rfl ?_
    refine zi_iconst (-1) d_NC_image_10 rfl ?_
    obtain ⟨u_12, eu_12, h⟩ := zbind h
    obtain ⟨q_13, eq_13, h⟩ := zbind h
    refine zo_virt (k' := 0) (n' := 0) 14 [.int (-1)] [] [.int q_13.1] zkd_10 (zck_s eu_12) (C_NC_refuse n E S a0 (-1) q_1.2 q_13.1 q_13.2 eq_13) d_NC_image_11 tw_448 tw_445 tw_447 ts_1 tw_1 dd_NC_refuse ⟨Nat.le_of_ble_eq_true rfl, Nat.le_of_ble_eq_true rfl, Nat.le_of_ble_eq_true rfl, Nat.le_of_ble_eq_true rfl⟩ (Nat.le_of_ble_eq_true rfl) rfl rfl rfl rfl ?_
    cases h
    exact zo_ret d_NC_image_14 (Nat.le_of_ble_eq_true rfl) (Nat.le_of_ble_eq_true rfl) rfl
theorem C_NC_image (n : Nat) (E : zE) (S : zS) (a0 : Nat) (x1 : Int32) (M : zH) (r : Int32) (M' : zH) (h : F_NC_image n E S a0 x1 M = some (r, M')) : zC E Y_NC_image [.ref a0, .int x1] S M (some (.int r), S, M') :=
  zC.of (Or.inl (show plainName "NightColander" = true by decide)) (Nat.le_of_ble_eq_true rfl) (trivial) (K_NC_image n E S a0 x1 M r M' h)
theorem d_NC_back_0 : decode (yB Y_NC_back) 0 = .ok (.iload_n 1, 1) := by decide +kernel
theorem d_NC_back_1 : decode (yB Y_NC_back) 1 = .ok (.iconst 0, 1) := by decide +kernel
theorem d_NC_back_2 : decode (yB Y_NC_back) 2 = .ok (.iconst 1, 1) := by decide +kernel
theorem d_NC_back_3 : decode (yB Y_NC_back) 3 = .ok (.invokestatic 132, 3) := by decide +kernel
theorem d_NC_back_6 : decode (yB Y_NC_back) 6 = .ok (.ifCond .ne 9, 3) := by decide +kernel
theorem d_NC_back_9 : decode (yB Y_NC_back) 9 = .ok (.aload_n 0, 1) := by decide +kernel
theorem d_NC_back_10 : decode (yB Y_NC_back) 10 = .ok (.iconst (-1), 1) := by decide +kernel
theorem d_NC_back_11 : decode (yB Y_NC_back) 11 = .ok (.invokevirtual 136, 3) := by decide +kernel
theorem d_NC_back_14 : decode (yB Y_NC_back) 14 = .ok (.ireturn, 1) := by decide +kernel
theorem d_NC_back_15 : decode (yB Y_NC_back) 15 = .ok (.aload_n 0, 1) := by decide +kernel
theorem d_NC_back_16 : decode (yB Y_NC_back) 16 = .ok (.getfield 22, 3) := by decide +kernel
theorem d_NC_back_19 : decode (yB Y_NC_back) 19 = .ok (.iload_n 1, 1) := by decide +kernel
theorem d_NC_back_20 : decode (yB Y_NC_back) 20 = .ok (.baload, 1) := by decide +kernel
theorem d_NC_back_21 : decode (yB Y_NC_back) 21 = .ok (.ifCond .ne 10, 3) := by decide +kernel
theorem d_NC_back_24 : decode (yB Y_NC_back) 24 = .ok (.aload_n 0, 1) := by decide +kernel
theorem d_NC_back_25 : decode (yB Y_NC_back) 25 = .ok (.bipush (-2), 2) := by decide +kernel
theorem d_NC_back_27 : decode (yB Y_NC_back) 27 = .ok (.invokevirtual 136, 3) := by decide +kernel
theorem d_NC_back_30 : decode (yB Y_NC_back) 30 = .ok (.ireturn, 1) := by decide +kernel
theorem d_NC_back_31 : decode (yB Y_NC_back) 31 = .ok (.aload_n 0, 1) := by decide +kernel
theorem d_NC_back_32 : decode (yB Y_NC_back) 32 = .ok (.getfield 12, 3) := by decide +kernel
theorem d_NC_back_35 : decode (yB Y_NC_back) 35 = .ok (.aload_n 0, 1) := by decide +kernel
theorem d_NC_back_36 : decode (yB Y_NC_back) 36 = .ok (.getfield 18, 3) := by decide +kernel
theorem d_NC_back_39 : decode (yB Y_NC_back) 39 = .ok (.iload_n 1, 1) := by decide +kernel
theorem d_NC_back_40 : decode (yB Y_NC_back) 40 = .ok (.aaload, 1) := by decide +kernel
theorem d_NC_back_41 : decode (yB Y_NC_back) 41 = .ok (.invokevirtual 229, 3) := by decide +kernel
theorem d_NC_back_44 : decode (yB Y_NC_back) 44 = .ok (.aload_n 0, 1) := by decide +kernel
theorem d_NC_back_45 : decode (yB Y_NC_back) 45 = .ok (.getfield 35, 3) := by decide +kernel
theorem d_NC_back_48 : decode (yB Y_NC_back) 48 = .ok (.invokevirtual 143, 3) := by decide +kernel
theorem d_NC_back_51 : decode (yB Y_NC_back) 51 = .ok (.aload_n 0, 1) := by decide +kernel
theorem d_NC_back_52 : decode (yB Y_NC_back) 52 = .ok (.iconst 0, 1) := by decide +kernel
theorem d_NC_back_53 : decode (yB Y_NC_back) 53 = .ok (.invokevirtual 146, 3) := by decide +kernel
theorem d_NC_back_56 : decode (yB Y_NC_back) 56 = .ok (.ireturn, 1) := by decide +kernel
def F_NC_back (n : Nat) (E : zE) (S : zS) (a0 : Nat) (x1 : Int32) (M : zH) : Option (Int32 × zH) :=
  (F_NC_within n E S x1 0 1 M).bind fun q_1 =>
  if q_1.1 = true then
    (zgR S a0 10 2).bind fun b_3 =>
    (zldZ S q_1.2 b_3 x1).bind fun v_4 =>
    if v_4 = 0 then
      (F_NC_refuse n E S a0 (-2) q_1.2).bind fun q_6 =>
      some (q_6.1, q_6.2)
    else
      (zgR S a0 10 0).bind fun b_7 =>
      (zgR S a0 10 1).bind fun b_8 =>
      (zldR S q_1.2 17 b_8 x1).bind fun o_9 =>
      (o_9).bind fun g_10 =>
      (zck S b_7 3).bind fun u_11 =>
      (F_Ni_copyFrom n E S b_7 g_10 q_1.2).bind fun q_12 =>
      (zgR S a0 10 5).bind fun b_13 =>
      (zck S b_13 6).bind fun u_14 =>
      (F_Pt_clear n E S b_13 q_12).bind fun q_15 =>
      (F_NC_accept n E S a0 0 q_15).bind fun q_16 =>
      some (q_16.1, q_16.2)
  else
    (zck S a0 10).bind fun u_17 =>
    (F_NC_refuse n E S a0 (-1) q_1.2).bind fun q_18 =>
    some (q_18.1, q_18.2)
theorem K_NC_back (n : Nat) (E : zE) (S : zS) (a0 : Nat) (x1 : Int32) (M : zH) (r : Int32) (M' : zH)  (h : F_NC_back n E S a0 x1 M = some (r, M')) : zG E Y_NC_back (some (.int r), S, M') 0 [(0, .ref a0), (1, .int x1)] [] S M 0 0 := by
  unfold F_NC_back at h
  refine zi_iload_n 1 d_NC_back_0 rfl ?_
  refine zi_iconst 0 d_NC_back_1 rfl ?_
  refine zi_iconst 1 d_NC_back_2 rfl ?_
  obtain ⟨q_1, eq_1, h⟩ := zbind h
  refine zo_stat (k' := 0) (n' := 0) 6 [.int x1, .int 0, .int 1] [] [.int (bI q_1.1)] (C_NC_within n E S x1 0 1 M q_1.1 q_1.2 eq_1) d_NC_back_3 tw_399 tw_397 tw_398 tw_1 dd_NC_within ⟨Nat.le_of_ble_eq_true rfl, Nat.le_of_ble_eq_true rfl, Nat.le_of_ble_eq_true rfl, Nat.le_of_ble_eq_true rfl⟩ (Nat.le_of_ble_eq_true rfl) rfl rfl rfl rfl ?_
  refine zo_ifneB d_NC_back_6 rfl 9 rfl (fun c_2 => ?_) (fun c_2 => ?_)
  · rw [if_pos c_2] at h
    refine zi_aload_n 0 d_NC_back_15 rfl ?_
    obtain ⟨b_3, eb_3, h⟩ := zbind h
    refine zo_getR 19 zkd_10 2 d_NC_back_16 eb_3 rfl tw_334 rfl ?_
    refine zi_iload_n 1 d_NC_back_19 rfl ?_
    obtain ⟨v_4, ev_4, h⟩ := zbind h
    refine zo_zald 21 d_NC_back_20 ev_4 rfl ?_
    refine zi_if_ne (tgt := 31) d_NC_back_21 rfl (fun c_5 => ?_) (fun c_5 => ?_)
    · rw [if_neg c_5] at h
      refine zi_aload_n 0 d_NC_back_31 rfl ?_
      obtain ⟨b_7, eb_7, h⟩ := zbind h
      refine zo_getR 35 zkd_10 0 d_NC_back_32 eb_7 rfl tw_332 rfl ?_
      refine zi_aload_n 0 d_NC_back_35 rfl ?_
      obtain ⟨b_8, eb_8, h⟩ := zbind h
      refine zo_getR 39 zkd_10 1 d_NC_back_36 eb_8 rfl tw_333 rfl ?_
      refine zi_iload_n 1 d_NC_back_39 rfl ?_
      obtain ⟨o_9, eo_9, h⟩ := zbind h
      refine zo_aald 41 d_NC_back_40 eo_9 (by decide) rfl ?_
      obtain ⟨g_10, eg_10, h⟩ := zbind h
      simp only [eg_10, va_rf]
      obtain ⟨u_11, eu_11, h⟩ := zbind h
      obtain ⟨q_12, eq_12, h⟩ := zbind h
      refine zo_virt (k' := 0) (n' := 0) 44 [.ref g_10] [] [] zkd_3 (zck_s eu_11) (C_Ni_copyFrom n E S b_7 g_10 q_1.2 q_12 eq_12) d_NC_back_41 tw_865 tw_862 tw_863 tw_864 tw_2 dd_Ni_copyFrom ⟨Nat.le_of_ble_eq_true rfl, Nat.le_of_ble_eq_true rfl, Nat.le_of_ble_eq_true rfl, Nat.le_of_ble_eq_true rfl⟩ (Nat.le_of_ble_eq_true rfl) rfl rfl rfl rfl ?_
      refine zi_aload_n 0 d_NC_back_44 rfl ?_
      obtain ⟨b_13, eb_13, h⟩ := zbind h
      refine zo_getR 48 zkd_10 5 d_NC_back_45 eb_13 rfl tw_337 rfl ?_
      obtain ⟨u_14, eu_14, h⟩ := zbind h
      obtain ⟨q_15, eq_15, h⟩ := zbind h
      refine zo_virt (k' := 0) (n' := 0) 51 [] [] [] zkd_6 (zck_s eu_14) (C_Pt_clear n E S b_13 q_12 q_15 eq_15) d_NC_back_48 tw_452 tw_449 tw_450 tw_451 tw_4 dd_Pt_clear ⟨Nat.le_of_ble_eq_true rfl, Nat.le_of_ble_eq_true rfl, Nat.le_of_ble_eq_true rfl, Nat.le_of_ble_eq_true rfl⟩ (Nat.le_of_ble_eq_true rfl) rfl rfl rfl rfl ?_
      refine zi_aload_n 0 d_NC_back_51 rfl ?_
      refine zi_iconst 0 d_NC_back_52 rfl ?_
      obtain ⟨q_16, eq_16, h⟩ := zbind h
      refine zo_virt (k' := 0) (n' := 0) 56 [.int 0] [] [.int q_16.1] zkd_10 (zgR_s eb_3).1 (C_NC_accept n E S a0 0 q_15 q_16.1 q_16.2 eq_16) d_NC_back_53 tw_456 tw_453 tw_455 ts_2 tw_1 dd_NC_accept ⟨Nat.le_of_ble_eq_true rfl, Nat.le_of_ble_eq_true rfl, Nat.le_of_ble_eq_true rfl, Nat.le_of_ble_eq_true rfl⟩ (Nat.le_of_ble_eq_true rfl) rfl rfl rfl rfl ?_
      cases h
      exact zo_ret d_NC_back_56 (Nat.le_of_ble_eq_true rfl) (Nat.le_of_ble_eq_true rfl) rfl
    · rw [if_pos c_5] at h
      refine zi_aload_n 0 d_NC_back_24 rfl ?_
      refine zi_bipush (-2) d_NC_back_25 rfl ?_
      obtain ⟨q_6, eq_6, h⟩ := zbind h
      refine zo_virt (k' := 0) (n' := 0) 30 [.int (-2)] [] [.int q_6.1] zkd_10 (zgR_s eb_3).1 (C_NC_refuse n E S a0 (-2) q_1.2 q_6.1 q_6.2 eq_6) d_NC_back_27 tw_448 tw_445 tw_447 ts_1 tw_1 dd_NC_refuse ⟨Nat.le_of_ble_eq_true rfl, Nat.le_of_ble_eq_true rfl, Nat.le_of_ble_eq_true rfl, Nat.le_of_ble_eq_true rfl⟩ (Nat.le_of_ble_eq_true rfl) rfl rfl rfl rfl ?_
      cases h
      exact zo_ret d_NC_back_30 (Nat.le_of_ble_eq_true rfl) (Nat.le_of_ble_eq_true rfl) rfl
  · rw [if_neg c_2] at h
    refine zi_aload_n 0 d_NC_back_9 rfl ?_
    refine zi_iconst (-1) d_NC_back_10 rfl ?_
    obtain ⟨u_17, eu_17, h⟩ := zbind h
    obtain ⟨q_18, eq_18, h⟩ := zbind h
    refine zo_virt (k' := 0) (n' := 0) 14 [.int (-1)] [] [.int q_18.1] zkd_10 (zck_s eu_17) (C_NC_refuse n E S a0 (-1) q_1.2 q_18.1 q_18.2 eq_18) d_NC_back_11 tw_448 tw_445 tw_447 ts_1 tw_1 dd_NC_refuse ⟨Nat.le_of_ble_eq_true rfl, Nat.le_of_ble_eq_true rfl, Nat.le_of_ble_eq_true rfl, Nat.le_of_ble_eq_true rfl⟩ (Nat.le_of_ble_eq_true rfl) rfl rfl rfl rfl ?_
    cases h
    exact zo_ret d_NC_back_14 (Nat.le_of_ble_eq_true rfl) (Nat.le_of_ble_eq_true rfl) rfl
theorem C_NC_back (n : Nat) (E : zE) (S : zS) (a0 : Nat) (x1 : Int32) (M : zH) (r : Int32) (M' : zH) (h : F_NC_back n E S a0 x1 M = some (r, M')) : zC E Y_NC_back [.ref a0, .int x1] S M (some (.int r), S, M') :=
  zC.of (Or.inl (show plainName "NightColander" = true by decide)) (Nat.le_of_ble_eq_true rfl) (trivial) (K_NC_back n E S a0 x1 M r M' h)
theorem d_Ni_blockedHoles_0 : decode (yB Y_Ni_blockedHoles) 0 = .ok (.iconst 0, 1) := by decide +kernel
theorem d_Ni_blockedHoles_1 : decode (yB Y_Ni_blockedHoles) 1 = .ok (.istore_n 1, 1) := by decide +kernel
theorem d_Ni_blockedHoles_2 : decode (yB Y_Ni_blockedHoles) 2 = .ok (.aload_n 0, 1) := by decide +kernel
theorem d_Ni_blockedHoles_3 : decode (yB Y_Ni_blockedHoles) 3 = .ok (.getfield 15, 3) := by decide +kernel
theorem d_Ni_blockedHoles_6 : decode (yB Y_Ni_blockedHoles) 6 = .ok (.astore_n 2, 1) := by decide +kernel
theorem d_Ni_blockedHoles_7 : decode (yB Y_Ni_blockedHoles) 7 = .ok (.aload_n 2, 1) := by decide +kernel
theorem d_Ni_blockedHoles_8 : decode (yB Y_Ni_blockedHoles) 8 = .ok (.arraylength, 1) := by decide +kernel
theorem d_Ni_blockedHoles_9 : decode (yB Y_Ni_blockedHoles) 9 = .ok (.istore_n 3, 1) := by decide +kernel
theorem d_Ni_blockedHoles_10 : decode (yB Y_Ni_blockedHoles) 10 = .ok (.iconst 0, 1) := by decide +kernel
theorem d_Ni_blockedHoles_11 : decode (yB Y_Ni_blockedHoles) 11 = .ok (.istore 4, 2) := by decide +kernel
theorem d_Ni_blockedHoles_13 : decode (yB Y_Ni_blockedHoles) 13 = .ok (.iload 4, 2) := by decide +kernel
theorem d_Ni_blockedHoles_15 : decode (yB Y_Ni_blockedHoles) 15 = .ok (.iload_n 3, 1) := by decide +kernel
theorem d_Ni_blockedHoles_16 : decode (yB Y_Ni_blockedHoles) 16 = .ok (.if_icmp .ge 28, 3) := by decide +kernel
theorem d_Ni_blockedHoles_19 : decode (yB Y_Ni_blockedHoles) 19 = .ok (.aload_n 2, 1) := by decide +kernel
theorem d_Ni_blockedHoles_20 : decode (yB Y_Ni_blockedHoles) 20 = .ok (.iload 4, 2) := by decide +kernel
theorem d_Ni_blockedHoles_22 : decode (yB Y_Ni_blockedHoles) 22 = .ok (.baload, 1) := by decide +kernel
theorem d_Ni_blockedHoles_23 : decode (yB Y_Ni_blockedHoles) 23 = .ok (.istore 5, 2) := by decide +kernel
theorem d_Ni_blockedHoles_25 : decode (yB Y_Ni_blockedHoles) 25 = .ok (.iload_n 1, 1) := by decide +kernel
theorem d_Ni_blockedHoles_26 : decode (yB Y_Ni_blockedHoles) 26 = .ok (.iload 5, 2) := by decide +kernel
theorem d_Ni_blockedHoles_28 : decode (yB Y_Ni_blockedHoles) 28 = .ok (.ifCond .eq 7, 3) := by decide +kernel
theorem d_Ni_blockedHoles_31 : decode (yB Y_Ni_blockedHoles) 31 = .ok (.iconst 1, 1) := by decide +kernel
theorem d_Ni_blockedHoles_32 : decode (yB Y_Ni_blockedHoles) 32 = .ok (.goto 4, 3) := by decide +kernel
theorem d_Ni_blockedHoles_35 : decode (yB Y_Ni_blockedHoles) 35 = .ok (.iconst 0, 1) := by decide +kernel
theorem d_Ni_blockedHoles_36 : decode (yB Y_Ni_blockedHoles) 36 = .ok (.iadd, 1) := by decide +kernel
theorem d_Ni_blockedHoles_37 : decode (yB Y_Ni_blockedHoles) 37 = .ok (.istore_n 1, 1) := by decide +kernel
theorem d_Ni_blockedHoles_38 : decode (yB Y_Ni_blockedHoles) 38 = .ok (.iinc 4 1, 3) := by decide +kernel
theorem d_Ni_blockedHoles_41 : decode (yB Y_Ni_blockedHoles) 41 = .ok (.goto (-28), 3) := by decide +kernel
theorem d_Ni_blockedHoles_44 : decode (yB Y_Ni_blockedHoles) 44 = .ok (.iload_n 1, 1) := by decide +kernel
theorem d_Ni_blockedHoles_45 : decode (yB Y_Ni_blockedHoles) 45 = .ok (.ireturn, 1) := by decide +kernel
def F_Ni_blockedHoles_b36 (n : Nat) (E : zE) (S : zS) (r13 : Int32 × Nat × Int32 × Int32 × zH → Option (Int32 × zH)) (a2 : Nat) (x3 : Int32) (x4 : Int32) (s0 : Int32) (s1 : Int32) (M : zH) : Option (Int32 × zH) :=
  r13 (s1 + s0, a2, x3, x4 + 1, M)
def F_Ni_blockedHoles_L13 (n : Nat) (E : zE) (S : zS) (r13 : Int32 × Nat × Int32 × Int32 × zH → Option (Int32 × zH)) (x1 : Int32) (a2 : Nat) (x3 : Int32) (x4 : Int32) (M : zH) : Option (Int32 × zH) :=
  if x3 ≤ x4 then
    some (x1, M)
  else
    (zldZ S M a2 x4).bind fun v_2 =>
    if v_2 = 0 then
      F_Ni_blockedHoles_b36 n E S r13 a2 x3 x4 0 x1 M
    else
      F_Ni_blockedHoles_b36 n E S r13 a2 x3 x4 1 x1 M
def F_Ni_blockedHoles_b13 (n : Nat) (E : zE) (S : zS) : Int32 × Nat × Int32 × Int32 × zH → Option (Int32 × zH) := zfix (fun r13 s => F_Ni_blockedHoles_L13 n E S r13 s.1 s.2.1 s.2.2.1 s.2.2.2.1 s.2.2.2.2) n
def F_Ni_blockedHoles (n : Nat) (E : zE) (S : zS) (a0 : Nat) (M : zH) : Option (Int32 × zH) :=
  (zgR S a0 3 1).bind fun b_4 =>
  (zlen S 13 b_4).bind fun v_5 =>
  F_Ni_blockedHoles_b13 n E S (0, b_4, v_5, 0, M)
theorem K_Ni_blockedHoles_b36 (n : Nat) (E : zE) (S : zS) (r13 : Int32 × Nat × Int32 × Int32 × zH → Option (Int32 × zH)) (a2 : Nat) (x3 : Int32) (x4 : Int32) (s0 : Int32) (s1 : Int32) (M : zH) (r : Int32) (M' : zH) (hr13 : ∀ (x1 : Int32) (a2 : Nat) (x3 : Int32) (x4 : Int32) (M : zH), r13 (x1, a2, x3, x4, M) = some (r, M') → zG E Y_Ni_blockedHoles (some (.int r), S, M') 13 [(1, .int x1), (2, .ref a2), (3, .int x3), (4, .int x4)] [] S M 0 0) (h : F_Ni_blockedHoles_b36 n E S r13 a2 x3 x4 s0 s1 M = some (r, M')) : zG E Y_Ni_blockedHoles (some (.int r), S, M') 36 [(2, .ref a2), (3, .int x3), (4, .int x4)] [.int s0, .int s1] S M 0 0 := by
  unfold F_Ni_blockedHoles_b36 at h
  refine zi_iadd d_Ni_blockedHoles_36 ?_
  refine zi_istore_n [(1, .int (s1 + s0)), (2, .ref a2), (3, .int x3), (4, .int x4)] d_Ni_blockedHoles_37 (by decide) rfl ?_
  refine zi_iinc 3 (x4 + 1) [(4, .int (x4 + 1)), (1, .int (s1 + s0)), (2, .ref a2), (3, .int x3)] d_Ni_blockedHoles_38 rfl rfl (by decide) rfl ?_
  refine zi_goto (tgt := 13) d_Ni_blockedHoles_41 rfl ?_
  refine zi_lo [(1, .int (s1 + s0)), (2, .ref a2), (3, .int x3), (4, .int (x4 + 1))] [1, 2, 3, 0] rfl ?_
  exact hr13 (s1 + s0) a2 x3 (x4 + 1) M h
theorem K_Ni_blockedHoles_L13 (n : Nat) (E : zE) (S : zS) (r13 : Int32 × Nat × Int32 × Int32 × zH → Option (Int32 × zH)) (x1 : Int32) (a2 : Nat) (x3 : Int32) (x4 : Int32) (M : zH) (r : Int32) (M' : zH) (hr13 : ∀ (x1 : Int32) (a2 : Nat) (x3 : Int32) (x4 : Int32) (M : zH), r13 (x1, a2, x3, x4, M) = some (r, M') → zG E Y_Ni_blockedHoles (some (.int r), S, M') 13 [(1, .int x1), (2, .ref a2), (3, .int x3), (4, .int x4)] [] S M 0 0) (h : F_Ni_blockedHoles_L13 n E S r13 x1 a2 x3 x4 M = some (r, M')) : zG E Y_Ni_blockedHoles (some (.int r), S, M') 13 [(1, .int x1), (2, .ref a2), (3, .int x3), (4, .int x4)] [] S M 0 0 := by
  unfold F_Ni_blockedHoles_L13 at h
  refine zi_iload 3 d_Ni_blockedHoles_13 rfl ?_
  refine zi_iload_n 2 d_Ni_blockedHoles_15 rfl ?_
  refine zi_icmp_ge (tgt := 44) d_Ni_blockedHoles_16 rfl (fun c_1 => ?_) (fun c_1 => ?_)
  · rw [if_pos c_1] at h
    refine zi_iload_n 0 d_Ni_blockedHoles_44 rfl ?_
    cases h
    exact zo_ret d_Ni_blockedHoles_45 (Nat.le_of_ble_eq_true rfl) (Nat.le_of_ble_eq_true rfl) rfl
  · rw [if_neg c_1] at h
    refine zi_aload_n 1 d_Ni_blockedHoles_19 rfl ?_
    refine zi_iload 3 d_Ni_blockedHoles_20 rfl ?_
    obtain ⟨v_2, ev_2, h⟩ := zbind h
    refine zo_zald 23 d_Ni_blockedHoles_22 ev_2 rfl ?_
    refine zi_istore [(5, .int v_2), (1, .int x1), (2, .ref a2), (3, .int x3), (4, .int x4)] d_Ni_blockedHoles_23 (by decide) rfl ?_
    refine zi_iload_n 1 d_Ni_blockedHoles_25 rfl ?_
    refine zi_iload 0 d_Ni_blockedHoles_26 rfl ?_
    refine zi_if_eq (tgt := 35) d_Ni_blockedHoles_28 rfl (fun c_3 => ?_) (fun c_3 => ?_)
    · rw [if_pos c_3] at h
      refine zi_iconst 0 d_Ni_blockedHoles_35 rfl ?_
      refine zi_lo [(2, .ref a2), (3, .int x3), (4, .int x4)] [2, 3, 4] rfl ?_
      exact K_Ni_blockedHoles_b36 n E S r13 a2 x3 x4 0 x1 M r M' hr13 h
    · rw [if_neg c_3] at h
      refine zi_iconst 1 d_Ni_blockedHoles_31 rfl ?_
      refine zi_goto (tgt := 36) d_Ni_blockedHoles_32 rfl ?_
      refine zi_lo [(2, .ref a2), (3, .int x3), (4, .int x4)] [2, 3, 4] rfl ?_
      exact K_Ni_blockedHoles_b36 n E S r13 a2 x3 x4 1 x1 M r M' hr13 h
theorem K_Ni_blockedHoles_b13 (n : Nat) (E : zE) (S : zS) (x1 : Int32) (a2 : Nat) (x3 : Int32) (x4 : Int32) (M : zH) (r : Int32) (M' : zH)  (h : F_Ni_blockedHoles_b13 n E S (x1, a2, x3, x4, M) = some (r, M')) : zG E Y_Ni_blockedHoles (some (.int r), S, M') 13 [(1, .int x1), (2, .ref a2), (3, .int x3), (4, .int x4)] [] S M 0 0 := by
  have key : ∀ (k : Nat) (x1 : Int32) (a2 : Nat) (x3 : Int32) (x4 : Int32) (M : zH), zfix (fun r13 s => F_Ni_blockedHoles_L13 n E S r13 s.1 s.2.1 s.2.2.1 s.2.2.2.1 s.2.2.2.2) k (x1, a2, x3, x4, M) = some (r, M') → zG E Y_Ni_blockedHoles (some (.int r), S, M') 13 [(1, .int x1), (2, .ref a2), (3, .int x3), (4, .int x4)] [] S M 0 0 := by
    intro k
    induction k with
    | zero => intro x1 a2 x3 x4 M h; cases h
    | succ k ih => intro x1 a2 x3 x4 M h; exact K_Ni_blockedHoles_L13 n E S _ x1 a2 x3 x4 M r M'  (fun x1 a2 x3 x4 M h => ih x1 a2 x3 x4 M h) h
  exact key n x1 a2 x3 x4 M h
theorem K_Ni_blockedHoles (n : Nat) (E : zE) (S : zS) (a0 : Nat) (M : zH) (r : Int32) (M' : zH)  (h : F_Ni_blockedHoles n E S a0 M = some (r, M')) : zG E Y_Ni_blockedHoles (some (.int r), S, M') 0 [(0, .ref a0)] [] S M 0 0 := by
  unfold F_Ni_blockedHoles at h
  refine zi_iconst 0 d_Ni_blockedHoles_0 rfl ?_
  refine zi_istore_n [(1, .int 0), (0, .ref a0)] d_Ni_blockedHoles_1 (by decide) rfl ?_
  refine zi_aload_n 1 d_Ni_blockedHoles_2 rfl ?_
  obtain ⟨b_4, eb_4, h⟩ := zbind h
  refine zo_getR 6 zkd_3 1 d_Ni_blockedHoles_3 eb_4 rfl tw_46 rfl ?_
  refine zi_astore_n [(2, .ref b_4), (1, .int 0), (0, .ref a0)] d_Ni_blockedHoles_6 (by decide) rfl ?_
  refine zi_aload_n 0 d_Ni_blockedHoles_7 rfl ?_
  obtain ⟨v_5, ev_5, h⟩ := zbind h
  refine zo_alen 9 d_Ni_blockedHoles_8 ev_5 (by decide) rfl ?_
  refine zi_istore_n [(3, .int v_5), (2, .ref b_4), (1, .int 0), (0, .ref a0)] d_Ni_blockedHoles_9 (by decide) rfl ?_
  refine zi_iconst 0 d_Ni_blockedHoles_10 rfl ?_
  refine zi_istore [(4, .int 0), (3, .int v_5), (2, .ref b_4), (1, .int 0), (0, .ref a0)] d_Ni_blockedHoles_11 (by decide) rfl ?_
  refine zi_lo [(1, .int 0), (2, .ref b_4), (3, .int v_5), (4, .int 0)] [3, 2, 1, 0] rfl ?_
  exact K_Ni_blockedHoles_b13 n E S 0 b_4 v_5 0 M r M'  h
theorem C_Ni_blockedHoles (n : Nat) (E : zE) (S : zS) (a0 : Nat) (M : zH) (r : Int32) (M' : zH) (h : F_Ni_blockedHoles n E S a0 M = some (r, M')) : zC E Y_Ni_blockedHoles [.ref a0] S M (some (.int r), S, M') :=
  zC.of (Or.inl (show plainName "NightColander$Night" = true by decide)) (Nat.le_of_ble_eq_true rfl) (trivial) (K_Ni_blockedHoles n E S a0 M r M' h)
theorem d_NC_count_0 : decode (yB Y_NC_count) 0 = .ok (.iload_n 1, 1) := by decide +kernel
theorem d_NC_count_1 : decode (yB Y_NC_count) 1 = .ok (.bipush 7, 2) := by decide +kernel
theorem d_NC_count_3 : decode (yB Y_NC_count) 3 = .ok (.bipush 11, 2) := by decide +kernel
theorem d_NC_count_5 : decode (yB Y_NC_count) 5 = .ok (.invokestatic 132, 3) := by decide +kernel
theorem d_NC_count_8 : decode (yB Y_NC_count) 8 = .ok (.ifCond .eq 13, 3) := by decide +kernel
theorem d_NC_count_11 : decode (yB Y_NC_count) 11 = .ok (.aload_n 0, 1) := by decide +kernel
theorem d_NC_count_12 : decode (yB Y_NC_count) 12 = .ok (.getfield 90, 3) := by decide +kernel
theorem d_NC_count_15 : decode (yB Y_NC_count) 15 = .ok (.iload_n 1, 1) := by decide +kernel
theorem d_NC_count_16 : decode (yB Y_NC_count) 16 = .ok (.bipush 7, 2) := by decide +kernel
theorem d_NC_count_18 : decode (yB Y_NC_count) 18 = .ok (.isub, 1) := by decide +kernel
theorem d_NC_count_19 : decode (yB Y_NC_count) 19 = .ok (.iaload, 1) := by decide +kernel
theorem d_NC_count_20 : decode (yB Y_NC_count) 20 = .ok (.ireturn, 1) := by decide +kernel
theorem d_NC_count_21 : decode (yB Y_NC_count) 21 = .ok (.iload_n 1, 1) := by decide +kernel
theorem d_NC_count_22 : decode (yB Y_NC_count) 22 = .ok (.bipush 13, 2) := by decide +kernel
theorem d_NC_count_24 : decode (yB Y_NC_count) 24 = .ok (.bipush 16, 2) := by decide +kernel
theorem d_NC_count_26 : decode (yB Y_NC_count) 26 = .ok (.invokestatic 132, 3) := by decide +kernel
theorem d_NC_count_29 : decode (yB Y_NC_count) 29 = .ok (.ifCond .eq 16, 3) := by decide +kernel
theorem d_NC_count_32 : decode (yB Y_NC_count) 32 = .ok (.aload_n 0, 1) := by decide +kernel
theorem d_NC_count_33 : decode (yB Y_NC_count) 33 = .ok (.getfield 12, 3) := by decide +kernel
theorem d_NC_count_36 : decode (yB Y_NC_count) 36 = .ok (.getfield 192, 3) := by decide +kernel
theorem d_NC_count_39 : decode (yB Y_NC_count) 39 = .ok (.iload_n 1, 1) := by decide +kernel
theorem d_NC_count_40 : decode (yB Y_NC_count) 40 = .ok (.bipush 13, 2) := by decide +kernel
theorem d_NC_count_42 : decode (yB Y_NC_count) 42 = .ok (.isub, 1) := by decide +kernel
theorem d_NC_count_43 : decode (yB Y_NC_count) 43 = .ok (.iaload, 1) := by decide +kernel
theorem d_NC_count_44 : decode (yB Y_NC_count) 44 = .ok (.ireturn, 1) := by decide +kernel
theorem d_NC_count_45 : decode (yB Y_NC_count) 45 = .ok (.iload_n 1, 1) := by decide +kernel
theorem d_NC_count_46 : decode (yB Y_NC_count) 46 = .ok (.tableswitch 130 0 12 #[66, 74, 82, 90, 98, 106, 114, 130, 130, 130, 130, 130, 122], 66) := by decide +kernel
theorem d_NC_count_112 : decode (yB Y_NC_count) 112 = .ok (.aload_n 0, 1) := by decide +kernel
theorem d_NC_count_113 : decode (yB Y_NC_count) 113 = .ok (.getfield 12, 3) := by decide +kernel
theorem d_NC_count_116 : decode (yB Y_NC_count) 116 = .ok (.getfield 155, 3) := by decide +kernel
theorem d_NC_count_119 : decode (yB Y_NC_count) 119 = .ok (.ireturn, 1) := by decide +kernel
theorem d_NC_count_120 : decode (yB Y_NC_count) 120 = .ok (.aload_n 0, 1) := by decide +kernel
theorem d_NC_count_121 : decode (yB Y_NC_count) 121 = .ok (.getfield 12, 3) := by decide +kernel
theorem d_NC_count_124 : decode (yB Y_NC_count) 124 = .ok (.invokevirtual 320, 3) := by decide +kernel
theorem d_NC_count_127 : decode (yB Y_NC_count) 127 = .ok (.ireturn, 1) := by decide +kernel
theorem d_NC_count_128 : decode (yB Y_NC_count) 128 = .ok (.aload_n 0, 1) := by decide +kernel
theorem d_NC_count_129 : decode (yB Y_NC_count) 129 = .ok (.getfield 12, 3) := by decide +kernel
theorem d_NC_count_132 : decode (yB Y_NC_count) 132 = .ok (.invokevirtual 324, 3) := by decide +kernel
theorem d_NC_count_135 : decode (yB Y_NC_count) 135 = .ok (.ireturn, 1) := by decide +kernel
theorem d_NC_count_136 : decode (yB Y_NC_count) 136 = .ok (.aload_n 0, 1) := by decide +kernel
theorem d_NC_count_137 : decode (yB Y_NC_count) 137 = .ok (.getfield 12, 3) := by decide +kernel
theorem d_NC_count_140 : decode (yB Y_NC_count) 140 = .ok (.getfield 273, 3) := by decide +kernel
theorem d_NC_count_143 : decode (yB Y_NC_count) 143 = .ok (.ireturn, 1) := by decide +kernel
theorem d_NC_count_144 : decode (yB Y_NC_count) 144 = .ok (.aload_n 0, 1) := by decide +kernel
theorem d_NC_count_145 : decode (yB Y_NC_count) 145 = .ok (.getfield 12, 3) := by decide +kernel
theorem d_NC_count_148 : decode (yB Y_NC_count) 148 = .ok (.getfield 208, 3) := by decide +kernel
theorem d_NC_count_151 : decode (yB Y_NC_count) 151 = .ok (.ireturn, 1) := by decide +kernel
theorem d_NC_count_152 : decode (yB Y_NC_count) 152 = .ok (.aload_n 0, 1) := by decide +kernel
theorem d_NC_count_153 : decode (yB Y_NC_count) 153 = .ok (.getfield 35, 3) := by decide +kernel
theorem d_NC_count_156 : decode (yB Y_NC_count) 156 = .ok (.getfield 327, 3) := by decide +kernel
theorem d_NC_count_159 : decode (yB Y_NC_count) 159 = .ok (.ireturn, 1) := by decide +kernel
theorem d_NC_count_160 : decode (yB Y_NC_count) 160 = .ok (.aload_n 0, 1) := by decide +kernel
theorem d_NC_count_161 : decode (yB Y_NC_count) 161 = .ok (.getfield 45, 3) := by decide +kernel
theorem d_NC_count_164 : decode (yB Y_NC_count) 164 = .ok (.getfield 202, 3) := by decide +kernel
theorem d_NC_count_167 : decode (yB Y_NC_count) 167 = .ok (.ireturn, 1) := by decide +kernel
theorem d_NC_count_168 : decode (yB Y_NC_count) 168 = .ok (.aload_n 0, 1) := by decide +kernel
theorem d_NC_count_169 : decode (yB Y_NC_count) 169 = .ok (.getfield 12, 3) := by decide +kernel
theorem d_NC_count_172 : decode (yB Y_NC_count) 172 = .ok (.getfield 246, 3) := by decide +kernel
theorem d_NC_count_175 : decode (yB Y_NC_count) 175 = .ok (.ireturn, 1) := by decide +kernel
theorem d_NC_count_176 : decode (yB Y_NC_count) 176 = .ok (.iconst (-1), 1) := by decide +kernel
theorem d_NC_count_177 : decode (yB Y_NC_count) 177 = .ok (.ireturn, 1) := by decide +kernel
def F_NC_count (n : Nat) (E : zE) (S : zS) (a0 : Nat) (x1 : Int32) (M : zH) : Option (Int32 × zH) :=
  (F_NC_within n E S x1 7 11 M).bind fun q_1 =>
  if q_1.1 = true then
    (zgR S a0 10 13).bind fun b_3 =>
    (zldI S q_1.2 b_3 (x1 - 7)).bind fun v_4 =>
    some (v_4, q_1.2)
  else
    (F_NC_within n E S x1 13 16 q_1.2).bind fun q_5 =>
    if q_5.1 = true then
      (zgR S a0 10 0).bind fun b_7 =>
      (zgR S b_7 3 9).bind fun b_8 =>
      (zldI S q_5.2 b_8 (x1 - 13)).bind fun v_9 =>
      some (v_9, q_5.2)
    else
      if x1 = 0 then
        (zgR S a0 10 0).bind fun b_11 =>
        (zgI S q_5.2 b_11 3 11).bind fun v_12 =>
        some (v_12, q_5.2)
      else
      if x1 = 1 then
        (zgR S a0 10 0).bind fun b_14 =>
        (zck S b_14 3).bind fun u_15 =>
        (F_Ni_allLevels n E S b_14 q_5.2).bind fun q_16 =>
        some (q_16.1, q_16.2)
      else
      if x1 = 2 then
        (zgR S a0 10 0).bind fun b_18 =>
        (zck S b_18 3).bind fun u_19 =>
        (F_Ni_blockedHoles n E S b_18 q_5.2).bind fun q_20 =>
        some (q_20.1, q_20.2)
      else
      if x1 = 3 then
        (zgR S a0 10 0).bind fun b_22 =>
        (zgI S q_5.2 b_22 3 12).bind fun v_23 =>
        some (v_23, q_5.2)
      else
      if x1 = 4 then
        (zgR S a0 10 0).bind fun b_25 =>
        (zgI S q_5.2 b_25 3 13).bind fun v_26 =>
        some (v_26, q_5.2)
      else
      if x1 = 5 then
        (zgR S a0 10 5).bind fun b_28 =>
        (zgI S q_5.2 b_28 6 1).bind fun v_29 =>
        some (v_29, q_5.2)
      else
      if x1 = 6 then
        (zgR S a0 10 7).bind fun b_31 =>
        (zgI S q_5.2 b_31 8 1).bind fun v_32 =>
        some (v_32, q_5.2)
      else
      if x1 = 7 then
        some ((-1), q_5.2)
      else
      if x1 = 8 then
        some ((-1), q_5.2)
      else
      if x1 = 9 then
        some ((-1), q_5.2)
      else
      if x1 = 10 then
        some ((-1), q_5.2)
      else
      if x1 = 11 then
        some ((-1), q_5.2)
      else
      if x1 = 12 then
        (zgR S a0 10 0).bind fun b_39 =>
        (zgI S q_5.2 b_39 3 14).bind fun v_40 =>
        some (v_40, q_5.2)
      else
        some ((-1), q_5.2)
theorem K_NC_count (n : Nat) (E : zE) (S : zS) (a0 : Nat) (x1 : Int32) (M : zH) (r : Int32) (M' : zH)  (h : F_NC_count n E S a0 x1 M = some (r, M')) : zG E Y_NC_count (some (.int r), S, M') 0 [(0, .ref a0), (1, .int x1)] [] S M 0 0 := by
  unfold F_NC_count at h
  refine zi_iload_n 1 d_NC_count_0 rfl ?_
  refine zi_bipush 7 d_NC_count_1 rfl ?_
  refine zi_bipush 11 d_NC_count_3 rfl ?_
  obtain ⟨q_1, eq_1, h⟩ := zbind h
  refine zo_stat (k' := 0) (n' := 0) 8 [.int x1, .int 7, .int 11] [] [.int (bI q_1.1)] (C_NC_within n E S x1 7 11 M q_1.1 q_1.2 eq_1) d_NC_count_5 tw_399 tw_397 tw_398 tw_1 dd_NC_within ⟨Nat.le_of_ble_eq_true rfl, Nat.le_of_ble_eq_true rfl, Nat.le_of_ble_eq_true rfl, Nat.le_of_ble_eq_true rfl⟩ (Nat.le_of_ble_eq_true rfl) rfl rfl rfl rfl ?_
  refine zo_ifeqB d_NC_count_8 rfl 11 rfl (fun c_2 => ?_) (fun c_2 => ?_)
  · rw [if_neg c_2] at h
    refine zi_iload_n 1 d_NC_count_21 rfl ?_
    refine zi_bipush 13 d_NC_count_22 rfl ?_
    refine zi_bipush 16 d_NC_count_24 rfl ?_
    obtain ⟨q_5, eq_5, h⟩ := zbind h
    refine zo_stat (k' := 0) (n' := 0) 29 [.int x1, .int 13, .int 16] [] [.int (bI q_5.1)] (C_NC_within n E S x1 13 16 q_1.2 q_5.1 q_5.2 eq_5) d_NC_count_26 tw_399 tw_397 tw_398 tw_1 dd_NC_within ⟨Nat.le_of_ble_eq_true rfl, Nat.le_of_ble_eq_true rfl, Nat.le_of_ble_eq_true rfl, Nat.le_of_ble_eq_true rfl⟩ (Nat.le_of_ble_eq_true rfl) rfl rfl rfl rfl ?_
    refine zo_ifeqB d_NC_count_29 rfl 32 rfl (fun c_6 => ?_) (fun c_6 => ?_)
    · rw [if_neg c_6] at h
      refine zi_iload_n 1 d_NC_count_45 rfl ?_
      by_cases c_10 : x1 = 0
      · rw [if_pos c_10] at h
        refine zo_tab (tgt := 112) 0 d_NC_count_46 c_10 (by decide) (by decide) rfl rfl ?_
        refine zi_aload_n 0 d_NC_count_112 rfl ?_
        obtain ⟨b_11, eb_11, h⟩ := zbind h
        refine zo_getR 116 zkd_10 0 d_NC_count_113 eb_11 rfl tw_332 rfl ?_
        obtain ⟨v_12, ev_12, h⟩ := zbind h
        refine zo_getI 119 zkd_3 11 d_NC_count_116 ev_12 rfl tw_87 rfl ?_
        cases h
        exact zo_ret d_NC_count_119 (Nat.le_of_ble_eq_true rfl) (Nat.le_of_ble_eq_true rfl) rfl
      rw [if_neg c_10] at h
      by_cases c_13 : x1 = 1
      · rw [if_pos c_13] at h
        refine zo_tab (tgt := 120) 1 d_NC_count_46 c_13 (by decide) (by decide) rfl rfl ?_
        refine zi_aload_n 0 d_NC_count_120 rfl ?_
        obtain ⟨b_14, eb_14, h⟩ := zbind h
        refine zo_getR 124 zkd_10 0 d_NC_count_121 eb_14 rfl tw_332 rfl ?_
        obtain ⟨u_15, eu_15, h⟩ := zbind h
        obtain ⟨q_16, eq_16, h⟩ := zbind h
        refine zo_virt (k' := 0) (n' := 0) 127 [] [] [.int q_16.1] zkd_3 (zck_s eu_15) (C_Ni_allLevels n E S b_14 q_5.2 q_16.1 q_16.2 eq_16) d_NC_count_124 tw_884 tw_1192 tw_882 tw_883 tw_2 dd_Ni_allLevels ⟨Nat.le_of_ble_eq_true rfl, Nat.le_of_ble_eq_true rfl, Nat.le_of_ble_eq_true rfl, Nat.le_of_ble_eq_true rfl⟩ (Nat.le_of_ble_eq_true rfl) rfl rfl rfl rfl ?_
        cases h
        exact zo_ret d_NC_count_127 (Nat.le_of_ble_eq_true rfl) (Nat.le_of_ble_eq_true rfl) rfl
      rw [if_neg c_13] at h
      by_cases c_17 : x1 = 2
      · rw [if_pos c_17] at h
        refine zo_tab (tgt := 128) 2 d_NC_count_46 c_17 (by decide) (by decide) rfl rfl ?_
        refine zi_aload_n 0 d_NC_count_128 rfl ?_
        obtain ⟨b_18, eb_18, h⟩ := zbind h
        refine zo_getR 132 zkd_10 0 d_NC_count_129 eb_18 rfl tw_332 rfl ?_
        obtain ⟨u_19, eu_19, h⟩ := zbind h
        obtain ⟨q_20, eq_20, h⟩ := zbind h
        refine zo_virt (k' := 0) (n' := 0) 135 [] [] [.int q_20.1] zkd_3 (zck_s eu_19) (C_Ni_blockedHoles n E S b_18 q_5.2 q_20.1 q_20.2 eq_20) d_NC_count_132 tw_1196 tw_1193 tw_1194 tw_1195 tw_2 dd_Ni_blockedHoles ⟨Nat.le_of_ble_eq_true rfl, Nat.le_of_ble_eq_true rfl, Nat.le_of_ble_eq_true rfl, Nat.le_of_ble_eq_true rfl⟩ (Nat.le_of_ble_eq_true rfl) rfl rfl rfl rfl ?_
        cases h
        exact zo_ret d_NC_count_135 (Nat.le_of_ble_eq_true rfl) (Nat.le_of_ble_eq_true rfl) rfl
      rw [if_neg c_17] at h
      by_cases c_21 : x1 = 3
      · rw [if_pos c_21] at h
        refine zo_tab (tgt := 136) 3 d_NC_count_46 c_21 (by decide) (by decide) rfl rfl ?_
        refine zi_aload_n 0 d_NC_count_136 rfl ?_
        obtain ⟨b_22, eb_22, h⟩ := zbind h
        refine zo_getR 140 zkd_10 0 d_NC_count_137 eb_22 rfl tw_332 rfl ?_
        obtain ⟨v_23, ev_23, h⟩ := zbind h
        refine zo_getI 143 zkd_3 12 d_NC_count_140 ev_23 rfl tw_92 rfl ?_
        cases h
        exact zo_ret d_NC_count_143 (Nat.le_of_ble_eq_true rfl) (Nat.le_of_ble_eq_true rfl) rfl
      rw [if_neg c_21] at h
      by_cases c_24 : x1 = 4
      · rw [if_pos c_24] at h
        refine zo_tab (tgt := 144) 4 d_NC_count_46 c_24 (by decide) (by decide) rfl rfl ?_
        refine zi_aload_n 0 d_NC_count_144 rfl ?_
        obtain ⟨b_25, eb_25, h⟩ := zbind h
        refine zo_getR 148 zkd_10 0 d_NC_count_145 eb_25 rfl tw_332 rfl ?_
        obtain ⟨v_26, ev_26, h⟩ := zbind h
        refine zo_getI 151 zkd_3 13 d_NC_count_148 ev_26 rfl tw_94 rfl ?_
        cases h
        exact zo_ret d_NC_count_151 (Nat.le_of_ble_eq_true rfl) (Nat.le_of_ble_eq_true rfl) rfl
      rw [if_neg c_24] at h
      by_cases c_27 : x1 = 5
      · rw [if_pos c_27] at h
        refine zo_tab (tgt := 152) 5 d_NC_count_46 c_27 (by decide) (by decide) rfl rfl ?_
        refine zi_aload_n 0 d_NC_count_152 rfl ?_
        obtain ⟨b_28, eb_28, h⟩ := zbind h
        refine zo_getR 156 zkd_10 5 d_NC_count_153 eb_28 rfl tw_337 rfl ?_
        obtain ⟨v_29, ev_29, h⟩ := zbind h
        refine zo_getI 159 zkd_6 1 d_NC_count_156 ev_29 rfl tw_140 rfl ?_
        cases h
        exact zo_ret d_NC_count_159 (Nat.le_of_ble_eq_true rfl) (Nat.le_of_ble_eq_true rfl) rfl
      rw [if_neg c_27] at h
      by_cases c_30 : x1 = 6
      · rw [if_pos c_30] at h
        refine zo_tab (tgt := 160) 6 d_NC_count_46 c_30 (by decide) (by decide) rfl rfl ?_
        refine zi_aload_n 0 d_NC_count_160 rfl ?_
        obtain ⟨b_31, eb_31, h⟩ := zbind h
        refine zo_getR 164 zkd_10 7 d_NC_count_161 eb_31 rfl tw_339 rfl ?_
        obtain ⟨v_32, ev_32, h⟩ := zbind h
        refine zo_getI 167 zkd_8 1 d_NC_count_164 ev_32 rfl tw_154 rfl ?_
        cases h
        exact zo_ret d_NC_count_167 (Nat.le_of_ble_eq_true rfl) (Nat.le_of_ble_eq_true rfl) rfl
      rw [if_neg c_30] at h
      by_cases c_33 : x1 = 7
      · rw [if_pos c_33] at h
        refine zo_tab (tgt := 176) 7 d_NC_count_46 c_33 (by decide) (by decide) rfl rfl ?_
        refine zi_iconst (-1) d_NC_count_176 rfl ?_
        cases h
        exact zo_ret d_NC_count_177 (Nat.le_of_ble_eq_true rfl) (Nat.le_of_ble_eq_true rfl) rfl
      rw [if_neg c_33] at h
      by_cases c_34 : x1 = 8
      · rw [if_pos c_34] at h
        refine zo_tab (tgt := 176) 8 d_NC_count_46 c_34 (by decide) (by decide) rfl rfl ?_
        refine zi_iconst (-1) d_NC_count_176 rfl ?_
        cases h
        exact zo_ret d_NC_count_177 (Nat.le_of_ble_eq_true rfl) (Nat.le_of_ble_eq_true rfl) rfl
      rw [if_neg c_34] at h
      by_cases c_35 : x1 = 9
      · rw [if_pos c_35] at h
        refine zo_tab (tgt := 176) 9 d_NC_count_46 c_35 (by decide) (by decide) rfl rfl ?_
        refine zi_iconst (-1) d_NC_count_176 rfl ?_
        cases h
        exact zo_ret d_NC_count_177 (Nat.le_of_ble_eq_true rfl) (Nat.le_of_ble_eq_true rfl) rfl
      rw [if_neg c_35] at h
      by_cases c_36 : x1 = 10
      · rw [if_pos c_36] at h
        refine zo_tab (tgt := 176) 10 d_NC_count_46 c_36 (by decide) (by decide) rfl rfl ?_
        refine zi_iconst (-1) d_NC_count_176 rfl ?_
        cases h
        exact zo_ret d_NC_count_177 (Nat.le_of_ble_eq_true rfl) (Nat.le_of_ble_eq_true rfl) rfl
      rw [if_neg c_36] at h
      by_cases c_37 : x1 = 11
      · rw [if_pos c_37] at h
        refine zo_tab (tgt := 176) 11 d_NC_count_46 c_37 (by decide) (by decide) rfl rfl ?_
        refine zi_iconst (-1) d_NC_count_176 rfl ?_
        cases h
        exact zo_ret d_NC_count_177 (Nat.le_of_ble_eq_true rfl) (Nat.le_of_ble_eq_true rfl) rfl
      rw [if_neg c_37] at h
      by_cases c_38 : x1 = 12
      · rw [if_pos c_38] at h
        refine zo_tab (tgt := 168) 12 d_NC_count_46 c_38 (by decide) (by decide) rfl rfl ?_
        refine zi_aload_n 0 d_NC_count_168 rfl ?_
        obtain ⟨b_39, eb_39, h⟩ := zbind h
        refine zo_getR 172 zkd_10 0 d_NC_count_169 eb_39 rfl tw_332 rfl ?_
        obtain ⟨v_40, ev_40, h⟩ := zbind h
        refine zo_getI 175 zkd_3 14 d_NC_count_172 ev_40 rfl tw_96 rfl ?_
        cases h
        exact zo_ret d_NC_count_175 (Nat.le_of_ble_eq_true rfl) (Nat.le_of_ble_eq_true rfl) rfl
      rw [if_neg c_38] at h
      refine zo_tabP (tgt := 176) 0 13 d_NC_count_46 rfl rfl (fun j hj => by match j, hj with | 0, _ => exact c_10  | 1, _ => exact c_13  | 2, _ => exact c_17  | 3, _ => exact c_21  | 4, _ => exact c_24  | 5, _ => exact c_27  | 6, _ => exact c_30  | 7, _ => exact c_33  | 8, _ => exact c_34  | 9, _ => exact c_35  | 10, _ => exact c_36  | 11, _ => exact c_37  | 12, _ => exact c_38 | j + 13, hj => exact absurd hj (by omega)) rfl ?_
      refine zi_iconst (-1) d_NC_count_176 rfl ?_
      cases h
      exact zo_ret d_NC_count_177 (Nat.le_of_ble_eq_true rfl) (Nat.le_of_ble_eq_true rfl) rfl
    · rw [if_pos c_6] at h
      refine zi_aload_n 0 d_NC_count_32 rfl ?_
      obtain ⟨b_7, eb_7, h⟩ := zbind h
      refine zo_getR 36 zkd_10 0 d_NC_count_33 eb_7 rfl tw_332 rfl ?_
      obtain ⟨b_8, eb_8, h⟩ := zbind h
      refine zo_getR 39 zkd_3 9 d_NC_count_36 eb_8 rfl tw_84 rfl ?_
      refine zi_iload_n 1 d_NC_count_39 rfl ?_
      refine zi_bipush 13 d_NC_count_40 rfl ?_
      refine zi_isub d_NC_count_42 ?_
      obtain ⟨v_9, ev_9, h⟩ := zbind h
      refine zo_iald 44 d_NC_count_43 ev_9 rfl ?_
      cases h
      exact zo_ret d_NC_count_44 (Nat.le_of_ble_eq_true rfl) (Nat.le_of_ble_eq_true rfl) rfl
  · rw [if_pos c_2] at h
    refine zi_aload_n 0 d_NC_count_11 rfl ?_
    obtain ⟨b_3, eb_3, h⟩ := zbind h
    refine zo_getR 15 zkd_10 13 d_NC_count_12 eb_3 rfl tw_345 rfl ?_
    refine zi_iload_n 1 d_NC_count_15 rfl ?_
    refine zi_bipush 7 d_NC_count_16 rfl ?_
    refine zi_isub d_NC_count_18 ?_
    obtain ⟨v_4, ev_4, h⟩ := zbind h
    refine zo_iald 20 d_NC_count_19 ev_4 rfl ?_
    cases h
    exact zo_ret d_NC_count_20 (Nat.le_of_ble_eq_true rfl) (Nat.le_of_ble_eq_true rfl) rfl
theorem C_NC_count (n : Nat) (E : zE) (S : zS) (a0 : Nat) (x1 : Int32) (M : zH) (r : Int32) (M' : zH) (h : F_NC_count n E S a0 x1 M = some (r, M')) : zC E Y_NC_count [.ref a0, .int x1] S M (some (.int r), S, M') :=
  zC.of (Or.inl (show plainName "NightColander" = true by decide)) (Nat.le_of_ble_eq_true rfl) (trivial) (K_NC_count n E S a0 x1 M r M' h)
theorem d_NC_status_0 : decode (yB Y_NC_status) 0 = .ok (.aload_n 0, 1) := by decide +kernel
theorem d_NC_status_1 : decode (yB Y_NC_status) 1 = .ok (.getfield 98, 3) := by decide +kernel
theorem d_NC_status_4 : decode (yB Y_NC_status) 4 = .ok (.ireturn, 1) := by decide +kernel
def F_NC_status (n : Nat) (E : zE) (S : zS) (a0 : Nat) (M : zH) : Option (Int32 × zH) :=
  (zgI S M a0 10 15).bind fun v_1 =>
  some (v_1, M)
theorem K_NC_status (n : Nat) (E : zE) (S : zS) (a0 : Nat) (M : zH) (r : Int32) (M' : zH)  (h : F_NC_status n E S a0 M = some (r, M')) : zG E Y_NC_status (some (.int r), S, M') 0 [(0, .ref a0)] [] S M 0 0 := by
  unfold F_NC_status at h
  refine zi_aload_n 0 d_NC_status_0 rfl ?_
  obtain ⟨v_1, ev_1, h⟩ := zbind h
  refine zo_getI 4 zkd_10 15 d_NC_status_1 ev_1 rfl tw_347 rfl ?_
  cases h
  exact zo_ret d_NC_status_4 (Nat.le_of_ble_eq_true rfl) (Nat.le_of_ble_eq_true rfl) rfl
theorem C_NC_status (n : Nat) (E : zE) (S : zS) (a0 : Nat) (M : zH) (r : Int32) (M' : zH) (h : F_NC_status n E S a0 M = some (r, M')) : zC E Y_NC_status [.ref a0] S M (some (.int r), S, M') :=
  zC.of (Or.inl (show plainName "NightColander" = true by decide)) (Nat.le_of_ble_eq_true rfl) (trivial) (K_NC_status n E S a0 M r M' h)
