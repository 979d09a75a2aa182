/-! METHODS (printed by gen/build.py): Pa_findLook NC_look Pa_givesWanted Pa_stepsTo Pa_findTurns NC_turned Pa_sharesOf Ji_bitCount Pa_findCleared NC_cleared -/
theorem d_Pa_findLook_0 : decode (yB Y_Pa_findLook) 0 = .ok (.aload_n 0, 1) := by decide +kernel
theorem d_Pa_findLook_1 : decode (yB Y_Pa_findLook) 1 = .ok (.aload_n 1, 1) := by decide +kernel
theorem d_Pa_findLook_2 : decode (yB Y_Pa_findLook) 2 = .ok (.invokevirtual 145, 3) := by decide +kernel
theorem d_Pa_findLook_5 : decode (yB Y_Pa_findLook) 5 = .ok (.ifCond .ne 5, 3) := by decide +kernel
theorem d_Pa_findLook_8 : decode (yB Y_Pa_findLook) 8 = .ok (.iconst 0, 1) := by decide +kernel
theorem d_Pa_findLook_9 : decode (yB Y_Pa_findLook) 9 = .ok (.ireturn, 1) := by decide +kernel
theorem d_Pa_findLook_10 : decode (yB Y_Pa_findLook) 10 = .ok (.aload_n 0, 1) := by decide +kernel
theorem d_Pa_findLook_11 : decode (yB Y_Pa_findLook) 11 = .ok (.sipush 4097, 3) := by decide +kernel
theorem d_Pa_findLook_14 : decode (yB Y_Pa_findLook) 14 = .ok (.putfield 38, 3) := by decide +kernel
theorem d_Pa_findLook_17 : decode (yB Y_Pa_findLook) 17 = .ok (.iconst 0, 1) := by decide +kernel
theorem d_Pa_findLook_18 : decode (yB Y_Pa_findLook) 18 = .ok (.istore_n 2, 1) := by decide +kernel
theorem d_Pa_findLook_19 : decode (yB Y_Pa_findLook) 19 = .ok (.iload_n 2, 1) := by decide +kernel
theorem d_Pa_findLook_20 : decode (yB Y_Pa_findLook) 20 = .ok (.bipush 8, 2) := by decide +kernel
theorem d_Pa_findLook_22 : decode (yB Y_Pa_findLook) 22 = .ok (.if_icmp .ge 33, 3) := by decide +kernel
theorem d_Pa_findLook_25 : decode (yB Y_Pa_findLook) 25 = .ok (.aload_n 0, 1) := by decide +kernel
theorem d_Pa_findLook_26 : decode (yB Y_Pa_findLook) 26 = .ok (.iload_n 2, 1) := by decide +kernel
theorem d_Pa_findLook_27 : decode (yB Y_Pa_findLook) 27 = .ok (.invokevirtual 149, 3) := by decide +kernel
theorem d_Pa_findLook_30 : decode (yB Y_Pa_findLook) 30 = .ok (.istore_n 3, 1) := by decide +kernel
theorem d_Pa_findLook_31 : decode (yB Y_Pa_findLook) 31 = .ok (.iload_n 3, 1) := by decide +kernel
theorem d_Pa_findLook_32 : decode (yB Y_Pa_findLook) 32 = .ok (.aload_n 0, 1) := by decide +kernel
theorem d_Pa_findLook_33 : decode (yB Y_Pa_findLook) 33 = .ok (.getfield 38, 3) := by decide +kernel
theorem d_Pa_findLook_36 : decode (yB Y_Pa_findLook) 36 = .ok (.if_icmp .ge 13, 3) := by decide +kernel
theorem d_Pa_findLook_39 : decode (yB Y_Pa_findLook) 39 = .ok (.aload_n 0, 1) := by decide +kernel
theorem d_Pa_findLook_40 : decode (yB Y_Pa_findLook) 40 = .ok (.iload_n 3, 1) := by decide +kernel
theorem d_Pa_findLook_41 : decode (yB Y_Pa_findLook) 41 = .ok (.putfield 38, 3) := by decide +kernel
theorem d_Pa_findLook_44 : decode (yB Y_Pa_findLook) 44 = .ok (.aload_n 0, 1) := by decide +kernel
theorem d_Pa_findLook_45 : decode (yB Y_Pa_findLook) 45 = .ok (.iload_n 2, 1) := by decide +kernel
theorem d_Pa_findLook_46 : decode (yB Y_Pa_findLook) 46 = .ok (.putfield 42, 3) := by decide +kernel
theorem d_Pa_findLook_49 : decode (yB Y_Pa_findLook) 49 = .ok (.iinc 2 1, 3) := by decide +kernel
theorem d_Pa_findLook_52 : decode (yB Y_Pa_findLook) 52 = .ok (.goto (-33), 3) := by decide +kernel
theorem d_Pa_findLook_55 : decode (yB Y_Pa_findLook) 55 = .ok (.iconst 1, 1) := by decide +kernel
theorem d_Pa_findLook_56 : decode (yB Y_Pa_findLook) 56 = .ok (.ireturn, 1) := by decide +kernel
def F_Pa_findLook_b49 (n : Nat) (E : zE) (S : zS) (r19 : Nat × Int32 × zH → Option (Bool × zH)) (a0 : Nat) (x2 : Int32) (M : zH) : Option (Bool × zH) :=
  r19 (a0, x2 + 1, M)
def F_Pa_findLook_L19 (n : Nat) (E : zE) (S : zS) (r19 : Nat × Int32 × zH → Option (Bool × zH)) (a0 : Nat) (x2 : Int32) (M : zH) : Option (Bool × zH) :=
  if 8 ≤ x2 then
    some (true, M)
  else
    (zck S a0 4).bind fun u_2 =>
    (F_Pa_mostAlike n E S a0 x2 M).bind fun q_3 =>
    (zgI S q_3.2 a0 4 8).bind fun v_4 =>
    if v_4 ≤ q_3.1 then
      F_Pa_findLook_b49 n E S r19 a0 x2 q_3.2
    else
      (zpI S q_3.2 a0 4 8 q_3.1).bind fun m_6 =>
      (zpI S m_6 a0 4 9 x2).bind fun m_7 =>
      F_Pa_findLook_b49 n E S r19 a0 x2 m_7
def F_Pa_findLook_b19 (n : Nat) (E : zE) (S : zS) : Nat × Int32 × zH → Option (Bool × zH) := zfix (fun r19 s => F_Pa_findLook_L19 n E S r19 s.1 s.2.1 s.2.2) n
def F_Pa_findLook (n : Nat) (E : zE) (S : zS) (a0 : Nat) (a1 : Nat) (M : zH) : Option (Bool × zH) :=
  (zck S a0 4).bind fun u_8 =>
  (F_Pa_findFitting n E S a0 a1 M).bind fun q_9 =>
  if q_9.1 = true then
    (zpI S q_9.2 a0 4 8 4097).bind fun m_11 =>
    F_Pa_findLook_b19 n E S (a0, 0, m_11)
  else
    some (false, q_9.2)
theorem K_Pa_findLook_b49 (n : Nat) (E : zE) (S : zS) (r19 : Nat × Int32 × zH → Option (Bool × zH)) (a0 : Nat) (x2 : Int32) (M : zH) (r : Bool) (M' : zH) (hr19 : ∀ (a0 : Nat) (x2 : Int32) (M : zH), r19 (a0, x2, M) = some (r, M') → zG E Y_Pa_findLook (some (.int (bI r)), S, M') 19 [(0, .ref a0), (2, .int x2)] [] S M 0 0) (h : F_Pa_findLook_b49 n E S r19 a0 x2 M = some (r, M')) : zG E Y_Pa_findLook (some (.int (bI r)), S, M') 49 [(0, .ref a0), (2, .int x2)] [] S M 0 0 := by
  unfold F_Pa_findLook_b49 at h
  refine zi_iinc 1 (x2 + 1) [(2, .int (x2 + 1)), (0, .ref a0)] d_Pa_findLook_49 rfl rfl (by decide) rfl ?_
  refine zi_goto (tgt := 19) d_Pa_findLook_52 rfl ?_
  refine zi_lo [(0, .ref a0), (2, .int (x2 + 1))] [1, 0] rfl ?_
  exact hr19 a0 (x2 + 1) M h
theorem K_Pa_findLook_L19 (n : Nat) (E : zE) (S : zS) (r19 : Nat × Int32 × zH → Option (Bool × zH)) (a0 : Nat) (x2 : Int32) (M : zH) (r : Bool) (M' : zH) (hr19 : ∀ (a0 : Nat) (x2 : Int32) (M : zH), r19 (a0, x2, M) = some (r, M') → zG E Y_Pa_findLook (some (.int (bI r)), S, M') 19 [(0, .ref a0), (2, .int x2)] [] S M 0 0) (h : F_Pa_findLook_L19 n E S r19 a0 x2 M = some (r, M')) : zG E Y_Pa_findLook (some (.int (bI r)), S, M') 19 [(0, .ref a0), (2, .int x2)] [] S M 0 0 := by
  unfold F_Pa_findLook_L19 at h
  refine zi_iload_n 1 d_Pa_findLook_19 rfl ?_
  refine zi_bipush 8 d_Pa_findLook_20 rfl ?_
  refine zi_icmp_ge (tgt := 55) d_Pa_findLook_22 rfl (fun c_1 => ?_) (fun c_1 => ?_)
  · rw [if_pos c_1] at h
    refine zi_iconst 1 d_Pa_findLook_55 rfl ?_
    cases h
    exact zo_retB d_Pa_findLook_56 (Nat.le_of_ble_eq_true rfl) (Nat.le_of_ble_eq_true rfl) rfl
  · rw [if_neg c_1] at h
    refine zi_aload_n 0 d_Pa_findLook_25 rfl ?_
    refine zi_iload_n 1 d_Pa_findLook_26 rfl ?_
    obtain ⟨u_2, eu_2, h⟩ := zbind h
    obtain ⟨q_3, eq_3, h⟩ := zbind h
    refine zo_virt (k' := 0) (n' := 0) 30 [.int x2] [] [.int q_3.1] zkd_4 (zck_s eu_2) (C_Pa_mostAlike n E S a0 x2 M q_3.1 q_3.2 eq_3) d_Pa_findLook_27 tw_1075 tw_1072 tw_1074 ts_33 tw_12 dd_Pa_mostAlike ⟨Nat.le_of_ble_eq_true rfl, Nat.le_of_ble_eq_true rfl, Nat.le_of_ble_eq_true rfl, Nat.le_of_ble_eq_true rfl⟩ (Nat.le_of_ble_eq_true rfl) rfl rfl rfl rfl ?_
    refine zi_istore_n [(3, .int q_3.1), (0, .ref a0), (2, .int x2)] d_Pa_findLook_30 (by decide) rfl ?_
    refine zi_iload_n 0 d_Pa_findLook_31 rfl ?_
    refine zi_aload_n 1 d_Pa_findLook_32 rfl ?_
    obtain ⟨v_4, ev_4, h⟩ := zbind h
    refine zo_getI 36 zkd_4 8 d_Pa_findLook_33 ev_4 rfl tw_306 rfl ?_
    refine zi_icmp_ge (tgt := 49) d_Pa_findLook_36 rfl (fun c_5 => ?_) (fun c_5 => ?_)
    · rw [if_pos c_5] at h
      refine zi_lo [(0, .ref a0), (2, .int x2)] [1, 2] rfl ?_
      exact K_Pa_findLook_b49 n E S r19 a0 x2 q_3.2 r M' hr19 h
    · rw [if_neg c_5] at h
      refine zi_aload_n 1 d_Pa_findLook_39 rfl ?_
      refine zi_iload_n 0 d_Pa_findLook_40 rfl ?_
      obtain ⟨m_6, em_6, h⟩ := zbind h
      refine zo_putI 44 zkd_4 8 d_Pa_findLook_41 em_6 rfl rfl rfl tw_306 rfl ?_
      refine zi_aload_n 1 d_Pa_findLook_44 rfl ?_
      refine zi_iload_n 2 d_Pa_findLook_45 rfl ?_
      obtain ⟨m_7, em_7, h⟩ := zbind h
      refine zo_putI 49 zkd_4 9 d_Pa_findLook_46 em_7 rfl rfl rfl tw_308 rfl ?_
      refine zi_lo [(0, .ref a0), (2, .int x2)] [1, 2] rfl ?_
      exact K_Pa_findLook_b49 n E S r19 a0 x2 m_7 r M' hr19 h
theorem K_Pa_findLook_b19 (n : Nat) (E : zE) (S : zS) (a0 : Nat) (x2 : Int32) (M : zH) (r : Bool) (M' : zH)  (h : F_Pa_findLook_b19 n E S (a0, x2, M) = some (r, M')) : zG E Y_Pa_findLook (some (.int (bI r)), S, M') 19 [(0, .ref a0), (2, .int x2)] [] S M 0 0 := by
  have key : ∀ (k : Nat) (a0 : Nat) (x2 : Int32) (M : zH), zfix (fun r19 s => F_Pa_findLook_L19 n E S r19 s.1 s.2.1 s.2.2) k (a0, x2, M) = some (r, M') → zG E Y_Pa_findLook (some (.int (bI r)), S, M') 19 [(0, .ref a0), (2, .int x2)] [] S M 0 0 := by
    intro k
    induction k with
    | zero => intro a0 x2 M h; cases h
    | succ k ih => intro a0 x2 M h; exact K_Pa_findLook_L19 n E S _ a0 x2 M r M'  (fun a0 x2 M h => ih a0 x2 M h) h
  exact key n a0 x2 M h
theorem K_Pa_findLook (n : Nat) (E : zE) (S : zS) (a0 : Nat) (a1 : Nat) (M : zH) (r : Bool) (M' : zH)  (h : F_Pa_findLook n E S a0 a1 M = some (r, M')) : zG E Y_Pa_findLook (some (.int (bI r)), S, M') 0 [(0, .ref a0), (1, .ref a1)] [] S M 0 0 := by
  unfold F_Pa_findLook at h
  refine zi_aload_n 0 d_Pa_findLook_0 rfl ?_
  refine zi_aload_n 1 d_Pa_findLook_1 rfl ?_
  obtain ⟨u_8, eu_8, h⟩ := zbind h
  obtain ⟨q_9, eq_9, h⟩ := zbind h
  refine zo_virt (k' := 0) (n' := 0) 5 [.ref a1] [] [.int (bI q_9.1)] zkd_4 (zck_s eu_8) (C_Pa_findFitting n E S a0 a1 M q_9.1 q_9.2 eq_9) d_Pa_findLook_2 tw_1071 tw_1068 tw_1070 ts_32 tw_12 dd_Pa_findFitting ⟨Nat.le_of_ble_eq_true rfl, Nat.le_of_ble_eq_true rfl, Nat.le_of_ble_eq_true rfl, Nat.le_of_ble_eq_true rfl⟩ (Nat.le_of_ble_eq_true rfl) rfl rfl rfl rfl ?_
  refine zo_ifneB d_Pa_findLook_5 rfl 8 rfl (fun c_10 => ?_) (fun c_10 => ?_)
  · rw [if_pos c_10] at h
    refine zi_aload_n 0 d_Pa_findLook_10 rfl ?_
    refine zi_sipush 4097 d_Pa_findLook_11 rfl ?_
    obtain ⟨m_11, em_11, h⟩ := zbind h
    refine zo_putI 17 zkd_4 8 d_Pa_findLook_14 em_11 rfl rfl rfl tw_306 rfl ?_
    refine zi_iconst 0 d_Pa_findLook_17 rfl ?_
    refine zi_istore_n [(2, .int 0), (0, .ref a0), (1, .ref a1)] d_Pa_findLook_18 (by decide) rfl ?_
    refine zi_lo [(0, .ref a0), (2, .int 0)] [1, 0] rfl ?_
    exact K_Pa_findLook_b19 n E S a0 0 m_11 r M'  h
  · rw [if_neg c_10] at h
    refine zi_iconst 0 d_Pa_findLook_8 rfl ?_
    cases h
    exact zo_retB d_Pa_findLook_9 (Nat.le_of_ble_eq_true rfl) (Nat.le_of_ble_eq_true rfl) rfl
theorem C_Pa_findLook (n : Nat) (E : zE) (S : zS) (a0 : Nat) (a1 : Nat) (M : zH) (r : Bool) (M' : zH) (h : F_Pa_findLook n E S a0 a1 M = some (r, M')) : zC E Y_Pa_findLook [.ref a0, .ref a1] S M (some (.int (bI r)), S, M') :=
  zC.of (Or.inl (show plainName "NightColander$Paper" = true by decide)) (Nat.le_of_ble_eq_true rfl) (bI_nar r) (K_Pa_findLook n E S a0 a1 M r M' h)
theorem d_NC_look_0 : decode (yB Y_NC_look) 0 = .ok (.iload_n 1, 1) := by decide +kernel
theorem d_NC_look_1 : decode (yB Y_NC_look) 1 = .ok (.iconst 0, 1) := by decide +kernel
theorem d_NC_look_2 : decode (yB Y_NC_look) 2 = .ok (.iconst 1, 1) := by decide +kernel
theorem d_NC_look_3 : decode (yB Y_NC_look) 3 = .ok (.invokestatic 132, 3) := by decide +kernel
theorem d_NC_look_6 : decode (yB Y_NC_look) 6 = .ok (.ifCond .eq 17, 3) := by decide +kernel
theorem d_NC_look_9 : decode (yB Y_NC_look) 9 = .ok (.aload_n 0, 1) := by decide +kernel
theorem d_NC_look_10 : decode (yB Y_NC_look) 10 = .ok (.getfield 86, 3) := by decide +kernel
theorem d_NC_look_13 : decode (yB Y_NC_look) 13 = .ok (.aload_n 0, 1) := by decide +kernel
theorem d_NC_look_14 : decode (yB Y_NC_look) 14 = .ok (.getfield 12, 3) := by decide +kernel
theorem d_NC_look_17 : decode (yB Y_NC_look) 17 = .ok (.invokevirtual 282, 3) := by decide +kernel
theorem d_NC_look_20 : decode (yB Y_NC_look) 20 = .ok (.ifCond .ne 5, 3) := by decide +kernel
theorem d_NC_look_23 : decode (yB Y_NC_look) 23 = .ok (.iconst (-1), 1) := by decide +kernel
theorem d_NC_look_24 : decode (yB Y_NC_look) 24 = .ok (.ireturn, 1) := by decide +kernel
theorem d_NC_look_25 : decode (yB Y_NC_look) 25 = .ok (.iload_n 1, 1) := by decide +kernel
theorem d_NC_look_26 : decode (yB Y_NC_look) 26 = .ok (.ifCond .ne 13, 3) := by decide +kernel
theorem d_NC_look_29 : decode (yB Y_NC_look) 29 = .ok (.aload_n 0, 1) := by decide +kernel
theorem d_NC_look_30 : decode (yB Y_NC_look) 30 = .ok (.getfield 86, 3) := by decide +kernel
theorem d_NC_look_33 : decode (yB Y_NC_look) 33 = .ok (.getfield 286, 3) := by decide +kernel
theorem d_NC_look_36 : decode (yB Y_NC_look) 36 = .ok (.goto 10, 3) := by decide +kernel
theorem d_NC_look_39 : decode (yB Y_NC_look) 39 = .ok (.aload_n 0, 1) := by decide +kernel
theorem d_NC_look_40 : decode (yB Y_NC_look) 40 = .ok (.getfield 86, 3) := by decide +kernel
theorem d_NC_look_43 : decode (yB Y_NC_look) 43 = .ok (.getfield 267, 3) := by decide +kernel
theorem d_NC_look_46 : decode (yB Y_NC_look) 46 = .ok (.ireturn, 1) := by decide +kernel
def F_NC_look (n : Nat) (E : zE) (S : zS) (a0 : Nat) (x1 : Int32) (M : zH) : Option (Int32 × zH) :=
  (F_NC_within n E S x1 0 1 M).bind fun q_1 =>
  if q_1.1 = true then
    (zgR S a0 10 12).bind fun b_3 =>
    (zgR S a0 10 0).bind fun b_4 =>
    (zck S b_3 4).bind fun u_5 =>
    (F_Pa_findLook n E S b_3 b_4 q_1.2).bind fun q_6 =>
    if q_6.1 = true then
      if x1 = 0 then
        (zgI S q_6.2 b_3 4 9).bind fun v_9 =>
        some (v_9, q_6.2)
      else
        (zgI S q_6.2 b_3 4 8).bind fun v_10 =>
        some (v_10, q_6.2)
    else
      some ((-1), q_6.2)
  else
    some ((-1), q_1.2)
theorem K_NC_look (n : Nat) (E : zE) (S : zS) (a0 : Nat) (x1 : Int32) (M : zH) (r : Int32) (M' : zH)  (h : F_NC_look n E S a0 x1 M = some (r, M')) : zG E Y_NC_look (some (.int r), S, M') 0 [(0, .ref a0), (1, .int x1)] [] S M 0 0 := by
  unfold F_NC_look at h
  refine zi_iload_n 1 d_NC_look_0 rfl ?_
  refine zi_iconst 0 d_NC_look_1 rfl ?_
  refine zi_iconst 1 d_NC_look_2 rfl ?_
  obtain ⟨q_1, eq_1, h⟩ := zbind h
  refine zo_stat (k' := 0) (n' := 0) 6 [.int x1, .int 0, .int 1] [] [.int (bI q_1.1)] (C_NC_within n E S x1 0 1 M q_1.1 q_1.2 eq_1) d_NC_look_3 tw_399 tw_397 tw_398 tw_1 dd_NC_within ⟨Nat.le_of_ble_eq_true rfl, Nat.le_of_ble_eq_true rfl, Nat.le_of_ble_eq_true rfl, Nat.le_of_ble_eq_true rfl⟩ (Nat.le_of_ble_eq_true rfl) rfl rfl rfl rfl ?_
  refine zo_ifeqB d_NC_look_6 rfl 9 rfl (fun c_2 => ?_) (fun c_2 => ?_)
  · rw [if_neg c_2] at h
    refine zi_iconst (-1) d_NC_look_23 rfl ?_
    cases h
    exact zo_ret d_NC_look_24 (Nat.le_of_ble_eq_true rfl) (Nat.le_of_ble_eq_true rfl) rfl
  · rw [if_pos c_2] at h
    refine zi_aload_n 0 d_NC_look_9 rfl ?_
    obtain ⟨b_3, eb_3, h⟩ := zbind h
    refine zo_getR 13 zkd_10 12 d_NC_look_10 eb_3 rfl tw_344 rfl ?_
    refine zi_aload_n 0 d_NC_look_13 rfl ?_
    obtain ⟨b_4, eb_4, h⟩ := zbind h
    refine zo_getR 17 zkd_10 0 d_NC_look_14 eb_4 rfl tw_332 rfl ?_
    obtain ⟨u_5, eu_5, h⟩ := zbind h
    obtain ⟨q_6, eq_6, h⟩ := zbind h
    refine zo_virt (k' := 0) (n' := 0) 20 [.ref b_4] [] [.int (bI q_6.1)] zkd_4 (zck_s eu_5) (C_Pa_findLook n E S b_3 b_4 q_1.2 q_6.1 q_6.2 eq_6) d_NC_look_17 tw_1067 tw_1064 tw_1065 tw_1066 tw_12 dd_Pa_findLook ⟨Nat.le_of_ble_eq_true rfl, Nat.le_of_ble_eq_true rfl, Nat.le_of_ble_eq_true rfl, Nat.le_of_ble_eq_true rfl⟩ (Nat.le_of_ble_eq_true rfl) rfl rfl rfl rfl ?_
    refine zo_ifneB d_NC_look_20 rfl 23 rfl (fun c_7 => ?_) (fun c_7 => ?_)
    · rw [if_pos c_7] at h
      refine zi_iload_n 1 d_NC_look_25 rfl ?_
      refine zi_if_ne (tgt := 39) d_NC_look_26 rfl (fun c_8 => ?_) (fun c_8 => ?_)
      · rw [if_neg c_8] at h
        refine zi_aload_n 0 d_NC_look_39 rfl ?_
        refine zo_getR 43 zkd_10 12 d_NC_look_40 eb_3 rfl tw_344 rfl ?_
        obtain ⟨v_10, ev_10, h⟩ := zbind h
        refine zo_getI 46 zkd_4 8 d_NC_look_43 ev_10 rfl tw_307 rfl ?_
        cases h
        exact zo_ret d_NC_look_46 (Nat.le_of_ble_eq_true rfl) (Nat.le_of_ble_eq_true rfl) rfl
      · rw [if_pos c_8] at h
        refine zi_aload_n 0 d_NC_look_29 rfl ?_
        refine zo_getR 33 zkd_10 12 d_NC_look_30 eb_3 rfl tw_344 rfl ?_
        obtain ⟨v_9, ev_9, h⟩ := zbind h
        refine zo_getI 36 zkd_4 9 d_NC_look_33 ev_9 rfl tw_309 rfl ?_
        refine zi_goto (tgt := 46) d_NC_look_36 rfl ?_
        cases h
        exact zo_ret d_NC_look_46 (Nat.le_of_ble_eq_true rfl) (Nat.le_of_ble_eq_true rfl) rfl
    · rw [if_neg c_7] at h
      refine zi_iconst (-1) d_NC_look_23 rfl ?_
      cases h
      exact zo_ret d_NC_look_24 (Nat.le_of_ble_eq_true rfl) (Nat.le_of_ble_eq_true rfl) rfl
theorem C_NC_look (n : Nat) (E : zE) (S : zS) (a0 : Nat) (x1 : Int32) (M : zH) (r : Int32) (M' : zH) (h : F_NC_look n E S a0 x1 M = some (r, M')) : zC E Y_NC_look [.ref a0, .int x1] S M (some (.int r), S, M') :=
  zC.of (Or.inl (show plainName "NightColander" = true by decide)) (Nat.le_of_ble_eq_true rfl) (trivial) (K_NC_look n E S a0 x1 M r M' h)
theorem d_Pa_givesWanted_0 : decode (yB Y_Pa_givesWanted) 0 = .ok (.iconst 0, 1) := by decide +kernel
theorem d_Pa_givesWanted_1 : decode (yB Y_Pa_givesWanted) 1 = .ok (.istore_n 3, 1) := by decide +kernel
theorem d_Pa_givesWanted_2 : decode (yB Y_Pa_givesWanted) 2 = .ok (.iload_n 3, 1) := by decide +kernel
theorem d_Pa_givesWanted_3 : decode (yB Y_Pa_givesWanted) 3 = .ok (.bipush 8, 2) := by decide +kernel
theorem d_Pa_givesWanted_5 : decode (yB Y_Pa_givesWanted) 5 = .ok (.if_icmp .ge 36, 3) := by decide +kernel
theorem d_Pa_givesWanted_8 : decode (yB Y_Pa_givesWanted) 8 = .ok (.aload_n 1, 1) := by decide +kernel
theorem d_Pa_givesWanted_9 : decode (yB Y_Pa_givesWanted) 9 = .ok (.getfield 161, 3) := by decide +kernel
theorem d_Pa_givesWanted_12 : decode (yB Y_Pa_givesWanted) 12 = .ok (.iload_n 3, 1) := by decide +kernel
theorem d_Pa_givesWanted_13 : decode (yB Y_Pa_givesWanted) 13 = .ok (.iaload, 1) := by decide +kernel
theorem d_Pa_givesWanted_14 : decode (yB Y_Pa_givesWanted) 14 = .ok (.iconst (-1), 1) := by decide +kernel
theorem d_Pa_givesWanted_15 : decode (yB Y_Pa_givesWanted) 15 = .ok (.if_icmp .eq 20, 3) := by decide +kernel
theorem d_Pa_givesWanted_18 : decode (yB Y_Pa_givesWanted) 18 = .ok (.aload_n 0, 1) := by decide +kernel
theorem d_Pa_givesWanted_19 : decode (yB Y_Pa_givesWanted) 19 = .ok (.iload_n 2, 1) := by decide +kernel
theorem d_Pa_givesWanted_20 : decode (yB Y_Pa_givesWanted) 20 = .ok (.iload_n 3, 1) := by decide +kernel
theorem d_Pa_givesWanted_21 : decode (yB Y_Pa_givesWanted) 21 = .ok (.invokevirtual 128, 3) := by decide +kernel
theorem d_Pa_givesWanted_24 : decode (yB Y_Pa_givesWanted) 24 = .ok (.aload_n 1, 1) := by decide +kernel
theorem d_Pa_givesWanted_25 : decode (yB Y_Pa_givesWanted) 25 = .ok (.getfield 161, 3) := by decide +kernel
theorem d_Pa_givesWanted_28 : decode (yB Y_Pa_givesWanted) 28 = .ok (.iload_n 3, 1) := by decide +kernel
theorem d_Pa_givesWanted_29 : decode (yB Y_Pa_givesWanted) 29 = .ok (.iaload, 1) := by decide +kernel
theorem d_Pa_givesWanted_30 : decode (yB Y_Pa_givesWanted) 30 = .ok (.if_icmp .eq 5, 3) := by decide +kernel
theorem d_Pa_givesWanted_33 : decode (yB Y_Pa_givesWanted) 33 = .ok (.iconst 0, 1) := by decide +kernel
theorem d_Pa_givesWanted_34 : decode (yB Y_Pa_givesWanted) 34 = .ok (.ireturn, 1) := by decide +kernel
theorem d_Pa_givesWanted_35 : decode (yB Y_Pa_givesWanted) 35 = .ok (.iinc 3 1, 3) := by decide +kernel
theorem d_Pa_givesWanted_38 : decode (yB Y_Pa_givesWanted) 38 = .ok (.goto (-36), 3) := by decide +kernel
theorem d_Pa_givesWanted_41 : decode (yB Y_Pa_givesWanted) 41 = .ok (.iconst 1, 1) := by decide +kernel
theorem d_Pa_givesWanted_42 : decode (yB Y_Pa_givesWanted) 42 = .ok (.ireturn, 1) := by decide +kernel
def F_Pa_givesWanted_b35 (n : Nat) (E : zE) (S : zS) (r2 : Nat × Nat × Int32 × Int32 × zH → Option (Bool × zH)) (a0 : Nat) (a1 : Nat) (x2 : Int32) (x3 : Int32) (M : zH) : Option (Bool × zH) :=
  r2 (a0, a1, x2, x3 + 1, M)
def F_Pa_givesWanted_L2 (n : Nat) (E : zE) (S : zS) (r2 : Nat × Nat × Int32 × Int32 × zH → Option (Bool × zH)) (a0 : Nat) (a1 : Nat) (x2 : Int32) (x3 : Int32) (M : zH) : Option (Bool × zH) :=
  if 8 ≤ x3 then
    some (true, M)
  else
    (zgR S a1 3 6).bind fun b_2 =>
    (zldI S M b_2 x3).bind fun v_3 =>
    if v_3 = (-1) then
      F_Pa_givesWanted_b35 n E S r2 a0 a1 x2 x3 M
    else
      (zck S a0 4).bind fun u_5 =>
      (F_Pa_threadsBy n E S a0 x2 x3 M).bind fun q_6 =>
      (zldI S q_6.2 b_2 x3).bind fun v_7 =>
      if q_6.1 = v_7 then
        F_Pa_givesWanted_b35 n E S r2 a0 a1 x2 x3 q_6.2
      else
        some (false, q_6.2)
def F_Pa_givesWanted_b2 (n : Nat) (E : zE) (S : zS) : Nat × Nat × Int32 × Int32 × zH → Option (Bool × zH) := zfix (fun r2 s => F_Pa_givesWanted_L2 n E S r2 s.1 s.2.1 s.2.2.1 s.2.2.2.1 s.2.2.2.2) n
def F_Pa_givesWanted (n : Nat) (E : zE) (S : zS) (a0 : Nat) (a1 : Nat) (x2 : Int32) (M : zH) : Option (Bool × zH) :=
  F_Pa_givesWanted_b2 n E S (a0, a1, x2, 0, M)
theorem K_Pa_givesWanted_b35 (n : Nat) (E : zE) (S : zS) (r2 : Nat × Nat × Int32 × Int32 × zH → Option (Bool × zH)) (a0 : Nat) (a1 : Nat) (x2 : Int32) (x3 : Int32) (M : zH) (r : Bool) (M' : zH) (hr2 : ∀ (a0 : Nat) (a1 : Nat) (x2 : Int32) (x3 : Int32) (M : zH), r2 (a0, a1, x2, x3, M) = some (r, M') → zG E Y_Pa_givesWanted (some (.int (bI r)), S, M') 2 [(0, .ref a0), (1, .ref a1), (2, .int x2), (3, .int x3)] [] S M 0 0) (h : F_Pa_givesWanted_b35 n E S r2 a0 a1 x2 x3 M = some (r, M')) : zG E Y_Pa_givesWanted (some (.int (bI r)), S, M') 35 [(0, .ref a0), (1, .ref a1), (2, .int x2), (3, .int x3)] [] S M 0 0 := by
  unfold F_Pa_givesWanted_b35 at h
  refine zi_iinc 3 (x3 + 1) [(3, .int (x3 + 1)), (0, .ref a0), (1, .ref a1), (2, .int x2)] d_Pa_givesWanted_35 rfl rfl (by decide) rfl ?_
  refine zi_goto (tgt := 2) d_Pa_givesWanted_38 rfl ?_
  refine zi_lo [(0, .ref a0), (1, .ref a1), (2, .int x2), (3, .int (x3 + 1))] [1, 2, 3, 0] rfl ?_
  exact hr2 a0 a1 x2 (x3 + 1) M h
theorem K_Pa_givesWanted_L2 (n : Nat) (E : zE) (S : zS) (r2 : Nat × Nat × Int32 × Int32 × zH → Option (Bool × zH)) (a0 : Nat) (a1 : Nat) (x2 : Int32) (x3 : Int32) (M : zH) (r : Bool) (M' : zH) (hr2 : ∀ (a0 : Nat) (a1 : Nat) (x2 : Int32) (x3 : Int32) (M : zH), r2 (a0, a1, x2, x3, M) = some (r, M') → zG E Y_Pa_givesWanted (some (.int (bI r)), S, M') 2 [(0, .ref a0), (1, .ref a1), (2, .int x2), (3, .int x3)] [] S M 0 0) (h : F_Pa_givesWanted_L2 n E S r2 a0 a1 x2 x3 M = some (r, M')) : zG E Y_Pa_givesWanted (some (.int (bI r)), S, M') 2 [(0, .ref a0), (1, .ref a1), (2, .int x2), (3, .int x3)] [] S M 0 0 := by
  unfold F_Pa_givesWanted_L2 at h
  refine zi_iload_n 3 d_Pa_givesWanted_2 rfl ?_
  refine zi_bipush 8 d_Pa_givesWanted_3 rfl ?_
  refine zi_icmp_ge (tgt := 41) d_Pa_givesWanted_5 rfl (fun c_1 => ?_) (fun c_1 => ?_)
  · rw [if_pos c_1] at h
    refine zi_iconst 1 d_Pa_givesWanted_41 rfl ?_
    cases h
    exact zo_retB d_Pa_givesWanted_42 (Nat.le_of_ble_eq_true rfl) (Nat.le_of_ble_eq_true rfl) rfl
  · rw [if_neg c_1] at h
    refine zi_aload_n 1 d_Pa_givesWanted_8 rfl ?_
    obtain ⟨b_2, eb_2, h⟩ := zbind h
    refine zo_getR 12 zkd_3 6 d_Pa_givesWanted_9 eb_2 rfl tw_75 rfl ?_
    refine zi_iload_n 3 d_Pa_givesWanted_12 rfl ?_
    obtain ⟨v_3, ev_3, h⟩ := zbind h
    refine zo_iald 14 d_Pa_givesWanted_13 ev_3 rfl ?_
    refine zi_iconst (-1) d_Pa_givesWanted_14 rfl ?_
    refine zi_icmp_eq (tgt := 35) d_Pa_givesWanted_15 rfl (fun c_4 => ?_) (fun c_4 => ?_)
    · rw [if_pos c_4] at h
      refine zi_lo [(0, .ref a0), (1, .ref a1), (2, .int x2), (3, .int x3)] [0, 1, 2, 3] rfl ?_
      exact K_Pa_givesWanted_b35 n E S r2 a0 a1 x2 x3 M r M' hr2 h
    · rw [if_neg c_4] at h
      refine zi_aload_n 0 d_Pa_givesWanted_18 rfl ?_
      refine zi_iload_n 2 d_Pa_givesWanted_19 rfl ?_
      refine zi_iload_n 3 d_Pa_givesWanted_20 rfl ?_
      obtain ⟨u_5, eu_5, h⟩ := zbind h
      obtain ⟨q_6, eq_6, h⟩ := zbind h
      refine zo_virt (k' := 0) (n' := 0) 24 [.int x2, .int x3] [] [.int q_6.1] zkd_4 (zck_s eu_5) (C_Pa_threadsBy n E S a0 x2 x3 M q_6.1 q_6.2 eq_6) d_Pa_givesWanted_21 tw_1052 tw_1049 tw_1051 ts_30 tw_12 dd_Pa_threadsBy ⟨Nat.le_of_ble_eq_true rfl, Nat.le_of_ble_eq_true rfl, Nat.le_of_ble_eq_true rfl, Nat.le_of_ble_eq_true rfl⟩ (Nat.le_of_ble_eq_true rfl) rfl rfl rfl rfl ?_
      refine zi_aload_n 1 d_Pa_givesWanted_24 rfl ?_
      refine zo_getR 28 zkd_3 6 d_Pa_givesWanted_25 eb_2 rfl tw_75 rfl ?_
      refine zi_iload_n 3 d_Pa_givesWanted_28 rfl ?_
      obtain ⟨v_7, ev_7, h⟩ := zbind h
      refine zo_iald 30 d_Pa_givesWanted_29 ev_7 rfl ?_
      refine zi_icmp_eq (tgt := 35) d_Pa_givesWanted_30 rfl (fun c_8 => ?_) (fun c_8 => ?_)
      · rw [if_pos c_8] at h
        refine zi_lo [(0, .ref a0), (1, .ref a1), (2, .int x2), (3, .int x3)] [0, 1, 2, 3] rfl ?_
        exact K_Pa_givesWanted_b35 n E S r2 a0 a1 x2 x3 q_6.2 r M' hr2 h
      · rw [if_neg c_8] at h
        refine zi_iconst 0 d_Pa_givesWanted_33 rfl ?_
        cases h
        exact zo_retB d_Pa_givesWanted_34 (Nat.le_of_ble_eq_true rfl) (Nat.le_of_ble_eq_true rfl) rfl
theorem K_Pa_givesWanted_b2 (n : Nat) (E : zE) (S : zS) (a0 : Nat) (a1 : Nat) (x2 : Int32) (x3 : Int32) (M : zH) (r : Bool) (M' : zH)  (h : F_Pa_givesWanted_b2 n E S (a0, a1, x2, x3, M) = some (r, M')) : zG E Y_Pa_givesWanted (some (.int (bI r)), S, M') 2 [(0, .ref a0), (1, .ref a1), (2, .int x2), (3, .int x3)] [] S M 0 0 := by
  have key : ∀ (k : Nat) (a0 : Nat) (a1 : Nat) (x2 : Int32) (x3 : Int32) (M : zH), zfix (fun r2 s => F_Pa_givesWanted_L2 n E S r2 s.1 s.2.1 s.2.2.1 s.2.2.2.1 s.2.2.2.2) k (a0, a1, x2, x3, M) = some (r, M') → zG E Y_Pa_givesWanted (some (.int (bI r)), S, M') 2 [(0, .ref a0), (1, .ref a1), (2, .int x2), (3, .int x3)] [] S M 0 0 := by
    intro k
    induction k with
    | zero => intro a0 a1 x2 x3 M h; cases h
    | succ k ih => intro a0 a1 x2 x3 M h; exact K_Pa_givesWanted_L2 n E S _ a0 a1 x2 x3 M r M'  (fun a0 a1 x2 x3 M h => ih a0 a1 x2 x3 M h) h
  exact key n a0 a1 x2 x3 M h
theorem K_Pa_givesWanted (n : Nat) (E : zE) (S : zS) (a0 : Nat) (a1 : Nat) (x2 : Int32) (M : zH) (r : Bool) (M' : zH)  (h : F_Pa_givesWanted n E S a0 a1 x2 M = some (r, M')) : zG E Y_Pa_givesWanted (some (.int (bI r)), S, M') 0 [(0, .ref a0), (1, .ref a1), (2, .int x2)] [] S M 0 0 := by
  unfold F_Pa_givesWanted at h
  refine zi_iconst 0 d_Pa_givesWanted_0 rfl ?_
  refine zi_istore_n [(3, .int 0), (0, .ref a0), (1, .ref a1), (2, .int x2)] d_Pa_givesWanted_1 (by decide) rfl ?_
  refine zi_lo [(0, .ref a0), (1, .ref a1), (2, .int x2), (3, .int 0)] [1, 2, 3, 0] rfl ?_
  exact K_Pa_givesWanted_b2 n E S a0 a1 x2 0 M r M'  h
theorem C_Pa_givesWanted (n : Nat) (E : zE) (S : zS) (a0 : Nat) (a1 : Nat) (x2 : Int32) (M : zH) (r : Bool) (M' : zH) (h : F_Pa_givesWanted n E S a0 a1 x2 M = some (r, M')) : zC E Y_Pa_givesWanted [.ref a0, .ref a1, .int x2] S M (some (.int (bI r)), S, M') :=
  zC.of (Or.inl (show plainName "NightColander$Paper" = true by decide)) (Nat.le_of_ble_eq_true rfl) (bI_nar r) (K_Pa_givesWanted n E S a0 a1 x2 M r M' h)
theorem d_Pa_stepsTo_0 : decode (yB Y_Pa_stepsTo) 0 = .ok (.iconst 0, 1) := by decide +kernel
theorem d_Pa_stepsTo_1 : decode (yB Y_Pa_stepsTo) 1 = .ok (.istore_n 2, 1) := by decide +kernel
theorem d_Pa_stepsTo_2 : decode (yB Y_Pa_stepsTo) 2 = .ok (.iconst 0, 1) := by decide +kernel
theorem d_Pa_stepsTo_3 : decode (yB Y_Pa_stepsTo) 3 = .ok (.istore_n 3, 1) := by decide +kernel
theorem d_Pa_stepsTo_4 : decode (yB Y_Pa_stepsTo) 4 = .ok (.iload_n 3, 1) := by decide +kernel
theorem d_Pa_stepsTo_5 : decode (yB Y_Pa_stepsTo) 5 = .ok (.iconst 4, 1) := by decide +kernel
theorem d_Pa_stepsTo_6 : decode (yB Y_Pa_stepsTo) 6 = .ok (.if_icmp .ge 43, 3) := by decide +kernel
theorem d_Pa_stepsTo_9 : decode (yB Y_Pa_stepsTo) 9 = .ok (.iload_n 1, 1) := by decide +kernel
theorem d_Pa_stepsTo_10 : decode (yB Y_Pa_stepsTo) 10 = .ok (.iconst 3, 1) := by decide +kernel
theorem d_Pa_stepsTo_11 : decode (yB Y_Pa_stepsTo) 11 = .ok (.iconst 3, 1) := by decide +kernel
theorem d_Pa_stepsTo_12 : decode (yB Y_Pa_stepsTo) 12 = .ok (.iload_n 3, 1) := by decide +kernel
theorem d_Pa_stepsTo_13 : decode (yB Y_Pa_stepsTo) 13 = .ok (.isub, 1) := by decide +kernel
theorem d_Pa_stepsTo_14 : decode (yB Y_Pa_stepsTo) 14 = .ok (.imul, 1) := by decide +kernel
theorem d_Pa_stepsTo_15 : decode (yB Y_Pa_stepsTo) 15 = .ok (.ishr, 1) := by decide +kernel
theorem d_Pa_stepsTo_16 : decode (yB Y_Pa_stepsTo) 16 = .ok (.aload_n 0, 1) := by decide +kernel
theorem d_Pa_stepsTo_17 : decode (yB Y_Pa_stepsTo) 17 = .ok (.getfield 106, 3) := by decide +kernel
theorem d_Pa_stepsTo_20 : decode (yB Y_Pa_stepsTo) 20 = .ok (.iload_n 3, 1) := by decide +kernel
theorem d_Pa_stepsTo_21 : decode (yB Y_Pa_stepsTo) 21 = .ok (.iaload, 1) := by decide +kernel
theorem d_Pa_stepsTo_22 : decode (yB Y_Pa_stepsTo) 22 = .ok (.isub, 1) := by decide +kernel
theorem d_Pa_stepsTo_23 : decode (yB Y_Pa_stepsTo) 23 = .ok (.bipush 8, 2) := by decide +kernel
theorem d_Pa_stepsTo_25 : decode (yB Y_Pa_stepsTo) 25 = .ok (.invokestatic 158, 3) := by decide +kernel
theorem d_Pa_stepsTo_28 : decode (yB Y_Pa_stepsTo) 28 = .ok (.istore 4, 2) := by decide +kernel
theorem d_Pa_stepsTo_30 : decode (yB Y_Pa_stepsTo) 30 = .ok (.iload_n 2, 1) := by decide +kernel
theorem d_Pa_stepsTo_31 : decode (yB Y_Pa_stepsTo) 31 = .ok (.iload 4, 2) := by decide +kernel
theorem d_Pa_stepsTo_33 : decode (yB Y_Pa_stepsTo) 33 = .ok (.bipush 8, 2) := by decide +kernel
theorem d_Pa_stepsTo_35 : decode (yB Y_Pa_stepsTo) 35 = .ok (.iload 4, 2) := by decide +kernel
theorem d_Pa_stepsTo_37 : decode (yB Y_Pa_stepsTo) 37 = .ok (.isub, 1) := by decide +kernel
theorem d_Pa_stepsTo_38 : decode (yB Y_Pa_stepsTo) 38 = .ok (.invokestatic 100, 3) := by decide +kernel
theorem d_Pa_stepsTo_41 : decode (yB Y_Pa_stepsTo) 41 = .ok (.iadd, 1) := by decide +kernel
theorem d_Pa_stepsTo_42 : decode (yB Y_Pa_stepsTo) 42 = .ok (.istore_n 2, 1) := by decide +kernel
theorem d_Pa_stepsTo_43 : decode (yB Y_Pa_stepsTo) 43 = .ok (.iinc 3 1, 3) := by decide +kernel
theorem d_Pa_stepsTo_46 : decode (yB Y_Pa_stepsTo) 46 = .ok (.goto (-42), 3) := by decide +kernel
theorem d_Pa_stepsTo_49 : decode (yB Y_Pa_stepsTo) 49 = .ok (.iload_n 2, 1) := by decide +kernel
theorem d_Pa_stepsTo_50 : decode (yB Y_Pa_stepsTo) 50 = .ok (.ireturn, 1) := by decide +kernel
def F_Pa_stepsTo_L4 (n : Nat) (E : zE) (S : zS) (r4 : Nat × Int32 × Int32 × Int32 × zH → Option (Int32 × zH)) (a0 : Nat) (x1 : Int32) (x2 : Int32) (x3 : Int32) (M : zH) : Option (Int32 × zH) :=
  if 4 ≤ x3 then
    some (x2, M)
  else
    (zgR S a0 3 2).bind fun b_2 =>
    (zldI S M b_2 x3).bind fun v_3 =>
    (F_Jm_floorMod n E S ((x1 >>> ((3 * (3 - x3)) &&& (31 : Int32))) - v_3) 8 M).bind fun q_4 =>
    (F_Jm_min n E S q_4.1 (8 - q_4.1) q_4.2).bind fun q_5 =>
    r4 (a0, x1, x2 + q_5.1, x3 + 1, q_5.2)
def F_Pa_stepsTo_b4 (n : Nat) (E : zE) (S : zS) : Nat × Int32 × Int32 × Int32 × zH → Option (Int32 × zH) := zfix (fun r4 s => F_Pa_stepsTo_L4 n E S r4 s.1 s.2.1 s.2.2.1 s.2.2.2.1 s.2.2.2.2) n
def F_Pa_stepsTo (n : Nat) (E : zE) (S : zS) (a0 : Nat) (x1 : Int32) (M : zH) : Option (Int32 × zH) :=
  F_Pa_stepsTo_b4 n E S (a0, x1, 0, 0, M)
theorem K_Pa_stepsTo_L4 (n : Nat) (E : zE) (S : zS) (r4 : Nat × Int32 × Int32 × Int32 × zH → Option (Int32 × zH)) (a0 : Nat) (x1 : Int32) (x2 : Int32) (x3 : Int32) (M : zH) (r : Int32) (M' : zH) (hr4 : ∀ (a0 : Nat) (x1 : Int32) (x2 : Int32) (x3 : Int32) (M : zH), r4 (a0, x1, x2, x3, M) = some (r, M') → zG E Y_Pa_stepsTo (some (.int r), S, M') 4 [(0, .ref a0), (1, .int x1), (2, .int x2), (3, .int x3)] [] S M 0 0) (h : F_Pa_stepsTo_L4 n E S r4 a0 x1 x2 x3 M = some (r, M')) : zG E Y_Pa_stepsTo (some (.int r), S, M') 4 [(0, .ref a0), (1, .int x1), (2, .int x2), (3, .int x3)] [] S M 0 0 := by
  unfold F_Pa_stepsTo_L4 at h
  refine zi_iload_n 3 d_Pa_stepsTo_4 rfl ?_
  refine zi_iconst 4 d_Pa_stepsTo_5 rfl ?_
  refine zi_icmp_ge (tgt := 49) d_Pa_stepsTo_6 rfl (fun c_1 => ?_) (fun c_1 => ?_)
  · rw [if_pos c_1] at h
    refine zi_iload_n 2 d_Pa_stepsTo_49 rfl ?_
    cases h
    exact zo_ret d_Pa_stepsTo_50 (Nat.le_of_ble_eq_true rfl) (Nat.le_of_ble_eq_true rfl) rfl
  · rw [if_neg c_1] at h
    refine zi_iload_n 1 d_Pa_stepsTo_9 rfl ?_
    refine zi_iconst 3 d_Pa_stepsTo_10 rfl ?_
    refine zi_iconst 3 d_Pa_stepsTo_11 rfl ?_
    refine zi_iload_n 3 d_Pa_stepsTo_12 rfl ?_
    refine zi_isub d_Pa_stepsTo_13 ?_
    refine zi_imul d_Pa_stepsTo_14 ?_
    refine zi_ishr d_Pa_stepsTo_15 ?_
    refine zi_aload_n 0 d_Pa_stepsTo_16 rfl ?_
    obtain ⟨b_2, eb_2, h⟩ := zbind h
    refine zo_getR 20 zkd_3 2 d_Pa_stepsTo_17 eb_2 rfl tw_55 rfl ?_
    refine zi_iload_n 3 d_Pa_stepsTo_20 rfl ?_
    obtain ⟨v_3, ev_3, h⟩ := zbind h
    refine zo_iald 22 d_Pa_stepsTo_21 ev_3 rfl ?_
    refine zi_isub d_Pa_stepsTo_22 ?_
    refine zi_bipush 8 d_Pa_stepsTo_23 rfl ?_
    obtain ⟨q_4, eq_4, h⟩ := zbind h
    refine zo_stat (k' := 0) (n' := 0) 28 [.int ((x1 >>> ((3 * (3 - x3)) &&& (31 : Int32))) - v_3), .int 8] [] [.int q_4.1] (C_Jm_floorMod n E S ((x1 >>> ((3 * (3 - x3)) &&& (31 : Int32))) - v_3) 8 M q_4.1 q_4.2 eq_4) d_Pa_stepsTo_25 tw_409 tw_1091 tw_408 tw_14 dd_Jm_floorMod ⟨Nat.le_of_ble_eq_true rfl, Nat.le_of_ble_eq_true rfl, Nat.le_of_ble_eq_true rfl, Nat.le_of_ble_eq_true rfl⟩ (Nat.le_of_ble_eq_true rfl) rfl rfl rfl rfl ?_
    refine zi_istore [(4, .int q_4.1), (0, .ref a0), (1, .int x1), (2, .int x2), (3, .int x3)] d_Pa_stepsTo_28 (by decide) rfl ?_
    refine zi_iload_n 3 d_Pa_stepsTo_30 rfl ?_
    refine zi_iload 0 d_Pa_stepsTo_31 rfl ?_
    refine zi_bipush 8 d_Pa_stepsTo_33 rfl ?_
    refine zi_iload 0 d_Pa_stepsTo_35 rfl ?_
    refine zi_isub d_Pa_stepsTo_37 ?_
    obtain ⟨q_5, eq_5, h⟩ := zbind h
    refine zo_stat (k' := 0) (n' := 0) 41 [.int q_4.1, .int (8 - q_4.1)] [.int x2] [.int q_5.1, .int x2] (C_Jm_min n E S q_4.1 (8 - q_4.1) q_4.2 q_5.1 q_5.2 eq_5) d_Pa_stepsTo_38 tw_433 tw_1004 tw_432 tw_14 dd_Jm_min ⟨Nat.le_of_ble_eq_true rfl, Nat.le_of_ble_eq_true rfl, Nat.le_of_ble_eq_true rfl, Nat.le_of_ble_eq_true rfl⟩ (Nat.le_of_ble_eq_true rfl) rfl rfl rfl rfl ?_
    refine zi_iadd d_Pa_stepsTo_41 ?_
    refine zi_istore_n [(2, .int (x2 + q_5.1)), (4, .int q_4.1), (0, .ref a0), (1, .int x1), (3, .int x3)] d_Pa_stepsTo_42 (by decide) rfl ?_
    refine zi_iinc 4 (x3 + 1) [(3, .int (x3 + 1)), (2, .int (x2 + q_5.1)), (4, .int q_4.1), (0, .ref a0), (1, .int x1)] d_Pa_stepsTo_43 rfl rfl (by decide) rfl ?_
    refine zi_goto (tgt := 4) d_Pa_stepsTo_46 rfl ?_
    refine zi_lo [(0, .ref a0), (1, .int x1), (2, .int (x2 + q_5.1)), (3, .int (x3 + 1))] [3, 4, 1, 0] rfl ?_
    exact hr4 a0 x1 (x2 + q_5.1) (x3 + 1) q_5.2 h
theorem K_Pa_stepsTo_b4 (n : Nat) (E : zE) (S : zS) (a0 : Nat) (x1 : Int32) (x2 : Int32) (x3 : Int32) (M : zH) (r : Int32) (M' : zH)  (h : F_Pa_stepsTo_b4 n E S (a0, x1, x2, x3, M) = some (r, M')) : zG E Y_Pa_stepsTo (some (.int r), S, M') 4 [(0, .ref a0), (1, .int x1), (2, .int x2), (3, .int x3)] [] S M 0 0 := by
  have key : ∀ (k : Nat) (a0 : Nat) (x1 : Int32) (x2 : Int32) (x3 : Int32) (M : zH), zfix (fun r4 s => F_Pa_stepsTo_L4 n E S r4 s.1 s.2.1 s.2.2.1 s.2.2.2.1 s.2.2.2.2) k (a0, x1, x2, x3, M) = some (r, M') → zG E Y_Pa_stepsTo (some (.int r), S, M') 4 [(0, .ref a0), (1, .int x1), (2, .int x2), (3, .int x3)] [] S M 0 0 := by
    intro k
    induction k with
    | zero => intro a0 x1 x2 x3 M h; cases h
    | succ k ih => intro a0 x1 x2 x3 M h; exact K_Pa_stepsTo_L4 n E S _ a0 x1 x2 x3 M r M'  (fun a0 x1 x2 x3 M h => ih a0 x1 x2 x3 M h) h
  exact key n a0 x1 x2 x3 M h
theorem K_Pa_stepsTo (n : Nat) (E : zE) (S : zS) (a0 : Nat) (x1 : Int32) (M : zH) (r : Int32) (M' : zH)  (h : F_Pa_stepsTo n E S a0 x1 M = some (r, M')) : zG E Y_Pa_stepsTo (some (.int r), S, M') 0 [(0, .ref a0), (1, .int x1)] [] S M 0 0 := by
  unfold F_Pa_stepsTo at h
  refine zi_iconst 0 d_Pa_stepsTo_0 rfl ?_
  refine zi_istore_n [(2, .int 0), (0, .ref a0), (1, .int x1)] d_Pa_stepsTo_1 (by decide) rfl ?_
  refine zi_iconst 0 d_Pa_stepsTo_2 rfl ?_
  refine zi_istore_n [(3, .int 0), (2, .int 0), (0, .ref a0), (1, .int x1)] d_Pa_stepsTo_3 (by decide) rfl ?_
  refine zi_lo [(0, .ref a0), (1, .int x1), (2, .int 0), (3, .int 0)] [2, 3, 1, 0] rfl ?_
  exact K_Pa_stepsTo_b4 n E S a0 x1 0 0 M r M'  h
theorem C_Pa_stepsTo (n : Nat) (E : zE) (S : zS) (a0 : Nat) (x1 : Int32) (M : zH) (r : Int32) (M' : zH) (h : F_Pa_stepsTo n E S a0 x1 M = some (r, M')) : zC E Y_Pa_stepsTo [.ref a0, .int x1] S M (some (.int r), S, M') :=
  zC.of (Or.inl (show plainName "NightColander$Paper" = true by decide)) (Nat.le_of_ble_eq_true rfl) (trivial) (K_Pa_stepsTo n E S a0 x1 M r M' h)
theorem d_Pa_findTurns_0 : decode (yB Y_Pa_findTurns) 0 = .ok (.aload_n 0, 1) := by decide +kernel
theorem d_Pa_findTurns_1 : decode (yB Y_Pa_findTurns) 1 = .ok (.aload_n 1, 1) := by decide +kernel
theorem d_Pa_findTurns_2 : decode (yB Y_Pa_findTurns) 2 = .ok (.invokevirtual 134, 3) := by decide +kernel
theorem d_Pa_findTurns_5 : decode (yB Y_Pa_findTurns) 5 = .ok (.aload_n 0, 1) := by decide +kernel
theorem d_Pa_findTurns_6 : decode (yB Y_Pa_findTurns) 6 = .ok (.iconst (-1), 1) := by decide +kernel
theorem d_Pa_findTurns_7 : decode (yB Y_Pa_findTurns) 7 = .ok (.putfield 38, 3) := by decide +kernel
theorem d_Pa_findTurns_10 : decode (yB Y_Pa_findTurns) 10 = .ok (.iconst 0, 1) := by decide +kernel
theorem d_Pa_findTurns_11 : decode (yB Y_Pa_findTurns) 11 = .ok (.istore_n 2, 1) := by decide +kernel
theorem d_Pa_findTurns_12 : decode (yB Y_Pa_findTurns) 12 = .ok (.iload_n 2, 1) := by decide +kernel
theorem d_Pa_findTurns_13 : decode (yB Y_Pa_findTurns) 13 = .ok (.sipush 4096, 3) := by decide +kernel
theorem d_Pa_findTurns_16 : decode (yB Y_Pa_findTurns) 16 = .ok (.if_icmp .ge 57, 3) := by decide +kernel
theorem d_Pa_findTurns_19 : decode (yB Y_Pa_findTurns) 19 = .ok (.aload_n 0, 1) := by decide +kernel
theorem d_Pa_findTurns_20 : decode (yB Y_Pa_findTurns) 20 = .ok (.getfield 38, 3) := by decide +kernel
theorem d_Pa_findTurns_23 : decode (yB Y_Pa_findTurns) 23 = .ok (.ifCond .eq 50, 3) := by decide +kernel
theorem d_Pa_findTurns_26 : decode (yB Y_Pa_findTurns) 26 = .ok (.aload_n 0, 1) := by decide +kernel
theorem d_Pa_findTurns_27 : decode (yB Y_Pa_findTurns) 27 = .ok (.aload_n 1, 1) := by decide +kernel
theorem d_Pa_findTurns_28 : decode (yB Y_Pa_findTurns) 28 = .ok (.iload_n 2, 1) := by decide +kernel
theorem d_Pa_findTurns_29 : decode (yB Y_Pa_findTurns) 29 = .ok (.invokevirtual 152, 3) := by decide +kernel
theorem d_Pa_findTurns_32 : decode (yB Y_Pa_findTurns) 32 = .ok (.ifCond .eq 35, 3) := by decide +kernel
theorem d_Pa_findTurns_35 : decode (yB Y_Pa_findTurns) 35 = .ok (.aload_n 1, 1) := by decide +kernel
theorem d_Pa_findTurns_36 : decode (yB Y_Pa_findTurns) 36 = .ok (.iload_n 2, 1) := by decide +kernel
theorem d_Pa_findTurns_37 : decode (yB Y_Pa_findTurns) 37 = .ok (.invokestatic 155, 3) := by decide +kernel
theorem d_Pa_findTurns_40 : decode (yB Y_Pa_findTurns) 40 = .ok (.istore_n 3, 1) := by decide +kernel
theorem d_Pa_findTurns_41 : decode (yB Y_Pa_findTurns) 41 = .ok (.aload_n 0, 1) := by decide +kernel
theorem d_Pa_findTurns_42 : decode (yB Y_Pa_findTurns) 42 = .ok (.getfield 38, 3) := by decide +kernel
theorem d_Pa_findTurns_45 : decode (yB Y_Pa_findTurns) 45 = .ok (.iconst (-1), 1) := by decide +kernel
theorem d_Pa_findTurns_46 : decode (yB Y_Pa_findTurns) 46 = .ok (.if_icmp .eq 11, 3) := by decide +kernel
theorem d_Pa_findTurns_49 : decode (yB Y_Pa_findTurns) 49 = .ok (.iload_n 3, 1) := by decide +kernel
theorem d_Pa_findTurns_50 : decode (yB Y_Pa_findTurns) 50 = .ok (.aload_n 0, 1) := by decide +kernel
theorem d_Pa_findTurns_51 : decode (yB Y_Pa_findTurns) 51 = .ok (.getfield 38, 3) := by decide +kernel
theorem d_Pa_findTurns_54 : decode (yB Y_Pa_findTurns) 54 = .ok (.if_icmp .ge 13, 3) := by decide +kernel
theorem d_Pa_findTurns_57 : decode (yB Y_Pa_findTurns) 57 = .ok (.aload_n 0, 1) := by decide +kernel
theorem d_Pa_findTurns_58 : decode (yB Y_Pa_findTurns) 58 = .ok (.iload_n 3, 1) := by decide +kernel
theorem d_Pa_findTurns_59 : decode (yB Y_Pa_findTurns) 59 = .ok (.putfield 38, 3) := by decide +kernel
theorem d_Pa_findTurns_62 : decode (yB Y_Pa_findTurns) 62 = .ok (.aload_n 0, 1) := by decide +kernel
theorem d_Pa_findTurns_63 : decode (yB Y_Pa_findTurns) 63 = .ok (.iload_n 2, 1) := by decide +kernel
theorem d_Pa_findTurns_64 : decode (yB Y_Pa_findTurns) 64 = .ok (.putfield 42, 3) := by decide +kernel
theorem d_Pa_findTurns_67 : decode (yB Y_Pa_findTurns) 67 = .ok (.iinc 2 1, 3) := by decide +kernel
theorem d_Pa_findTurns_70 : decode (yB Y_Pa_findTurns) 70 = .ok (.goto (-58), 3) := by decide +kernel
theorem d_Pa_findTurns_73 : decode (yB Y_Pa_findTurns) 73 = .ok (.aload_n 0, 1) := by decide +kernel
theorem d_Pa_findTurns_74 : decode (yB Y_Pa_findTurns) 74 = .ok (.getfield 38, 3) := by decide +kernel
theorem d_Pa_findTurns_77 : decode (yB Y_Pa_findTurns) 77 = .ok (.iconst (-1), 1) := by decide +kernel
theorem d_Pa_findTurns_78 : decode (yB Y_Pa_findTurns) 78 = .ok (.if_icmp .eq 7, 3) := by decide +kernel
theorem d_Pa_findTurns_81 : decode (yB Y_Pa_findTurns) 81 = .ok (.iconst 1, 1) := by decide +kernel
theorem d_Pa_findTurns_82 : decode (yB Y_Pa_findTurns) 82 = .ok (.goto 4, 3) := by decide +kernel
theorem d_Pa_findTurns_85 : decode (yB Y_Pa_findTurns) 85 = .ok (.iconst 0, 1) := by decide +kernel
theorem d_Pa_findTurns_86 : decode (yB Y_Pa_findTurns) 86 = .ok (.ireturn, 1) := by decide +kernel
def F_Pa_findTurns_b67 (n : Nat) (E : zE) (S : zS) (r12 : Nat × Nat × Int32 × zH → Option (Bool × zH)) (a0 : Nat) (a1 : Nat) (x2 : Int32) (M : zH) : Option (Bool × zH) :=
  r12 (a0, a1, x2 + 1, M)
def F_Pa_findTurns_b57 (n : Nat) (E : zE) (S : zS) (r12 : Nat × Nat × Int32 × zH → Option (Bool × zH)) (a0 : Nat) (a1 : Nat) (x2 : Int32) (x3 : Int32) (M : zH) : Option (Bool × zH) :=
  (zpI S M a0 4 8 x3).bind fun m_1 =>
  (zpI S m_1 a0 4 9 x2).bind fun m_2 =>
  F_Pa_findTurns_b67 n E S r12 a0 a1 x2 m_2
def F_Pa_findTurns_b73 (n : Nat) (E : zE) (S : zS) (a0 : Nat) (M : zH) : Option (Bool × zH) :=
  (zgI S M a0 4 8).bind fun v_3 =>
  if v_3 = (-1) then
    some (false, M)
  else
    some (true, M)
def F_Pa_findTurns_L12 (n : Nat) (E : zE) (S : zS) (r12 : Nat × Nat × Int32 × zH → Option (Bool × zH)) (a0 : Nat) (a1 : Nat) (x2 : Int32) (M : zH) : Option (Bool × zH) :=
  if 4096 ≤ x2 then
    F_Pa_findTurns_b73 n E S a0 M
  else
    (zgI S M a0 4 8).bind fun v_6 =>
    if v_6 = 0 then
      F_Pa_findTurns_b73 n E S a0 M
    else
      (F_Pa_givesWanted n E S a0 a1 x2 M).bind fun q_8 =>
      if q_8.1 = true then
        (F_Pa_stepsTo n E S a1 x2 q_8.2).bind fun q_10 =>
        (zgI S q_10.2 a0 4 8).bind fun v_11 =>
        if v_11 = (-1) then
          F_Pa_findTurns_b57 n E S r12 a0 a1 x2 q_10.1 q_10.2
        else
          (zgI S q_10.2 a0 4 8).bind fun v_13 =>
          if v_13 ≤ q_10.1 then
            F_Pa_findTurns_b67 n E S r12 a0 a1 x2 q_10.2
          else
            F_Pa_findTurns_b57 n E S r12 a0 a1 x2 q_10.1 q_10.2
      else
        F_Pa_findTurns_b67 n E S r12 a0 a1 x2 q_8.2
def F_Pa_findTurns_b12 (n : Nat) (E : zE) (S : zS) : Nat × Nat × Int32 × zH → Option (Bool × zH) := zfix (fun r12 s => F_Pa_findTurns_L12 n E S r12 s.1 s.2.1 s.2.2.1 s.2.2.2) n
def F_Pa_findTurns (n : Nat) (E : zE) (S : zS) (a0 : Nat) (a1 : Nat) (M : zH) : Option (Bool × zH) :=
  (zck S a0 4).bind fun u_15 =>
  (F_Pa_findShares n E S a0 a1 M).bind fun q_16 =>
  (zpI S q_16 a0 4 8 (-1)).bind fun m_17 =>
  F_Pa_findTurns_b12 n E S (a0, a1, 0, m_17)
theorem K_Pa_findTurns_b67 (n : Nat) (E : zE) (S : zS) (r12 : Nat × Nat × Int32 × zH → Option (Bool × zH)) (a0 : Nat) (a1 : Nat) (x2 : Int32) (M : zH) (r : Bool) (M' : zH) (hr12 : ∀ (a0 : Nat) (a1 : Nat) (x2 : Int32) (M : zH), r12 (a0, a1, x2, M) = some (r, M') → zG E Y_Pa_findTurns (some (.int (bI r)), S, M') 12 [(0, .ref a0), (1, .ref a1), (2, .int x2)] [] S M 0 0) (h : F_Pa_findTurns_b67 n E S r12 a0 a1 x2 M = some (r, M')) : zG E Y_Pa_findTurns (some (.int (bI r)), S, M') 67 [(0, .ref a0), (1, .ref a1), (2, .int x2)] [] S M 0 0 := by
  unfold F_Pa_findTurns_b67 at h
  refine zi_iinc 2 (x2 + 1) [(2, .int (x2 + 1)), (0, .ref a0), (1, .ref a1)] d_Pa_findTurns_67 rfl rfl (by decide) rfl ?_
  refine zi_goto (tgt := 12) d_Pa_findTurns_70 rfl ?_
  refine zi_lo [(0, .ref a0), (1, .ref a1), (2, .int (x2 + 1))] [1, 2, 0] rfl ?_
  exact hr12 a0 a1 (x2 + 1) M h
theorem K_Pa_findTurns_b57 (n : Nat) (E : zE) (S : zS) (r12 : Nat × Nat × Int32 × zH → Option (Bool × zH)) (a0 : Nat) (a1 : Nat) (x2 : Int32) (x3 : Int32) (M : zH) (r : Bool) (M' : zH) (hr12 : ∀ (a0 : Nat) (a1 : Nat) (x2 : Int32) (M : zH), r12 (a0, a1, x2, M) = some (r, M') → zG E Y_Pa_findTurns (some (.int (bI r)), S, M') 12 [(0, .ref a0), (1, .ref a1), (2, .int x2)] [] S M 0 0) (h : F_Pa_findTurns_b57 n E S r12 a0 a1 x2 x3 M = some (r, M')) : zG E Y_Pa_findTurns (some (.int (bI r)), S, M') 57 [(0, .ref a0), (1, .ref a1), (2, .int x2), (3, .int x3)] [] S M 0 0 := by
  unfold F_Pa_findTurns_b57 at h
  refine zi_aload_n 0 d_Pa_findTurns_57 rfl ?_
  refine zi_iload_n 3 d_Pa_findTurns_58 rfl ?_
  obtain ⟨m_1, em_1, h⟩ := zbind h
  refine zo_putI 62 zkd_4 8 d_Pa_findTurns_59 em_1 rfl rfl rfl tw_306 rfl ?_
  refine zi_aload_n 0 d_Pa_findTurns_62 rfl ?_
  refine zi_iload_n 2 d_Pa_findTurns_63 rfl ?_
  obtain ⟨m_2, em_2, h⟩ := zbind h
  refine zo_putI 67 zkd_4 9 d_Pa_findTurns_64 em_2 rfl rfl rfl tw_308 rfl ?_
  refine zi_lo [(0, .ref a0), (1, .ref a1), (2, .int x2)] [0, 1, 2] rfl ?_
  exact K_Pa_findTurns_b67 n E S r12 a0 a1 x2 m_2 r M' hr12 h
theorem K_Pa_findTurns_b73 (n : Nat) (E : zE) (S : zS) (a0 : Nat) (M : zH) (r : Bool) (M' : zH)  (h : F_Pa_findTurns_b73 n E S a0 M = some (r, M')) : zG E Y_Pa_findTurns (some (.int (bI r)), S, M') 73 [(0, .ref a0)] [] S M 0 0 := by
  unfold F_Pa_findTurns_b73 at h
  refine zi_aload_n 0 d_Pa_findTurns_73 rfl ?_
  obtain ⟨v_3, ev_3, h⟩ := zbind h
  refine zo_getI 77 zkd_4 8 d_Pa_findTurns_74 ev_3 rfl tw_306 rfl ?_
  refine zi_iconst (-1) d_Pa_findTurns_77 rfl ?_
  refine zi_icmp_eq (tgt := 85) d_Pa_findTurns_78 rfl (fun c_4 => ?_) (fun c_4 => ?_)
  · rw [if_pos c_4] at h
    refine zi_iconst 0 d_Pa_findTurns_85 rfl ?_
    cases h
    exact zo_retB d_Pa_findTurns_86 (Nat.le_of_ble_eq_true rfl) (Nat.le_of_ble_eq_true rfl) rfl
  · rw [if_neg c_4] at h
    refine zi_iconst 1 d_Pa_findTurns_81 rfl ?_
    refine zi_goto (tgt := 86) d_Pa_findTurns_82 rfl ?_
    cases h
    exact zo_retB d_Pa_findTurns_86 (Nat.le_of_ble_eq_true rfl) (Nat.le_of_ble_eq_true rfl) rfl
theorem K_Pa_findTurns_L12 (n : Nat) (E : zE) (S : zS) (r12 : Nat × Nat × Int32 × zH → Option (Bool × zH)) (a0 : Nat) (a1 : Nat) (x2 : Int32) (M : zH) (r : Bool) (M' : zH) (hr12 : ∀ (a0 : Nat) (a1 : Nat) (x2 : Int32) (M : zH), r12 (a0, a1, x2, M) = some (r, M') → zG E Y_Pa_findTurns (some (.int (bI r)), S, M') 12 [(0, .ref a0), (1, .ref a1), (2, .int x2)] [] S M 0 0) (h : F_Pa_findTurns_L12 n E S r12 a0 a1 x2 M = some (r, M')) : zG E Y_Pa_findTurns (some (.int (bI r)), S, M') 12 [(0, .ref a0), (1, .ref a1), (2, .int x2)] [] S M 0 0 := by
  unfold F_Pa_findTurns_L12 at h
  refine zi_iload_n 2 d_Pa_findTurns_12 rfl ?_
  refine zi_sipush 4096 d_Pa_findTurns_13 rfl ?_
  refine zi_icmp_ge (tgt := 73) d_Pa_findTurns_16 rfl (fun c_5 => ?_) (fun c_5 => ?_)
  · rw [if_pos c_5] at h
    refine zi_lo [(0, .ref a0)] [0] rfl ?_
    exact K_Pa_findTurns_b73 n E S a0 M r M'  h
  · rw [if_neg c_5] at h
    refine zi_aload_n 0 d_Pa_findTurns_19 rfl ?_
    obtain ⟨v_6, ev_6, h⟩ := zbind h
    refine zo_getI 23 zkd_4 8 d_Pa_findTurns_20 ev_6 rfl tw_306 rfl ?_
    refine zi_if_eq (tgt := 73) d_Pa_findTurns_23 rfl (fun c_7 => ?_) (fun c_7 => ?_)
    · rw [if_pos c_7] at h
      refine zi_lo [(0, .ref a0)] [0] rfl ?_
      exact K_Pa_findTurns_b73 n E S a0 M r M'  h
    · rw [if_neg c_7] at h
      refine zi_aload_n 0 d_Pa_findTurns_26 rfl ?_
      refine zi_aload_n 1 d_Pa_findTurns_27 rfl ?_
      refine zi_iload_n 2 d_Pa_findTurns_28 rfl ?_
      obtain ⟨q_8, eq_8, h⟩ := zbind h
      refine zo_virt (k' := 0) (n' := 0) 32 [.ref a1, .int x2] [] [.int (bI q_8.1)] zkd_4 (zgI_s ev_6).1 (C_Pa_givesWanted n E S a0 a1 x2 M q_8.1 q_8.2 eq_8) d_Pa_findTurns_29 tw_1087 tw_1084 tw_1086 ts_34 tw_12 dd_Pa_givesWanted ⟨Nat.le_of_ble_eq_true rfl, Nat.le_of_ble_eq_true rfl, Nat.le_of_ble_eq_true rfl, Nat.le_of_ble_eq_true rfl⟩ (Nat.le_of_ble_eq_true rfl) rfl rfl rfl rfl ?_
      refine zo_ifeqB d_Pa_findTurns_32 rfl 35 rfl (fun c_9 => ?_) (fun c_9 => ?_)
      · rw [if_neg c_9] at h
        refine zi_lo [(0, .ref a0), (1, .ref a1), (2, .int x2)] [0, 1, 2] rfl ?_
        exact K_Pa_findTurns_b67 n E S r12 a0 a1 x2 q_8.2 r M' hr12 h
      · rw [if_pos c_9] at h
        refine zi_aload_n 1 d_Pa_findTurns_35 rfl ?_
        refine zi_iload_n 2 d_Pa_findTurns_36 rfl ?_
        obtain ⟨q_10, eq_10, h⟩ := zbind h
        refine zo_stat (k' := 0) (n' := 0) 40 [.ref a1, .int x2] [] [.int q_10.1] (C_Pa_stepsTo n E S a1 x2 q_8.2 q_10.1 q_10.2 eq_10) d_Pa_findTurns_37 tw_1090 tw_1088 tw_1089 tw_12 dd_Pa_stepsTo ⟨Nat.le_of_ble_eq_true rfl, Nat.le_of_ble_eq_true rfl, Nat.le_of_ble_eq_true rfl, Nat.le_of_ble_eq_true rfl⟩ (Nat.le_of_ble_eq_true rfl) rfl rfl rfl rfl ?_
        refine zi_istore_n [(3, .int q_10.1), (0, .ref a0), (1, .ref a1), (2, .int x2)] d_Pa_findTurns_40 (by decide) rfl ?_
        refine zi_aload_n 1 d_Pa_findTurns_41 rfl ?_
        obtain ⟨v_11, ev_11, h⟩ := zbind h
        refine zo_getI 45 zkd_4 8 d_Pa_findTurns_42 ev_11 rfl tw_306 rfl ?_
        refine zi_iconst (-1) d_Pa_findTurns_45 rfl ?_
        refine zi_icmp_eq (tgt := 57) d_Pa_findTurns_46 rfl (fun c_12 => ?_) (fun c_12 => ?_)
        · rw [if_pos c_12] at h
          refine zi_lo [(0, .ref a0), (1, .ref a1), (2, .int x2), (3, .int q_10.1)] [1, 2, 3, 0] rfl ?_
          exact K_Pa_findTurns_b57 n E S r12 a0 a1 x2 q_10.1 q_10.2 r M' hr12 h
        · rw [if_neg c_12] at h
          refine zi_iload_n 0 d_Pa_findTurns_49 rfl ?_
          refine zi_aload_n 1 d_Pa_findTurns_50 rfl ?_
          obtain ⟨v_13, ev_13, h⟩ := zbind h
          refine zo_getI 54 zkd_4 8 d_Pa_findTurns_51 ev_13 rfl tw_306 rfl ?_
          refine zi_icmp_ge (tgt := 67) d_Pa_findTurns_54 rfl (fun c_14 => ?_) (fun c_14 => ?_)
          · rw [if_pos c_14] at h
            refine zi_lo [(0, .ref a0), (1, .ref a1), (2, .int x2)] [1, 2, 3] rfl ?_
            exact K_Pa_findTurns_b67 n E S r12 a0 a1 x2 q_10.2 r M' hr12 h
          · rw [if_neg c_14] at h
            refine zi_lo [(0, .ref a0), (1, .ref a1), (2, .int x2), (3, .int q_10.1)] [1, 2, 3, 0] rfl ?_
            exact K_Pa_findTurns_b57 n E S r12 a0 a1 x2 q_10.1 q_10.2 r M' hr12 h
theorem K_Pa_findTurns_b12 (n : Nat) (E : zE) (S : zS) (a0 : Nat) (a1 : Nat) (x2 : Int32) (M : zH) (r : Bool) (M' : zH)  (h : F_Pa_findTurns_b12 n E S (a0, a1, x2, M) = some (r, M')) : zG E Y_Pa_findTurns (some (.int (bI r)), S, M') 12 [(0, .ref a0), (1, .ref a1), (2, .int x2)] [] S M 0 0 := by
  have key : ∀ (k : Nat) (a0 : Nat) (a1 : Nat) (x2 : Int32) (M : zH), zfix (fun r12 s => F_Pa_findTurns_L12 n E S r12 s.1 s.2.1 s.2.2.1 s.2.2.2) k (a0, a1, x2, M) = some (r, M') → zG E Y_Pa_findTurns (some (.int (bI r)), S, M') 12 [(0, .ref a0), (1, .ref a1), (2, .int x2)] [] S M 0 0 := by
    intro k
    induction k with
    | zero => intro a0 a1 x2 M h; cases h
    | succ k ih => intro a0 a1 x2 M h; exact K_Pa_findTurns_L12 n E S _ a0 a1 x2 M r M'  (fun a0 a1 x2 M h => ih a0 a1 x2 M h) h
  exact key n a0 a1 x2 M h
theorem K_Pa_findTurns (n : Nat) (E : zE) (S : zS) (a0 : Nat) (a1 : Nat) (M : zH) (r : Bool) (M' : zH)  (h : F_Pa_findTurns n E S a0 a1 M = some (r, M')) : zG E Y_Pa_findTurns (some (.int (bI r)), S, M') 0 [(0, .ref a0), (1, .ref a1)] [] S M 0 0 := by
  unfold F_Pa_findTurns at h
  refine zi_aload_n 0 d_Pa_findTurns_0 rfl ?_
  refine zi_aload_n 1 d_Pa_findTurns_1 rfl ?_
  obtain ⟨u_15, eu_15, h⟩ := zbind h
  obtain ⟨q_16, eq_16, h⟩ := zbind h
  refine zo_virt (k' := 0) (n' := 0) 5 [.ref a1] [] [] zkd_4 (zck_s eu_15) (C_Pa_findShares n E S a0 a1 M q_16 eq_16) d_Pa_findTurns_2 tw_1039 tw_1036 tw_1038 ts_28 tw_12 dd_Pa_findShares ⟨Nat.le_of_ble_eq_true rfl, Nat.le_of_ble_eq_true rfl, Nat.le_of_ble_eq_true rfl, Nat.le_of_ble_eq_true rfl⟩ (Nat.le_of_ble_eq_true rfl) rfl rfl rfl rfl ?_
  refine zi_aload_n 0 d_Pa_findTurns_5 rfl ?_
  refine zi_iconst (-1) d_Pa_findTurns_6 rfl ?_
  obtain ⟨m_17, em_17, h⟩ := zbind h
  refine zo_putI 10 zkd_4 8 d_Pa_findTurns_7 em_17 rfl rfl rfl tw_306 rfl ?_
  refine zi_iconst 0 d_Pa_findTurns_10 rfl ?_
  refine zi_istore_n [(2, .int 0), (0, .ref a0), (1, .ref a1)] d_Pa_findTurns_11 (by decide) rfl ?_
  refine zi_lo [(0, .ref a0), (1, .ref a1), (2, .int 0)] [1, 2, 0] rfl ?_
  exact K_Pa_findTurns_b12 n E S a0 a1 0 m_17 r M'  h
theorem C_Pa_findTurns (n : Nat) (E : zE) (S : zS) (a0 : Nat) (a1 : Nat) (M : zH) (r : Bool) (M' : zH) (h : F_Pa_findTurns n E S a0 a1 M = some (r, M')) : zC E Y_Pa_findTurns [.ref a0, .ref a1] S M (some (.int (bI r)), S, M') :=
  zC.of (Or.inl (show plainName "NightColander$Paper" = true by decide)) (Nat.le_of_ble_eq_true rfl) (bI_nar r) (K_Pa_findTurns n E S a0 a1 M r M' h)
theorem d_NC_turned_0 : decode (yB Y_NC_turned) 0 = .ok (.iload_n 1, 1) := by decide +kernel
theorem d_NC_turned_1 : decode (yB Y_NC_turned) 1 = .ok (.iconst (-1), 1) := by decide +kernel
theorem d_NC_turned_2 : decode (yB Y_NC_turned) 2 = .ok (.iconst 3, 1) := by decide +kernel
theorem d_NC_turned_3 : decode (yB Y_NC_turned) 3 = .ok (.invokestatic 132, 3) := by decide +kernel
theorem d_NC_turned_6 : decode (yB Y_NC_turned) 6 = .ok (.ifCond .eq 17, 3) := by decide +kernel
theorem d_NC_turned_9 : decode (yB Y_NC_turned) 9 = .ok (.aload_n 0, 1) := by decide +kernel
theorem d_NC_turned_10 : decode (yB Y_NC_turned) 10 = .ok (.getfield 86, 3) := by decide +kernel
theorem d_NC_turned_13 : decode (yB Y_NC_turned) 13 = .ok (.aload_n 0, 1) := by decide +kernel
theorem d_NC_turned_14 : decode (yB Y_NC_turned) 14 = .ok (.getfield 12, 3) := by decide +kernel
theorem d_NC_turned_17 : decode (yB Y_NC_turned) 17 = .ok (.invokevirtual 289, 3) := by decide +kernel
theorem d_NC_turned_20 : decode (yB Y_NC_turned) 20 = .ok (.ifCond .ne 5, 3) := by decide +kernel
theorem d_NC_turned_23 : decode (yB Y_NC_turned) 23 = .ok (.iconst (-1), 1) := by decide +kernel
theorem d_NC_turned_24 : decode (yB Y_NC_turned) 24 = .ok (.ireturn, 1) := by decide +kernel
theorem d_NC_turned_25 : decode (yB Y_NC_turned) 25 = .ok (.iload_n 1, 1) := by decide +kernel
theorem d_NC_turned_26 : decode (yB Y_NC_turned) 26 = .ok (.iconst (-1), 1) := by decide +kernel
theorem d_NC_turned_27 : decode (yB Y_NC_turned) 27 = .ok (.if_icmp .ne 13, 3) := by decide +kernel
theorem d_NC_turned_30 : decode (yB Y_NC_turned) 30 = .ok (.aload_n 0, 1) := by decide +kernel
theorem d_NC_turned_31 : decode (yB Y_NC_turned) 31 = .ok (.getfield 86, 3) := by decide +kernel
theorem d_NC_turned_34 : decode (yB Y_NC_turned) 34 = .ok (.getfield 267, 3) := by decide +kernel
theorem d_NC_turned_37 : decode (yB Y_NC_turned) 37 = .ok (.goto 13, 3) := by decide +kernel
theorem d_NC_turned_40 : decode (yB Y_NC_turned) 40 = .ok (.aload_n 0, 1) := by decide +kernel
theorem d_NC_turned_41 : decode (yB Y_NC_turned) 41 = .ok (.getfield 86, 3) := by decide +kernel
theorem d_NC_turned_44 : decode (yB Y_NC_turned) 44 = .ok (.iconst 3, 1) := by decide +kernel
theorem d_NC_turned_45 : decode (yB Y_NC_turned) 45 = .ok (.iload_n 1, 1) := by decide +kernel
theorem d_NC_turned_46 : decode (yB Y_NC_turned) 46 = .ok (.isub, 1) := by decide +kernel
theorem d_NC_turned_47 : decode (yB Y_NC_turned) 47 = .ok (.invokevirtual 270, 3) := by decide +kernel
theorem d_NC_turned_50 : decode (yB Y_NC_turned) 50 = .ok (.ireturn, 1) := by decide +kernel
def F_NC_turned (n : Nat) (E : zE) (S : zS) (a0 : Nat) (x1 : Int32) (M : zH) : Option (Int32 × zH) :=
  (F_NC_within n E S x1 (-1) 3 M).bind fun q_1 =>
  if q_1.1 = true then
    (zgR S a0 10 12).bind fun b_3 =>
    (zgR S a0 10 0).bind fun b_4 =>
    (zck S b_3 4).bind fun u_5 =>
    (F_Pa_findTurns n E S b_3 b_4 q_1.2).bind fun q_6 =>
    if q_6.1 = true then
      if x1 = (-1) then
        (zgI S q_6.2 b_3 4 8).bind fun v_9 =>
        some (v_9, q_6.2)
      else
        (F_Pa_digitOfChoice n E S b_3 (3 - x1) q_6.2).bind fun q_10 =>
        some (q_10.1, q_10.2)
    else
      some ((-1), q_6.2)
  else
    some ((-1), q_1.2)
theorem K_NC_turned (n : Nat) (E : zE) (S : zS) (a0 : Nat) (x1 : Int32) (M : zH) (r : Int32) (M' : zH)  (h : F_NC_turned n E S a0 x1 M = some (r, M')) : zG E Y_NC_turned (some (.int r), S, M') 0 [(0, .ref a0), (1, .int x1)] [] S M 0 0 := by
  unfold F_NC_turned at h
  refine zi_iload_n 1 d_NC_turned_0 rfl ?_
  refine zi_iconst (-1) d_NC_turned_1 rfl ?_
  refine zi_iconst 3 d_NC_turned_2 rfl ?_
  obtain ⟨q_1, eq_1, h⟩ := zbind h
  refine zo_stat (k' := 0) (n' := 0) 6 [.int x1, .int (-1), .int 3] [] [.int (bI q_1.1)] (C_NC_within n E S x1 (-1) 3 M q_1.1 q_1.2 eq_1) d_NC_turned_3 tw_399 tw_397 tw_398 tw_1 dd_NC_within ⟨Nat.le_of_ble_eq_true rfl, Nat.le_of_ble_eq_true rfl, Nat.le_of_ble_eq_true rfl, Nat.le_of_ble_eq_true rfl⟩ (Nat.le_of_ble_eq_true rfl) rfl rfl rfl rfl ?_
  refine zo_ifeqB d_NC_turned_6 rfl 9 rfl (fun c_2 => ?_) (fun c_2 => ?_)
  · rw [if_neg c_2] at h
    refine zi_iconst (-1) d_NC_turned_23 rfl ?_
    cases h
    exact zo_ret d_NC_turned_24 (Nat.le_of_ble_eq_true rfl) (Nat.le_of_ble_eq_true rfl) rfl
  · rw [if_pos c_2] at h
    refine zi_aload_n 0 d_NC_turned_9 rfl ?_
    obtain ⟨b_3, eb_3, h⟩ := zbind h
    refine zo_getR 13 zkd_10 12 d_NC_turned_10 eb_3 rfl tw_344 rfl ?_
    refine zi_aload_n 0 d_NC_turned_13 rfl ?_
    obtain ⟨b_4, eb_4, h⟩ := zbind h
    refine zo_getR 17 zkd_10 0 d_NC_turned_14 eb_4 rfl tw_332 rfl ?_
    obtain ⟨u_5, eu_5, h⟩ := zbind h
    obtain ⟨q_6, eq_6, h⟩ := zbind h
    refine zo_virt (k' := 0) (n' := 0) 20 [.ref b_4] [] [.int (bI q_6.1)] zkd_4 (zck_s eu_5) (C_Pa_findTurns n E S b_3 b_4 q_1.2 q_6.1 q_6.2 eq_6) d_NC_turned_17 tw_1083 tw_1080 tw_1081 tw_1082 tw_12 dd_Pa_findTurns ⟨Nat.le_of_ble_eq_true rfl, Nat.le_of_ble_eq_true rfl, Nat.le_of_ble_eq_true rfl, Nat.le_of_ble_eq_true rfl⟩ (Nat.le_of_ble_eq_true rfl) rfl rfl rfl rfl ?_
    refine zo_ifneB d_NC_turned_20 rfl 23 rfl (fun c_7 => ?_) (fun c_7 => ?_)
    · rw [if_pos c_7] at h
      refine zi_iload_n 1 d_NC_turned_25 rfl ?_
      refine zi_iconst (-1) d_NC_turned_26 rfl ?_
      refine zi_icmp_ne (tgt := 40) d_NC_turned_27 rfl (fun c_8 => ?_) (fun c_8 => ?_)
      · rw [if_neg c_8] at h
        refine zi_aload_n 0 d_NC_turned_40 rfl ?_
        refine zo_getR 44 zkd_10 12 d_NC_turned_41 eb_3 rfl tw_344 rfl ?_
        refine zi_iconst 3 d_NC_turned_44 rfl ?_
        refine zi_iload_n 1 d_NC_turned_45 rfl ?_
        refine zi_isub d_NC_turned_46 ?_
        obtain ⟨q_10, eq_10, h⟩ := zbind h
        refine zo_virt (k' := 0) (n' := 0) 50 [.int (3 - x1)] [] [.int q_10.1] zkd_4 (zck_s eu_5) (C_Pa_digitOfChoice n E S b_3 (3 - x1) q_6.2 q_10.1 q_10.2 eq_10) d_NC_turned_47 tw_1014 tw_1011 tw_1012 tw_1013 tw_12 dd_Pa_digitOfChoice ⟨Nat.le_of_ble_eq_true rfl, Nat.le_of_ble_eq_true rfl, Nat.le_of_ble_eq_true rfl, Nat.le_of_ble_eq_true rfl⟩ (Nat.le_of_ble_eq_true rfl) rfl rfl rfl rfl ?_
        cases h
        exact zo_ret d_NC_turned_50 (Nat.le_of_ble_eq_true rfl) (Nat.le_of_ble_eq_true rfl) rfl
      · rw [if_pos c_8] at h
        refine zi_aload_n 0 d_NC_turned_30 rfl ?_
        refine zo_getR 34 zkd_10 12 d_NC_turned_31 eb_3 rfl tw_344 rfl ?_
        obtain ⟨v_9, ev_9, h⟩ := zbind h
        refine zo_getI 37 zkd_4 8 d_NC_turned_34 ev_9 rfl tw_307 rfl ?_
        refine zi_goto (tgt := 50) d_NC_turned_37 rfl ?_
        cases h
        exact zo_ret d_NC_turned_50 (Nat.le_of_ble_eq_true rfl) (Nat.le_of_ble_eq_true rfl) rfl
    · rw [if_neg c_7] at h
      refine zi_iconst (-1) d_NC_turned_23 rfl ?_
      cases h
      exact zo_ret d_NC_turned_24 (Nat.le_of_ble_eq_true rfl) (Nat.le_of_ble_eq_true rfl) rfl
theorem C_NC_turned (n : Nat) (E : zE) (S : zS) (a0 : Nat) (x1 : Int32) (M : zH) (r : Int32) (M' : zH) (h : F_NC_turned n E S a0 x1 M = some (r, M')) : zC E Y_NC_turned [.ref a0, .int x1] S M (some (.int r), S, M') :=
  zC.of (Or.inl (show plainName "NightColander" = true by decide)) (Nat.le_of_ble_eq_true rfl) (trivial) (K_NC_turned n E S a0 x1 M r M' h)
theorem d_Pa_sharesOf_0 : decode (yB Y_Pa_sharesOf) 0 = .ok (.iconst 0, 1) := by decide +kernel
theorem d_Pa_sharesOf_1 : decode (yB Y_Pa_sharesOf) 1 = .ok (.istore_n 2, 1) := by decide +kernel
theorem d_Pa_sharesOf_2 : decode (yB Y_Pa_sharesOf) 2 = .ok (.iconst 0, 1) := by decide +kernel
theorem d_Pa_sharesOf_3 : decode (yB Y_Pa_sharesOf) 3 = .ok (.istore_n 3, 1) := by decide +kernel
theorem d_Pa_sharesOf_4 : decode (yB Y_Pa_sharesOf) 4 = .ok (.iload_n 3, 1) := by decide +kernel
theorem d_Pa_sharesOf_5 : decode (yB Y_Pa_sharesOf) 5 = .ok (.iconst 4, 1) := by decide +kernel
theorem d_Pa_sharesOf_6 : decode (yB Y_Pa_sharesOf) 6 = .ok (.if_icmp .ge 30, 3) := by decide +kernel
theorem d_Pa_sharesOf_9 : decode (yB Y_Pa_sharesOf) 9 = .ok (.iload_n 2, 1) := by decide +kernel
theorem d_Pa_sharesOf_10 : decode (yB Y_Pa_sharesOf) 10 = .ok (.iload_n 1, 1) := by decide +kernel
theorem d_Pa_sharesOf_11 : decode (yB Y_Pa_sharesOf) 11 = .ok (.iconst 1, 1) := by decide +kernel
theorem d_Pa_sharesOf_12 : decode (yB Y_Pa_sharesOf) 12 = .ok (.iload_n 3, 1) := by decide +kernel
theorem d_Pa_sharesOf_13 : decode (yB Y_Pa_sharesOf) 13 = .ok (.ishl, 1) := by decide +kernel
theorem d_Pa_sharesOf_14 : decode (yB Y_Pa_sharesOf) 14 = .ok (.iand, 1) := by decide +kernel
theorem d_Pa_sharesOf_15 : decode (yB Y_Pa_sharesOf) 15 = .ok (.ifCond .eq 12, 3) := by decide +kernel
theorem d_Pa_sharesOf_18 : decode (yB Y_Pa_sharesOf) 18 = .ok (.aload_n 0, 1) := by decide +kernel
theorem d_Pa_sharesOf_19 : decode (yB Y_Pa_sharesOf) 19 = .ok (.getfield 18, 3) := by decide +kernel
theorem d_Pa_sharesOf_22 : decode (yB Y_Pa_sharesOf) 22 = .ok (.iload_n 3, 1) := by decide +kernel
theorem d_Pa_sharesOf_23 : decode (yB Y_Pa_sharesOf) 23 = .ok (.iaload, 1) := by decide +kernel
theorem d_Pa_sharesOf_24 : decode (yB Y_Pa_sharesOf) 24 = .ok (.goto 4, 3) := by decide +kernel
theorem d_Pa_sharesOf_27 : decode (yB Y_Pa_sharesOf) 27 = .ok (.iconst 0, 1) := by decide +kernel
theorem d_Pa_sharesOf_28 : decode (yB Y_Pa_sharesOf) 28 = .ok (.iadd, 1) := by decide +kernel
theorem d_Pa_sharesOf_29 : decode (yB Y_Pa_sharesOf) 29 = .ok (.istore_n 2, 1) := by decide +kernel
theorem d_Pa_sharesOf_30 : decode (yB Y_Pa_sharesOf) 30 = .ok (.iinc 3 1, 3) := by decide +kernel
theorem d_Pa_sharesOf_33 : decode (yB Y_Pa_sharesOf) 33 = .ok (.goto (-29), 3) := by decide +kernel
theorem d_Pa_sharesOf_36 : decode (yB Y_Pa_sharesOf) 36 = .ok (.iload_n 2, 1) := by decide +kernel
theorem d_Pa_sharesOf_37 : decode (yB Y_Pa_sharesOf) 37 = .ok (.ireturn, 1) := by decide +kernel
def F_Pa_sharesOf_b28 (n : Nat) (E : zE) (S : zS) (r4 : Nat × Int32 × Int32 × Int32 × zH → Option (Int32 × zH)) (a0 : Nat) (x1 : Int32) (x3 : Int32) (s0 : Int32) (s1 : Int32) (M : zH) : Option (Int32 × zH) :=
  r4 (a0, x1, s1 + s0, x3 + 1, M)
def F_Pa_sharesOf_L4 (n : Nat) (E : zE) (S : zS) (r4 : Nat × Int32 × Int32 × Int32 × zH → Option (Int32 × zH)) (a0 : Nat) (x1 : Int32) (x2 : Int32) (x3 : Int32) (M : zH) : Option (Int32 × zH) :=
  if 4 ≤ x3 then
    some (x2, M)
  else
    if (x1 &&& ((1 : Int32) <<< (x3 &&& (31 : Int32)))) = 0 then
      F_Pa_sharesOf_b28 n E S r4 a0 x1 x3 0 x2 M
    else
      (zgR S a0 4 2).bind fun b_3 =>
      (zldI S M b_3 x3).bind fun v_4 =>
      F_Pa_sharesOf_b28 n E S r4 a0 x1 x3 v_4 x2 M
def F_Pa_sharesOf_b4 (n : Nat) (E : zE) (S : zS) : Nat × Int32 × Int32 × Int32 × zH → Option (Int32 × zH) := zfix (fun r4 s => F_Pa_sharesOf_L4 n E S r4 s.1 s.2.1 s.2.2.1 s.2.2.2.1 s.2.2.2.2) n
def F_Pa_sharesOf (n : Nat) (E : zE) (S : zS) (a0 : Nat) (x1 : Int32) (M : zH) : Option (Int32 × zH) :=
  F_Pa_sharesOf_b4 n E S (a0, x1, 0, 0, M)
theorem K_Pa_sharesOf_b28 (n : Nat) (E : zE) (S : zS) (r4 : Nat × Int32 × Int32 × Int32 × zH → Option (Int32 × zH)) (a0 : Nat) (x1 : Int32) (x3 : Int32) (s0 : Int32) (s1 : Int32) (M : zH) (r : Int32) (M' : zH) (hr4 : ∀ (a0 : Nat) (x1 : Int32) (x2 : Int32) (x3 : Int32) (M : zH), r4 (a0, x1, x2, x3, M) = some (r, M') → zG E Y_Pa_sharesOf (some (.int r), S, M') 4 [(0, .ref a0), (1, .int x1), (2, .int x2), (3, .int x3)] [] S M 0 0) (h : F_Pa_sharesOf_b28 n E S r4 a0 x1 x3 s0 s1 M = some (r, M')) : zG E Y_Pa_sharesOf (some (.int r), S, M') 28 [(0, .ref a0), (1, .int x1), (3, .int x3)] [.int s0, .int s1] S M 0 0 := by
  unfold F_Pa_sharesOf_b28 at h
  refine zi_iadd d_Pa_sharesOf_28 ?_
  refine zi_istore_n [(2, .int (s1 + s0)), (0, .ref a0), (1, .int x1), (3, .int x3)] d_Pa_sharesOf_29 (by decide) rfl ?_
  refine zi_iinc 3 (x3 + 1) [(3, .int (x3 + 1)), (2, .int (s1 + s0)), (0, .ref a0), (1, .int x1)] d_Pa_sharesOf_30 rfl rfl (by decide) rfl ?_
  refine zi_goto (tgt := 4) d_Pa_sharesOf_33 rfl ?_
  refine zi_lo [(0, .ref a0), (1, .int x1), (2, .int (s1 + s0)), (3, .int (x3 + 1))] [2, 3, 1, 0] rfl ?_
  exact hr4 a0 x1 (s1 + s0) (x3 + 1) M h
theorem K_Pa_sharesOf_L4 (n : Nat) (E : zE) (S : zS) (r4 : Nat × Int32 × Int32 × Int32 × zH → Option (Int32 × zH)) (a0 : Nat) (x1 : Int32) (x2 : Int32) (x3 : Int32) (M : zH) (r : Int32) (M' : zH) (hr4 : ∀ (a0 : Nat) (x1 : Int32) (x2 : Int32) (x3 : Int32) (M : zH), r4 (a0, x1, x2, x3, M) = some (r, M') → zG E Y_Pa_sharesOf (some (.int r), S, M') 4 [(0, .ref a0), (1, .int x1), (2, .int x2), (3, .int x3)] [] S M 0 0) (h : F_Pa_sharesOf_L4 n E S r4 a0 x1 x2 x3 M = some (r, M')) : zG E Y_Pa_sharesOf (some (.int r), S, M') 4 [(0, .ref a0), (1, .int x1), (2, .int x2), (3, .int x3)] [] S M 0 0 := by
  unfold F_Pa_sharesOf_L4 at h
  refine zi_iload_n 3 d_Pa_sharesOf_4 rfl ?_
  refine zi_iconst 4 d_Pa_sharesOf_5 rfl ?_
  refine zi_icmp_ge (tgt := 36) d_Pa_sharesOf_6 rfl (fun c_1 => ?_) (fun c_1 => ?_)
  · rw [if_pos c_1] at h
    refine zi_iload_n 2 d_Pa_sharesOf_36 rfl ?_
    cases h
    exact zo_ret d_Pa_sharesOf_37 (Nat.le_of_ble_eq_true rfl) (Nat.le_of_ble_eq_true rfl) rfl
  · rw [if_neg c_1] at h
    refine zi_iload_n 2 d_Pa_sharesOf_9 rfl ?_
    refine zi_iload_n 1 d_Pa_sharesOf_10 rfl ?_
    refine zi_iconst 1 d_Pa_sharesOf_11 rfl ?_
    refine zi_iload_n 3 d_Pa_sharesOf_12 rfl ?_
    refine zi_ishl d_Pa_sharesOf_13 ?_
    refine zi_iand d_Pa_sharesOf_14 ?_
    refine zi_if_eq (tgt := 27) d_Pa_sharesOf_15 rfl (fun c_2 => ?_) (fun c_2 => ?_)
    · rw [if_pos c_2] at h
      refine zi_iconst 0 d_Pa_sharesOf_27 rfl ?_
      refine zi_lo [(0, .ref a0), (1, .int x1), (3, .int x3)] [0, 1, 3] rfl ?_
      exact K_Pa_sharesOf_b28 n E S r4 a0 x1 x3 0 x2 M r M' hr4 h
    · rw [if_neg c_2] at h
      refine zi_aload_n 0 d_Pa_sharesOf_18 rfl ?_
      obtain ⟨b_3, eb_3, h⟩ := zbind h
      refine zo_getR 22 zkd_4 2 d_Pa_sharesOf_19 eb_3 rfl tw_300 rfl ?_
      refine zi_iload_n 3 d_Pa_sharesOf_22 rfl ?_
      obtain ⟨v_4, ev_4, h⟩ := zbind h
      refine zo_iald 24 d_Pa_sharesOf_23 ev_4 rfl ?_
      refine zi_goto (tgt := 28) d_Pa_sharesOf_24 rfl ?_
      refine zi_lo [(0, .ref a0), (1, .int x1), (3, .int x3)] [0, 1, 3] rfl ?_
      exact K_Pa_sharesOf_b28 n E S r4 a0 x1 x3 v_4 x2 M r M' hr4 h
theorem K_Pa_sharesOf_b4 (n : Nat) (E : zE) (S : zS) (a0 : Nat) (x1 : Int32) (x2 : Int32) (x3 : Int32) (M : zH) (r : Int32) (M' : zH)  (h : F_Pa_sharesOf_b4 n E S (a0, x1, x2, x3, M) = some (r, M')) : zG E Y_Pa_sharesOf (some (.int r), S, M') 4 [(0, .ref a0), (1, .int x1), (2, .int x2), (3, .int x3)] [] S M 0 0 := by
  have key : ∀ (k : Nat) (a0 : Nat) (x1 : Int32) (x2 : Int32) (x3 : Int32) (M : zH), zfix (fun r4 s => F_Pa_sharesOf_L4 n E S r4 s.1 s.2.1 s.2.2.1 s.2.2.2.1 s.2.2.2.2) k (a0, x1, x2, x3, M) = some (r, M') → zG E Y_Pa_sharesOf (some (.int r), S, M') 4 [(0, .ref a0), (1, .int x1), (2, .int x2), (3, .int x3)] [] S M 0 0 := by
    intro k
    induction k with
    | zero => intro a0 x1 x2 x3 M h; cases h
    | succ k ih => intro a0 x1 x2 x3 M h; exact K_Pa_sharesOf_L4 n E S _ a0 x1 x2 x3 M r M'  (fun a0 x1 x2 x3 M h => ih a0 x1 x2 x3 M h) h
  exact key n a0 x1 x2 x3 M h
theorem K_Pa_sharesOf (n : Nat) (E : zE) (S : zS) (a0 : Nat) (x1 : Int32) (M : zH) (r : Int32) (M' : zH)  (h : F_Pa_sharesOf n E S a0 x1 M = some (r, M')) : zG E Y_Pa_sharesOf (some (.int r), S, M') 0 [(0, .ref a0), (1, .int x1)] [] S M 0 0 := by
  unfold F_Pa_sharesOf at h
  refine zi_iconst 0 d_Pa_sharesOf_0 rfl ?_
  refine zi_istore_n [(2, .int 0), (0, .ref a0), (1, .int x1)] d_Pa_sharesOf_1 (by decide) rfl ?_
  refine zi_iconst 0 d_Pa_sharesOf_2 rfl ?_
  refine zi_istore_n [(3, .int 0), (2, .int 0), (0, .ref a0), (1, .int x1)] d_Pa_sharesOf_3 (by decide) rfl ?_
  refine zi_lo [(0, .ref a0), (1, .int x1), (2, .int 0), (3, .int 0)] [2, 3, 1, 0] rfl ?_
  exact K_Pa_sharesOf_b4 n E S a0 x1 0 0 M r M'  h
theorem C_Pa_sharesOf (n : Nat) (E : zE) (S : zS) (a0 : Nat) (x1 : Int32) (M : zH) (r : Int32) (M' : zH) (h : F_Pa_sharesOf n E S a0 x1 M = some (r, M')) : zC E Y_Pa_sharesOf [.ref a0, .int x1] S M (some (.int r), S, M') :=
  zC.of (Or.inl (show plainName "NightColander$Paper" = true by decide)) (Nat.le_of_ble_eq_true rfl) (trivial) (K_Pa_sharesOf n E S a0 x1 M r M' h)
theorem d_Ji_bitCount_0 : decode (yB Y_Ji_bitCount) 0 = .ok (.iload_n 0, 1) := by decide +kernel
theorem d_Ji_bitCount_1 : decode (yB Y_Ji_bitCount) 1 = .ok (.iload_n 0, 1) := by decide +kernel
theorem d_Ji_bitCount_2 : decode (yB Y_Ji_bitCount) 2 = .ok (.iconst 1, 1) := by decide +kernel
theorem d_Ji_bitCount_3 : decode (yB Y_Ji_bitCount) 3 = .ok (.iushr, 1) := by decide +kernel
theorem d_Ji_bitCount_4 : decode (yB Y_Ji_bitCount) 4 = .ok (.ldc_w 265, 3) := by decide +kernel
theorem d_Ji_bitCount_7 : decode (yB Y_Ji_bitCount) 7 = .ok (.iand, 1) := by decide +kernel
theorem d_Ji_bitCount_8 : decode (yB Y_Ji_bitCount) 8 = .ok (.isub, 1) := by decide +kernel
theorem d_Ji_bitCount_9 : decode (yB Y_Ji_bitCount) 9 = .ok (.istore_n 0, 1) := by decide +kernel
theorem d_Ji_bitCount_10 : decode (yB Y_Ji_bitCount) 10 = .ok (.iload_n 0, 1) := by decide +kernel
theorem d_Ji_bitCount_11 : decode (yB Y_Ji_bitCount) 11 = .ok (.ldc_w 266, 3) := by decide +kernel
theorem d_Ji_bitCount_14 : decode (yB Y_Ji_bitCount) 14 = .ok (.iand, 1) := by decide +kernel
theorem d_Ji_bitCount_15 : decode (yB Y_Ji_bitCount) 15 = .ok (.iload_n 0, 1) := by decide +kernel
theorem d_Ji_bitCount_16 : decode (yB Y_Ji_bitCount) 16 = .ok (.iconst 2, 1) := by decide +kernel
theorem d_Ji_bitCount_17 : decode (yB Y_Ji_bitCount) 17 = .ok (.iushr, 1) := by decide +kernel
theorem d_Ji_bitCount_18 : decode (yB Y_Ji_bitCount) 18 = .ok (.ldc_w 266, 3) := by decide +kernel
theorem d_Ji_bitCount_21 : decode (yB Y_Ji_bitCount) 21 = .ok (.iand, 1) := by decide +kernel
theorem d_Ji_bitCount_22 : decode (yB Y_Ji_bitCount) 22 = .ok (.iadd, 1) := by decide +kernel
theorem d_Ji_bitCount_23 : decode (yB Y_Ji_bitCount) 23 = .ok (.istore_n 0, 1) := by decide +kernel
theorem d_Ji_bitCount_24 : decode (yB Y_Ji_bitCount) 24 = .ok (.iload_n 0, 1) := by decide +kernel
theorem d_Ji_bitCount_25 : decode (yB Y_Ji_bitCount) 25 = .ok (.iload_n 0, 1) := by decide +kernel
theorem d_Ji_bitCount_26 : decode (yB Y_Ji_bitCount) 26 = .ok (.iconst 4, 1) := by decide +kernel
theorem d_Ji_bitCount_27 : decode (yB Y_Ji_bitCount) 27 = .ok (.iushr, 1) := by decide +kernel
theorem d_Ji_bitCount_28 : decode (yB Y_Ji_bitCount) 28 = .ok (.iadd, 1) := by decide +kernel
theorem d_Ji_bitCount_29 : decode (yB Y_Ji_bitCount) 29 = .ok (.ldc_w 267, 3) := by decide +kernel
theorem d_Ji_bitCount_32 : decode (yB Y_Ji_bitCount) 32 = .ok (.iand, 1) := by decide +kernel
theorem d_Ji_bitCount_33 : decode (yB Y_Ji_bitCount) 33 = .ok (.istore_n 0, 1) := by decide +kernel
theorem d_Ji_bitCount_34 : decode (yB Y_Ji_bitCount) 34 = .ok (.iload_n 0, 1) := by decide +kernel
theorem d_Ji_bitCount_35 : decode (yB Y_Ji_bitCount) 35 = .ok (.iload_n 0, 1) := by decide +kernel
theorem d_Ji_bitCount_36 : decode (yB Y_Ji_bitCount) 36 = .ok (.bipush 8, 2) := by decide +kernel
theorem d_Ji_bitCount_38 : decode (yB Y_Ji_bitCount) 38 = .ok (.iushr, 1) := by decide +kernel
theorem d_Ji_bitCount_39 : decode (yB Y_Ji_bitCount) 39 = .ok (.iadd, 1) := by decide +kernel
theorem d_Ji_bitCount_40 : decode (yB Y_Ji_bitCount) 40 = .ok (.istore_n 0, 1) := by decide +kernel
theorem d_Ji_bitCount_41 : decode (yB Y_Ji_bitCount) 41 = .ok (.iload_n 0, 1) := by decide +kernel
theorem d_Ji_bitCount_42 : decode (yB Y_Ji_bitCount) 42 = .ok (.iload_n 0, 1) := by decide +kernel
theorem d_Ji_bitCount_43 : decode (yB Y_Ji_bitCount) 43 = .ok (.bipush 16, 2) := by decide +kernel
theorem d_Ji_bitCount_45 : decode (yB Y_Ji_bitCount) 45 = .ok (.iushr, 1) := by decide +kernel
theorem d_Ji_bitCount_46 : decode (yB Y_Ji_bitCount) 46 = .ok (.iadd, 1) := by decide +kernel
theorem d_Ji_bitCount_47 : decode (yB Y_Ji_bitCount) 47 = .ok (.istore_n 0, 1) := by decide +kernel
theorem d_Ji_bitCount_48 : decode (yB Y_Ji_bitCount) 48 = .ok (.iload_n 0, 1) := by decide +kernel
theorem d_Ji_bitCount_49 : decode (yB Y_Ji_bitCount) 49 = .ok (.bipush 63, 2) := by decide +kernel
theorem d_Ji_bitCount_51 : decode (yB Y_Ji_bitCount) 51 = .ok (.iand, 1) := by decide +kernel
theorem d_Ji_bitCount_52 : decode (yB Y_Ji_bitCount) 52 = .ok (.ireturn, 1) := by decide +kernel
def F_Ji_bitCount (n : Nat) (E : zE) (S : zS) (x0 : Int32) (M : zH) : Option (Int32 × zH) :=
  some ((((((((x0 - (((x0.toUInt32 >>> ((1 : Int32).toUInt32 &&& Int32.toUInt32 31)).toInt32) &&& (1431655765 : Int32))) &&& (858993459 : Int32)) + ((((x0 - (((x0.toUInt32 >>> ((1 : Int32).toUInt32 &&& Int32.toUInt32 31)).toInt32) &&& (1431655765 : Int32))).toUInt32 >>> ((2 : Int32).toUInt32 &&& Int32.toUInt32 31)).toInt32) &&& (858993459 : Int32))) + (((((x0 - (((x0.toUInt32 >>> ((1 : Int32).toUInt32 &&& Int32.toUInt32 31)).toInt32) &&& (1431655765 : Int32))) &&& (858993459 : Int32)) + ((((x0 - (((x0.toUInt32 >>> ((1 : Int32).toUInt32 &&& Int32.toUInt32 31)).toInt32) &&& (1431655765 : Int32))).toUInt32 >>> ((2 : Int32).toUInt32 &&& Int32.toUInt32 31)).toInt32) &&& (858993459 : Int32))).toUInt32 >>> ((4 : Int32).toUInt32 &&& Int32.toUInt32 31)).toInt32)) &&& (252645135 : Int32)) + (((((((x0 - (((x0.toUInt32 >>> ((1 : Int32).toUInt32 &&& Int32.toUInt32 31)).toInt32) &&& (1431655765 : Int32))) &&& (858993459 : Int32)) + ((((x0 - (((x0.toUInt32 >>> ((1 : Int32).toUInt32 &&& Int32.toUInt32 31)).toInt32) &&& (1431655765 : Int32))).toUInt32 >>> ((2 : Int32).toUInt32 &&& Int32.toUInt32 31)).toInt32) &&& (858993459 : Int32))) + (((((x0 - (((x0.toUInt32 >>> ((1 : Int32).toUInt32 &&& Int32.toUInt32 31)).toInt32) &&& (1431655765 : Int32))) &&& (858993459 : Int32)) + ((((x0 - (((x0.toUInt32 >>> ((1 : Int32).toUInt32 &&& Int32.toUInt32 31)).toInt32) &&& (1431655765 : Int32))).toUInt32 >>> ((2 : Int32).toUInt32 &&& Int32.toUInt32 31)).toInt32) &&& (858993459 : Int32))).toUInt32 >>> ((4 : Int32).toUInt32 &&& Int32.toUInt32 31)).toInt32)) &&& (252645135 : Int32)).toUInt32 >>> ((8 : Int32).toUInt32 &&& Int32.toUInt32 31)).toInt32)) + ((((((((x0 - (((x0.toUInt32 >>> ((1 : Int32).toUInt32 &&& Int32.toUInt32 31)).toInt32) &&& (1431655765 : Int32))) &&& (858993459 : Int32)) + ((((x0 - (((x0.toUInt32 >>> ((1 : Int32).toUInt32 &&& Int32.toUInt32 31)).toInt32) &&& (1431655765 : Int32))).toUInt32 >>> ((2 : Int32).toUInt32 &&& Int32.toUInt32 31)).toInt32) &&& (858993459 : Int32))) + (((((x0 - (((x0.toUInt32 >>> ((1 : Int32).toUInt32 &&& Int32.toUInt32 31)).toInt32) &&& (1431655765 : Int32))) &&& (858993459 : Int32)) + ((((x0 - (((x0.toUInt32 >>> ((1 : Int32).toUInt32 &&& Int32.toUInt32 31)).toInt32) &&& (1431655765 : Int32))).toUInt32 >>> ((2 : Int32).toUInt32 &&& Int32.toUInt32 31)).toInt32) &&& (858993459 : Int32))).toUInt32 >>> ((4 : Int32).toUInt32 &&& Int32.toUInt32 31)).toInt32)) &&& (252645135 : Int32)) + (((((((x0 - (((x0.toUInt32 >>> ((1 : Int32).toUInt32 &&& Int32.toUInt32 31)).toInt32) &&& (1431655765 : Int32))) &&& (858993459 : Int32)) + ((((x0 - (((x0.toUInt32 >>> ((1 : Int32).toUInt32 &&& Int32.toUInt32 31)).toInt32) &&& (1431655765 : Int32))).toUInt32 >>> ((2 : Int32).toUInt32 &&& Int32.toUInt32 31)).toInt32) &&& (858993459 : Int32))) + (((((x0 - (((x0.toUInt32 >>> ((1 : Int32).toUInt32 &&& Int32.toUInt32 31)).toInt32) &&& (1431655765 : Int32))) &&& (858993459 : Int32)) + ((((x0 - (((x0.toUInt32 >>> ((1 : Int32).toUInt32 &&& Int32.toUInt32 31)).toInt32) &&& (1431655765 : Int32))).toUInt32 >>> ((2 : Int32).toUInt32 &&& Int32.toUInt32 31)).toInt32) &&& (858993459 : Int32))).toUInt32 >>> ((4 : Int32).toUInt32 &&& Int32.toUInt32 31)).toInt32)) &&& (252645135 : Int32)).toUInt32 >>> ((8 : Int32).toUInt32 &&& Int32.toUInt32 31)).toInt32)).toUInt32 >>> ((16 : Int32).toUInt32 &&& Int32.toUInt32 31)).toInt32)) &&& (63 : Int32), M)
theorem K_Ji_bitCount (n : Nat) (E : zE) (S : zS) (x0 : Int32) (M : zH) (r : Int32) (M' : zH)  (h : F_Ji_bitCount n E S x0 M = some (r, M')) : zG E Y_Ji_bitCount (some (.int r), S, M') 0 [(0, .int x0)] [] S M 0 0 := by
  unfold F_Ji_bitCount at h
  refine zi_iload_n 0 d_Ji_bitCount_0 rfl ?_
  refine zi_iload_n 0 d_Ji_bitCount_1 rfl ?_
  refine zi_iconst 1 d_Ji_bitCount_2 rfl ?_
  refine zi_iushr d_Ji_bitCount_3 ?_
  refine zi_ldcw d_Ji_bitCount_4 tw_1105 ?_
  refine zi_iand d_Ji_bitCount_7 ?_
  refine zi_isub d_Ji_bitCount_8 ?_
  refine zi_istore_n [(0, .int (x0 - (((x0.toUInt32 >>> ((1 : Int32).toUInt32 &&& Int32.toUInt32 31)).toInt32) &&& (1431655765 : Int32))))] d_Ji_bitCount_9 (by decide) rfl ?_
  refine zi_iload_n 0 d_Ji_bitCount_10 rfl ?_
  refine zi_ldcw d_Ji_bitCount_11 tw_1106 ?_
  refine zi_iand d_Ji_bitCount_14 ?_
  refine zi_iload_n 0 d_Ji_bitCount_15 rfl ?_
  refine zi_iconst 2 d_Ji_bitCount_16 rfl ?_
  refine zi_iushr d_Ji_bitCount_17 ?_
  refine zi_ldcw d_Ji_bitCount_18 tw_1106 ?_
  refine zi_iand d_Ji_bitCount_21 ?_
  refine zi_iadd d_Ji_bitCount_22 ?_
  refine zi_istore_n [(0, .int (((x0 - (((x0.toUInt32 >>> ((1 : Int32).toUInt32 &&& Int32.toUInt32 31)).toInt32) &&& (1431655765 : Int32))) &&& (858993459 : Int32)) + ((((x0 - (((x0.toUInt32 >>> ((1 : Int32).toUInt32 &&& Int32.toUInt32 31)).toInt32) &&& (1431655765 : Int32))).toUInt32 >>> ((2 : Int32).toUInt32 &&& Int32.toUInt32 31)).toInt32) &&& (858993459 : Int32))))] d_Ji_bitCount_23 (by decide) rfl ?_
  refine zi_iload_n 0 d_Ji_bitCount_24 rfl ?_
  refine zi_iload_n 0 d_Ji_bitCount_25 rfl ?_
  refine zi_iconst 4 d_Ji_bitCount_26 rfl ?_
  refine zi_iushr d_Ji_bitCount_27 ?_
  refine zi_iadd d_Ji_bitCount_28 ?_
  refine zi_ldcw d_Ji_bitCount_29 tw_1107 ?_
  refine zi_iand d_Ji_bitCount_32 ?_
  refine zi_istore_n [(0, .int (((((x0 - (((x0.toUInt32 >>> ((1 : Int32).toUInt32 &&& Int32.toUInt32 31)).toInt32) &&& (1431655765 : Int32))) &&& (858993459 : Int32)) + ((((x0 - (((x0.toUInt32 >>> ((1 : Int32).toUInt32 &&& Int32.toUInt32 31)).toInt32) &&& (1431655765 : Int32))).toUInt32 >>> ((2 : Int32).toUInt32 &&& Int32.toUInt32 31)).toInt32) &&& (858993459 : Int32))) + (((((x0 - (((x0.toUInt32 >>> ((1 : Int32).toUInt32 &&& Int32.toUInt32 31)).toInt32) &&& (1431655765 : Int32))) &&& (858993459 : Int32)) + ((((x0 - (((x0.toUInt32 >>> ((1 : Int32).toUInt32 &&& Int32.toUInt32 31)).toInt32) &&& (1431655765 : Int32))).toUInt32 >>> ((2 : Int32).toUInt32 &&& Int32.toUInt32 31)).toInt32) &&& (858993459 : Int32))).toUInt32 >>> ((4 : Int32).toUInt32 &&& Int32.toUInt32 31)).toInt32)) &&& (252645135 : Int32)))] d_Ji_bitCount_33 (by decide) rfl ?_
  refine zi_iload_n 0 d_Ji_bitCount_34 rfl ?_
  refine zi_iload_n 0 d_Ji_bitCount_35 rfl ?_
  refine zi_bipush 8 d_Ji_bitCount_36 rfl ?_
  refine zi_iushr d_Ji_bitCount_38 ?_
  refine zi_iadd d_Ji_bitCount_39 ?_
  refine zi_istore_n [(0, .int ((((((x0 - (((x0.toUInt32 >>> ((1 : Int32).toUInt32 &&& Int32.toUInt32 31)).toInt32) &&& (1431655765 : Int32))) &&& (858993459 : Int32)) + ((((x0 - (((x0.toUInt32 >>> ((1 : Int32).toUInt32 &&& Int32.toUInt32 31)).toInt32) &&& (1431655765 : Int32))).toUInt32 >>> ((2 : Int32).toUInt32 &&& Int32.toUInt32 31)).toInt32) &&& (858993459 : Int32))) + (((((x0 - (((x0.toUInt32 >>> ((1 : Int32).toUInt32 &&& Int32.toUInt32 31)).toInt32) &&& (1431655765 : Int32))) &&& (858993459 : Int32)) + ((((x0 - (((x0.toUInt32 >>> ((1 : Int32).toUInt32 &&& Int32.toUInt32 31)).toInt32) &&& (1431655765 : Int32))).toUInt32 >>> ((2 : Int32).toUInt32 &&& Int32.toUInt32 31)).toInt32) &&& (858993459 : Int32))).toUInt32 >>> ((4 : Int32).toUInt32 &&& Int32.toUInt32 31)).toInt32)) &&& (252645135 : Int32)) + (((((((x0 - (((x0.toUInt32 >>> ((1 : Int32).toUInt32 &&& Int32.toUInt32 31)).toInt32) &&& (1431655765 : Int32))) &&& (858993459 : Int32)) + ((((x0 - (((x0.toUInt32 >>> ((1 : Int32).toUInt32 &&& Int32.toUInt32 31)).toInt32) &&& (1431655765 : Int32))).toUInt32 >>> ((2 : Int32).toUInt32 &&& Int32.toUInt32 31)).toInt32) &&& (858993459 : Int32))) + (((((x0 - (((x0.toUInt32 >>> ((1 : Int32).toUInt32 &&& Int32.toUInt32 31)).toInt32) &&& (1431655765 : Int32))) &&& (858993459 : Int32)) + ((((x0 - (((x0.toUInt32 >>> ((1 : Int32).toUInt32 &&& Int32.toUInt32 31)).toInt32) &&& (1431655765 : Int32))).toUInt32 >>> ((2 : Int32).toUInt32 &&& Int32.toUInt32 31)).toInt32) &&& (858993459 : Int32))).toUInt32 >>> ((4 : Int32).toUInt32 &&& Int32.toUInt32 31)).toInt32)) &&& (252645135 : Int32)).toUInt32 >>> ((8 : Int32).toUInt32 &&& Int32.toUInt32 31)).toInt32)))] d_Ji_bitCount_40 (by decide) rfl ?_
  refine zi_iload_n 0 d_Ji_bitCount_41 rfl ?_
  refine zi_iload_n 0 d_Ji_bitCount_42 rfl ?_
  refine zi_bipush 16 d_Ji_bitCount_43 rfl ?_
  refine zi_iushr d_Ji_bitCount_45 ?_
  refine zi_iadd d_Ji_bitCount_46 ?_
  refine zi_istore_n [(0, .int (((((((x0 - (((x0.toUInt32 >>> ((1 : Int32).toUInt32 &&& Int32.toUInt32 31)).toInt32) &&& (1431655765 : Int32))) &&& (858993459 : Int32)) + ((((x0 - (((x0.toUInt32 >>> ((1 : Int32).toUInt32 &&& Int32.toUInt32 31)).toInt32) &&& (1431655765 : Int32))).toUInt32 >>> ((2 : Int32).toUInt32 &&& Int32.toUInt32 31)).toInt32) &&& (858993459 : Int32))) + (((((x0 - (((x0.toUInt32 >>> ((1 : Int32).toUInt32 &&& Int32.toUInt32 31)).toInt32) &&& (1431655765 : Int32))) &&& (858993459 : Int32)) + ((((x0 - (((x0.toUInt32 >>> ((1 : Int32).toUInt32 &&& Int32.toUInt32 31)).toInt32) &&& (1431655765 : Int32))).toUInt32 >>> ((2 : Int32).toUInt32 &&& Int32.toUInt32 31)).toInt32) &&& (858993459 : Int32))).toUInt32 >>> ((4 : Int32).toUInt32 &&& Int32.toUInt32 31)).toInt32)) &&& (252645135 : Int32)) + (((((((x0 - (((x0.toUInt32 >>> ((1 : Int32).toUInt32 &&& Int32.toUInt32 31)).toInt32) &&& (1431655765 : Int32))) &&& (858993459 : Int32)) + ((((x0 - (((x0.toUInt32 >>> ((1 : Int32).toUInt32 &&& Int32.toUInt32 31)).toInt32) &&& (1431655765 : Int32))).toUInt32 >>> ((2 : Int32).toUInt32 &&& Int32.toUInt32 31)).toInt32) &&& (858993459 : Int32))) + (((((x0 - (((x0.toUInt32 >>> ((1 : Int32).toUInt32 &&& Int32.toUInt32 31)).toInt32) &&& (1431655765 : Int32))) &&& (858993459 : Int32)) + ((((x0 - (((x0.toUInt32 >>> ((1 : Int32).toUInt32 &&& Int32.toUInt32 31)).toInt32) &&& (1431655765 : Int32))).toUInt32 >>> ((2 : Int32).toUInt32 &&& Int32.toUInt32 31)).toInt32) &&& (858993459 : Int32))).toUInt32 >>> ((4 : Int32).toUInt32 &&& Int32.toUInt32 31)).toInt32)) &&& (252645135 : Int32)).toUInt32 >>> ((8 : Int32).toUInt32 &&& Int32.toUInt32 31)).toInt32)) + ((((((((x0 - (((x0.toUInt32 >>> ((1 : Int32).toUInt32 &&& Int32.toUInt32 31)).toInt32) &&& (1431655765 : Int32))) &&& (858993459 : Int32)) + ((((x0 - (((x0.toUInt32 >>> ((1 : Int32).toUInt32 &&& Int32.toUInt32 31)).toInt32) &&& (1431655765 : Int32))).toUInt32 >>> ((2 : Int32).toUInt32 &&& Int32.toUInt32 31)).toInt32) &&& (858993459 : Int32))) + (((((x0 - (((x0.toUInt32 >>> ((1 : Int32).toUInt32 &&& Int32.toUInt32 31)).toInt32) &&& (1431655765 : Int32))) &&& (858993459 : Int32)) + ((((x0 - (((x0.toUInt32 >>> ((1 : Int32).toUInt32 &&& Int32.toUInt32 31)).toInt32) &&& (1431655765 : Int32))).toUInt32 >>> ((2 : Int32).toUInt32 &&& Int32.toUInt32 31)).toInt32) &&& (858993459 : Int32))).toUInt32 >>> ((4 : Int32).toUInt32 &&& Int32.toUInt32 31)).toInt32)) &&& (252645135 : Int32)) + (((((((x0 - (((x0.toUInt32 >>> ((1 : Int32).toUInt32 &&& Int32.toUInt32 31)).toInt32) &&& (1431655765 : Int32))) &&& (858993459 : Int32)) + ((((x0 - (((x0.toUInt32 >>> ((1 : Int32).toUInt32 &&& Int32.toUInt32 31)).toInt32) &&& (1431655765 : Int32))).toUInt32 >>> ((2 : Int32).toUInt32 &&& Int32.toUInt32 31)).toInt32) &&& (858993459 : Int32))) + (((((x0 - (((x0.toUInt32 >>> ((1 : Int32).toUInt32 &&& Int32.toUInt32 31)).toInt32) &&& (1431655765 : Int32))) &&& (858993459 : Int32)) + ((((x0 - (((x0.toUInt32 >>> ((1 : Int32).toUInt32 &&& Int32.toUInt32 31)).toInt32) &&& (1431655765 : Int32))).toUInt32 >>> ((2 : Int32).toUInt32 &&& Int32.toUInt32 31)).toInt32) &&& (858993459 : Int32))).toUInt32 >>> ((4 : Int32).toUInt32 &&& Int32.toUInt32 31)).toInt32)) &&& (252645135 : Int32)).toUInt32 >>> ((8 : Int32).toUInt32 &&& Int32.toUInt32 31)).toInt32)).toUInt32 >>> ((16 : Int32).toUInt32 &&& Int32.toUInt32 31)).toInt32)))] d_Ji_bitCount_47 (by decide) rfl ?_
  refine zi_iload_n 0 d_Ji_bitCount_48 rfl ?_
  refine zi_bipush 63 d_Ji_bitCount_49 rfl ?_
  refine zi_iand d_Ji_bitCount_51 ?_
  cases h
  exact zo_ret d_Ji_bitCount_52 (Nat.le_of_ble_eq_true rfl) (Nat.le_of_ble_eq_true rfl) rfl
theorem C_Ji_bitCount (n : Nat) (E : zE) (S : zS) (x0 : Int32) (M : zH) (r : Int32) (M' : zH) (h : F_Ji_bitCount n E S x0 M = some (r, M')) : zC E Y_Ji_bitCount [.int x0] S M (some (.int r), S, M') :=
  zC.of (Or.inl (show plainName "java/lang/Integer" = true by decide)) (Nat.le_of_ble_eq_true rfl) (trivial) (K_Ji_bitCount n E S x0 M r M' h)
theorem d_Pa_findCleared_0 : decode (yB Y_Pa_findCleared) 0 = .ok (.iconst 0, 1) := by decide +kernel
theorem d_Pa_findCleared_1 : decode (yB Y_Pa_findCleared) 1 = .ok (.istore 4, 2) := by decide +kernel
theorem d_Pa_findCleared_3 : decode (yB Y_Pa_findCleared) 3 = .ok (.iconst 0, 1) := by decide +kernel
theorem d_Pa_findCleared_4 : decode (yB Y_Pa_findCleared) 4 = .ok (.istore 5, 2) := by decide +kernel
theorem d_Pa_findCleared_6 : decode (yB Y_Pa_findCleared) 6 = .ok (.iconst 0, 1) := by decide +kernel
theorem d_Pa_findCleared_7 : decode (yB Y_Pa_findCleared) 7 = .ok (.istore 6, 2) := by decide +kernel
theorem d_Pa_findCleared_9 : decode (yB Y_Pa_findCleared) 9 = .ok (.iload 6, 2) := by decide +kernel
theorem d_Pa_findCleared_11 : decode (yB Y_Pa_findCleared) 11 = .ok (.iconst 4, 1) := by decide +kernel
theorem d_Pa_findCleared_12 : decode (yB Y_Pa_findCleared) 12 = .ok (.if_icmp .ge 77, 3) := by decide +kernel
theorem d_Pa_findCleared_15 : decode (yB Y_Pa_findCleared) 15 = .ok (.aload_n 1, 1) := by decide +kernel
theorem d_Pa_findCleared_16 : decode (yB Y_Pa_findCleared) 16 = .ok (.iload 6, 2) := by decide +kernel
theorem d_Pa_findCleared_18 : decode (yB Y_Pa_findCleared) 18 = .ok (.iload_n 2, 1) := by decide +kernel
theorem d_Pa_findCleared_19 : decode (yB Y_Pa_findCleared) 19 = .ok (.invokevirtual 164, 3) := by decide +kernel
theorem d_Pa_findCleared_22 : decode (yB Y_Pa_findCleared) 22 = .ok (.istore 7, 2) := by decide +kernel
theorem d_Pa_findCleared_24 : decode (yB Y_Pa_findCleared) 24 = .ok (.aload_n 0, 1) := by decide +kernel
theorem d_Pa_findCleared_25 : decode (yB Y_Pa_findCleared) 25 = .ok (.getfield 18, 3) := by decide +kernel
theorem d_Pa_findCleared_28 : decode (yB Y_Pa_findCleared) 28 = .ok (.iload 6, 2) := by decide +kernel
theorem d_Pa_findCleared_30 : decode (yB Y_Pa_findCleared) 30 = .ok (.aload_n 0, 1) := by decide +kernel
theorem d_Pa_findCleared_31 : decode (yB Y_Pa_findCleared) 31 = .ok (.getfield 45, 3) := by decide +kernel
theorem d_Pa_findCleared_34 : decode (yB Y_Pa_findCleared) 34 = .ok (.aload_n 1, 1) := by decide +kernel
theorem d_Pa_findCleared_35 : decode (yB Y_Pa_findCleared) 35 = .ok (.iload 6, 2) := by decide +kernel
theorem d_Pa_findCleared_37 : decode (yB Y_Pa_findCleared) 37 = .ok (.iload 7, 2) := by decide +kernel
theorem d_Pa_findCleared_39 : decode (yB Y_Pa_findCleared) 39 = .ok (.invokevirtual 167, 3) := by decide +kernel
theorem d_Pa_findCleared_42 : decode (yB Y_Pa_findCleared) 42 = .ok (.iastore, 1) := by decide +kernel
theorem d_Pa_findCleared_43 : decode (yB Y_Pa_findCleared) 43 = .ok (.aload_n 1, 1) := by decide +kernel
theorem d_Pa_findCleared_44 : decode (yB Y_Pa_findCleared) 44 = .ok (.getfield 170, 3) := by decide +kernel
theorem d_Pa_findCleared_47 : decode (yB Y_Pa_findCleared) 47 = .ok (.iload 6, 2) := by decide +kernel
theorem d_Pa_findCleared_49 : decode (yB Y_Pa_findCleared) 49 = .ok (.bipush 8, 2) := by decide +kernel
theorem d_Pa_findCleared_51 : decode (yB Y_Pa_findCleared) 51 = .ok (.imul, 1) := by decide +kernel
theorem d_Pa_findCleared_52 : decode (yB Y_Pa_findCleared) 52 = .ok (.iload 7, 2) := by decide +kernel
theorem d_Pa_findCleared_54 : decode (yB Y_Pa_findCleared) 54 = .ok (.iadd, 1) := by decide +kernel
theorem d_Pa_findCleared_55 : decode (yB Y_Pa_findCleared) 55 = .ok (.baload, 1) := by decide +kernel
theorem d_Pa_findCleared_56 : decode (yB Y_Pa_findCleared) 56 = .ok (.ifCond .eq 15, 3) := by decide +kernel
theorem d_Pa_findCleared_59 : decode (yB Y_Pa_findCleared) 59 = .ok (.iload 5, 2) := by decide +kernel
theorem d_Pa_findCleared_61 : decode (yB Y_Pa_findCleared) 61 = .ok (.iconst 1, 1) := by decide +kernel
theorem d_Pa_findCleared_62 : decode (yB Y_Pa_findCleared) 62 = .ok (.iload 6, 2) := by decide +kernel
theorem d_Pa_findCleared_64 : decode (yB Y_Pa_findCleared) 64 = .ok (.ishl, 1) := by decide +kernel
theorem d_Pa_findCleared_65 : decode (yB Y_Pa_findCleared) 65 = .ok (.ior, 1) := by decide +kernel
theorem d_Pa_findCleared_66 : decode (yB Y_Pa_findCleared) 66 = .ok (.istore 5, 2) := by decide +kernel
theorem d_Pa_findCleared_68 : decode (yB Y_Pa_findCleared) 68 = .ok (.goto 15, 3) := by decide +kernel
theorem d_Pa_findCleared_71 : decode (yB Y_Pa_findCleared) 71 = .ok (.iload 4, 2) := by decide +kernel
theorem d_Pa_findCleared_73 : decode (yB Y_Pa_findCleared) 73 = .ok (.aload_n 0, 1) := by decide +kernel
theorem d_Pa_findCleared_74 : decode (yB Y_Pa_findCleared) 74 = .ok (.getfield 18, 3) := by decide +kernel
theorem d_Pa_findCleared_77 : decode (yB Y_Pa_findCleared) 77 = .ok (.iload 6, 2) := by decide +kernel
theorem d_Pa_findCleared_79 : decode (yB Y_Pa_findCleared) 79 = .ok (.iaload, 1) := by decide +kernel
theorem d_Pa_findCleared_80 : decode (yB Y_Pa_findCleared) 80 = .ok (.iadd, 1) := by decide +kernel
theorem d_Pa_findCleared_81 : decode (yB Y_Pa_findCleared) 81 = .ok (.istore 4, 2) := by decide +kernel
theorem d_Pa_findCleared_83 : decode (yB Y_Pa_findCleared) 83 = .ok (.iinc 6 1, 3) := by decide +kernel
theorem d_Pa_findCleared_86 : decode (yB Y_Pa_findCleared) 86 = .ok (.goto (-77), 3) := by decide +kernel
theorem d_Pa_findCleared_89 : decode (yB Y_Pa_findCleared) 89 = .ok (.aload_n 0, 1) := by decide +kernel
theorem d_Pa_findCleared_90 : decode (yB Y_Pa_findCleared) 90 = .ok (.iconst 5, 1) := by decide +kernel
theorem d_Pa_findCleared_91 : decode (yB Y_Pa_findCleared) 91 = .ok (.putfield 38, 3) := by decide +kernel
theorem d_Pa_findCleared_94 : decode (yB Y_Pa_findCleared) 94 = .ok (.iconst 0, 1) := by decide +kernel
theorem d_Pa_findCleared_95 : decode (yB Y_Pa_findCleared) 95 = .ok (.istore 6, 2) := by decide +kernel
theorem d_Pa_findCleared_97 : decode (yB Y_Pa_findCleared) 97 = .ok (.iload 6, 2) := by decide +kernel
theorem d_Pa_findCleared_99 : decode (yB Y_Pa_findCleared) 99 = .ok (.bipush 16, 2) := by decide +kernel
theorem d_Pa_findCleared_101 : decode (yB Y_Pa_findCleared) 101 = .ok (.if_icmp .ge 71, 3) := by decide +kernel
theorem d_Pa_findCleared_104 : decode (yB Y_Pa_findCleared) 104 = .ok (.iload 6, 2) := by decide +kernel
theorem d_Pa_findCleared_106 : decode (yB Y_Pa_findCleared) 106 = .ok (.iload 5, 2) := by decide +kernel
theorem d_Pa_findCleared_108 : decode (yB Y_Pa_findCleared) 108 = .ok (.iconst (-1), 1) := by decide +kernel
theorem d_Pa_findCleared_109 : decode (yB Y_Pa_findCleared) 109 = .ok (.ixor, 1) := by decide +kernel
theorem d_Pa_findCleared_110 : decode (yB Y_Pa_findCleared) 110 = .ok (.iand, 1) := by decide +kernel
theorem d_Pa_findCleared_111 : decode (yB Y_Pa_findCleared) 111 = .ok (.ifCond .ne 7, 3) := by decide +kernel
theorem d_Pa_findCleared_114 : decode (yB Y_Pa_findCleared) 114 = .ok (.iconst 1, 1) := by decide +kernel
theorem d_Pa_findCleared_115 : decode (yB Y_Pa_findCleared) 115 = .ok (.goto 4, 3) := by decide +kernel
theorem d_Pa_findCleared_118 : decode (yB Y_Pa_findCleared) 118 = .ok (.iconst 0, 1) := by decide +kernel
theorem d_Pa_findCleared_119 : decode (yB Y_Pa_findCleared) 119 = .ok (.istore 7, 2) := by decide +kernel
theorem d_Pa_findCleared_121 : decode (yB Y_Pa_findCleared) 121 = .ok (.iload 7, 2) := by decide +kernel
theorem d_Pa_findCleared_123 : decode (yB Y_Pa_findCleared) 123 = .ok (.ifCond .eq 43, 3) := by decide +kernel
theorem d_Pa_findCleared_126 : decode (yB Y_Pa_findCleared) 126 = .ok (.iload 6, 2) := by decide +kernel
theorem d_Pa_findCleared_128 : decode (yB Y_Pa_findCleared) 128 = .ok (.invokestatic 174, 3) := by decide +kernel
theorem d_Pa_findCleared_131 : decode (yB Y_Pa_findCleared) 131 = .ok (.aload_n 0, 1) := by decide +kernel
theorem d_Pa_findCleared_132 : decode (yB Y_Pa_findCleared) 132 = .ok (.getfield 38, 3) := by decide +kernel
theorem d_Pa_findCleared_135 : decode (yB Y_Pa_findCleared) 135 = .ok (.if_icmp .ge 31, 3) := by decide +kernel
theorem d_Pa_findCleared_138 : decode (yB Y_Pa_findCleared) 138 = .ok (.iload 4, 2) := by decide +kernel
theorem d_Pa_findCleared_140 : decode (yB Y_Pa_findCleared) 140 = .ok (.aload_n 0, 1) := by decide +kernel
theorem d_Pa_findCleared_141 : decode (yB Y_Pa_findCleared) 141 = .ok (.iload 6, 2) := by decide +kernel
theorem d_Pa_findCleared_143 : decode (yB Y_Pa_findCleared) 143 = .ok (.invokevirtual 179, 3) := by decide +kernel
theorem d_Pa_findCleared_146 : decode (yB Y_Pa_findCleared) 146 = .ok (.iadd, 1) := by decide +kernel
theorem d_Pa_findCleared_147 : decode (yB Y_Pa_findCleared) 147 = .ok (.iload_n 3, 1) := by decide +kernel
theorem d_Pa_findCleared_148 : decode (yB Y_Pa_findCleared) 148 = .ok (.if_icmp .lt 18, 3) := by decide +kernel
theorem d_Pa_findCleared_151 : decode (yB Y_Pa_findCleared) 151 = .ok (.aload_n 0, 1) := by decide +kernel
theorem d_Pa_findCleared_152 : decode (yB Y_Pa_findCleared) 152 = .ok (.iload 6, 2) := by decide +kernel
theorem d_Pa_findCleared_154 : decode (yB Y_Pa_findCleared) 154 = .ok (.invokestatic 174, 3) := by decide +kernel
theorem d_Pa_findCleared_157 : decode (yB Y_Pa_findCleared) 157 = .ok (.putfield 38, 3) := by decide +kernel
theorem d_Pa_findCleared_160 : decode (yB Y_Pa_findCleared) 160 = .ok (.aload_n 0, 1) := by decide +kernel
theorem d_Pa_findCleared_161 : decode (yB Y_Pa_findCleared) 161 = .ok (.iload 6, 2) := by decide +kernel
theorem d_Pa_findCleared_163 : decode (yB Y_Pa_findCleared) 163 = .ok (.putfield 42, 3) := by decide +kernel
theorem d_Pa_findCleared_166 : decode (yB Y_Pa_findCleared) 166 = .ok (.iinc 6 1, 3) := by decide +kernel
theorem d_Pa_findCleared_169 : decode (yB Y_Pa_findCleared) 169 = .ok (.goto (-72), 3) := by decide +kernel
theorem d_Pa_findCleared_172 : decode (yB Y_Pa_findCleared) 172 = .ok (.aload_n 0, 1) := by decide +kernel
theorem d_Pa_findCleared_173 : decode (yB Y_Pa_findCleared) 173 = .ok (.getfield 38, 3) := by decide +kernel
theorem d_Pa_findCleared_176 : decode (yB Y_Pa_findCleared) 176 = .ok (.iconst 4, 1) := by decide +kernel
theorem d_Pa_findCleared_177 : decode (yB Y_Pa_findCleared) 177 = .ok (.if_icmp .gt 7, 3) := by decide +kernel
theorem d_Pa_findCleared_180 : decode (yB Y_Pa_findCleared) 180 = .ok (.iconst 1, 1) := by decide +kernel
theorem d_Pa_findCleared_181 : decode (yB Y_Pa_findCleared) 181 = .ok (.goto 4, 3) := by decide +kernel
theorem d_Pa_findCleared_184 : decode (yB Y_Pa_findCleared) 184 = .ok (.iconst 0, 1) := by decide +kernel
theorem d_Pa_findCleared_185 : decode (yB Y_Pa_findCleared) 185 = .ok (.ireturn, 1) := by decide +kernel
def F_Pa_findCleared_b83 (n : Nat) (E : zE) (S : zS) (r9 : Nat × Nat × Int32 × Int32 × Int32 × Int32 × Int32 × zH → Option (Bool × zH)) (a0 : Nat) (a1 : Nat) (x2 : Int32) (x3 : Int32) (x4 : Int32) (x5 : Int32) (x6 : Int32) (M : zH) : Option (Bool × zH) :=
  r9 (a0, a1, x2, x3, x4, x5, x6 + 1, M)
def F_Pa_findCleared_b166 (n : Nat) (E : zE) (S : zS) (r97 : Nat × Int32 × Int32 × Int32 × Int32 × zH → Option (Bool × zH)) (a0 : Nat) (x3 : Int32) (x4 : Int32) (x5 : Int32) (x6 : Int32) (M : zH) : Option (Bool × zH) :=
  r97 (a0, x3, x4, x5, x6 + 1, M)
def F_Pa_findCleared_b119 (n : Nat) (E : zE) (S : zS) (r97 : Nat × Int32 × Int32 × Int32 × Int32 × zH → Option (Bool × zH)) (a0 : Nat) (x3 : Int32) (x4 : Int32) (x5 : Int32) (x6 : Int32) (s0 : Int32) (M : zH) : Option (Bool × zH) :=
  if s0 = 0 then
    F_Pa_findCleared_b166 n E S r97 a0 x3 x4 x5 x6 M
  else
    (F_Ji_bitCount n E S x6 M).bind fun q_2 =>
    (zgI S q_2.2 a0 4 8).bind fun v_3 =>
    if v_3 ≤ q_2.1 then
      F_Pa_findCleared_b166 n E S r97 a0 x3 x4 x5 x6 q_2.2
    else
      (F_Pa_sharesOf n E S a0 x6 q_2.2).bind fun q_5 =>
      if (x4 + q_5.1) < x3 then
        F_Pa_findCleared_b166 n E S r97 a0 x3 x4 x5 x6 q_5.2
      else
        (F_Ji_bitCount n E S x6 q_5.2).bind fun q_7 =>
        (zpI S q_7.2 a0 4 8 q_7.1).bind fun m_8 =>
        (zpI S m_8 a0 4 9 x6).bind fun m_9 =>
        F_Pa_findCleared_b166 n E S r97 a0 x3 x4 x5 x6 m_9
def F_Pa_findCleared_L97 (n : Nat) (E : zE) (S : zS) (r97 : Nat × Int32 × Int32 × Int32 × Int32 × zH → Option (Bool × zH)) (a0 : Nat) (x3 : Int32) (x4 : Int32) (x5 : Int32) (x6 : Int32) (M : zH) : Option (Bool × zH) :=
  if 16 ≤ x6 then
    (zgI S M a0 4 8).bind fun v_11 =>
    if 4 < v_11 then
      some (false, M)
    else
      some (true, M)
  else
    if (x6 &&& (x5 ^^^ (-1 : Int32))) = 0 then
      F_Pa_findCleared_b119 n E S r97 a0 x3 x4 x5 x6 1 M
    else
      F_Pa_findCleared_b119 n E S r97 a0 x3 x4 x5 x6 0 M
def F_Pa_findCleared_b97 (n : Nat) (E : zE) (S : zS) : Nat × Int32 × Int32 × Int32 × Int32 × zH → Option (Bool × zH) := zfix (fun r97 s => F_Pa_findCleared_L97 n E S r97 s.1 s.2.1 s.2.2.1 s.2.2.2.1 s.2.2.2.2.1 s.2.2.2.2.2) n
def F_Pa_findCleared_L9 (n : Nat) (E : zE) (S : zS) (r9 : Nat × Nat × Int32 × Int32 × Int32 × Int32 × Int32 × zH → Option (Bool × zH)) (a0 : Nat) (a1 : Nat) (x2 : Int32) (x3 : Int32) (x4 : Int32) (x5 : Int32) (x6 : Int32) (M : zH) : Option (Bool × zH) :=
  if 4 ≤ x6 then
    (zpI S M a0 4 8 5).bind fun m_15 =>
    F_Pa_findCleared_b97 n E S (a0, x3, x4, x5, 0, m_15)
  else
    (zck S a1 3).bind fun u_16 =>
    (F_Ni_holeAbove n E S a1 x6 x2 M).bind fun q_17 =>
    (zgR S a0 4 2).bind fun b_18 =>
    (zgR S a0 4 0).bind fun b_19 =>
    (zck S b_19 1).bind fun u_20 =>
    (F_Ju_runsOf n E S b_19 a1 x6 q_17.1 q_17.2).bind fun q_21 =>
    (zstI S q_21.2 b_18 x6 q_21.1).bind fun m_22 =>
    (zgR S a1 3 1).bind fun b_23 =>
    (zldZ S m_22 b_23 ((x6 * 8) + q_17.1)).bind fun v_24 =>
    if v_24 = 0 then
      (zldI S m_22 b_18 x6).bind fun v_26 =>
      F_Pa_findCleared_b83 n E S r9 a0 a1 x2 x3 (x4 + v_26) x5 x6 m_22
    else
      F_Pa_findCleared_b83 n E S r9 a0 a1 x2 x3 x4 (x5 ||| ((1 : Int32) <<< (x6 &&& (31 : Int32)))) x6 m_22
def F_Pa_findCleared_b9 (n : Nat) (E : zE) (S : zS) : Nat × Nat × Int32 × Int32 × Int32 × Int32 × Int32 × zH → Option (Bool × zH) := zfix (fun r9 s => F_Pa_findCleared_L9 n E S r9 s.1 s.2.1 s.2.2.1 s.2.2.2.1 s.2.2.2.2.1 s.2.2.2.2.2.1 s.2.2.2.2.2.2.1 s.2.2.2.2.2.2.2) n
def F_Pa_findCleared (n : Nat) (E : zE) (S : zS) (a0 : Nat) (a1 : Nat) (x2 : Int32) (x3 : Int32) (M : zH) : Option (Bool × zH) :=
  F_Pa_findCleared_b9 n E S (a0, a1, x2, x3, 0, 0, 0, M)
theorem K_Pa_findCleared_b83 (n : Nat) (E : zE) (S : zS) (r9 : Nat × Nat × Int32 × Int32 × Int32 × Int32 × Int32 × zH → Option (Bool × zH)) (a0 : Nat) (a1 : Nat) (x2 : Int32) (x3 : Int32) (x4 : Int32) (x5 : Int32) (x6 : Int32) (M : zH) (r : Bool) (M' : zH) (hr9 : ∀ (a0 : Nat) (a1 : Nat) (x2 : Int32) (x3 : Int32) (x4 : Int32) (x5 : Int32) (x6 : Int32) (M : zH), r9 (a0, a1, x2, x3, x4, x5, x6, M) = some (r, M') → zG E Y_Pa_findCleared (some (.int (bI r)), S, M') 9 [(0, .ref a0), (1, .ref a1), (2, .int x2), (3, .int x3), (4, .int x4), (5, .int x5), (6, .int x6)] [] S M 0 0) (h : F_Pa_findCleared_b83 n E S r9 a0 a1 x2 x3 x4 x5 x6 M = some (r, M')) : zG E Y_Pa_findCleared (some (.int (bI r)), S, M') 83 [(0, .ref a0), (1, .ref a1), (2, .int x2), (3, .int x3), (4, .int x4), (5, .int x5), (6, .int x6)] [] S M 0 0 := by
  unfold F_Pa_findCleared_b83 at h
  refine zi_iinc 6 (x6 + 1) [(6, .int (x6 + 1)), (0, .ref a0), (1, .ref a1), (2, .int x2), (3, .int x3), (4, .int x4), (5, .int x5)] d_Pa_findCleared_83 rfl rfl (by decide) rfl ?_
  refine zi_goto (tgt := 9) d_Pa_findCleared_86 rfl ?_
  refine zi_lo [(0, .ref a0), (1, .ref a1), (2, .int x2), (3, .int x3), (4, .int x4), (5, .int x5), (6, .int (x6 + 1))] [1, 2, 3, 4, 5, 6, 0] rfl ?_
  exact hr9 a0 a1 x2 x3 x4 x5 (x6 + 1) M h
theorem K_Pa_findCleared_b166 (n : Nat) (E : zE) (S : zS) (r97 : Nat × Int32 × Int32 × Int32 × Int32 × zH → Option (Bool × zH)) (a0 : Nat) (x3 : Int32) (x4 : Int32) (x5 : Int32) (x6 : Int32) (M : zH) (r : Bool) (M' : zH) (hr97 : ∀ (a0 : Nat) (x3 : Int32) (x4 : Int32) (x5 : Int32) (x6 : Int32) (M : zH), r97 (a0, x3, x4, x5, x6, M) = some (r, M') → zG E Y_Pa_findCleared (some (.int (bI r)), S, M') 97 [(0, .ref a0), (3, .int x3), (4, .int x4), (5, .int x5), (6, .int x6)] [] S M 0 0) (h : F_Pa_findCleared_b166 n E S r97 a0 x3 x4 x5 x6 M = some (r, M')) : zG E Y_Pa_findCleared (some (.int (bI r)), S, M') 166 [(0, .ref a0), (3, .int x3), (4, .int x4), (5, .int x5), (6, .int x6)] [] S M 0 0 := by
  unfold F_Pa_findCleared_b166 at h
  refine zi_iinc 4 (x6 + 1) [(6, .int (x6 + 1)), (0, .ref a0), (3, .int x3), (4, .int x4), (5, .int x5)] d_Pa_findCleared_166 rfl rfl (by decide) rfl ?_
  refine zi_goto (tgt := 97) d_Pa_findCleared_169 rfl ?_
  refine zi_lo [(0, .ref a0), (3, .int x3), (4, .int x4), (5, .int x5), (6, .int (x6 + 1))] [1, 2, 3, 4, 0] rfl ?_
  exact hr97 a0 x3 x4 x5 (x6 + 1) M h
theorem K_Pa_findCleared_b119 (n : Nat) (E : zE) (S : zS) (r97 : Nat × Int32 × Int32 × Int32 × Int32 × zH → Option (Bool × zH)) (a0 : Nat) (x3 : Int32) (x4 : Int32) (x5 : Int32) (x6 : Int32) (s0 : Int32) (M : zH) (r : Bool) (M' : zH) (hr97 : ∀ (a0 : Nat) (x3 : Int32) (x4 : Int32) (x5 : Int32) (x6 : Int32) (M : zH), r97 (a0, x3, x4, x5, x6, M) = some (r, M') → zG E Y_Pa_findCleared (some (.int (bI r)), S, M') 97 [(0, .ref a0), (3, .int x3), (4, .int x4), (5, .int x5), (6, .int x6)] [] S M 0 0) (h : F_Pa_findCleared_b119 n E S r97 a0 x3 x4 x5 x6 s0 M = some (r, M')) : zG E Y_Pa_findCleared (some (.int (bI r)), S, M') 119 [(0, .ref a0), (3, .int x3), (4, .int x4), (5, .int x5), (6, .int x6)] [.int s0] S M 0 0 := by
  unfold F_Pa_findCleared_b119 at h
  refine zi_istore [(7, .int s0), (0, .ref a0), (3, .int x3), (4, .int x4), (5, .int x5), (6, .int x6)] d_Pa_findCleared_119 (by decide) rfl ?_
  refine zi_iload 0 d_Pa_findCleared_121 rfl ?_
  refine zi_if_eq (tgt := 166) d_Pa_findCleared_123 rfl (fun c_1 => ?_) (fun c_1 => ?_)
  · rw [if_pos c_1] at h
    refine zi_lo [(0, .ref a0), (3, .int x3), (4, .int x4), (5, .int x5), (6, .int x6)] [1, 2, 3, 4, 5] rfl ?_
    exact K_Pa_findCleared_b166 n E S r97 a0 x3 x4 x5 x6 M r M' hr97 h
  · rw [if_neg c_1] at h
    refine zi_iload 5 d_Pa_findCleared_126 rfl ?_
    obtain ⟨q_2, eq_2, h⟩ := zbind h
    refine zo_stat (k' := 0) (n' := 0) 131 [.int x6] [] [.int q_2.1] (C_Ji_bitCount n E S x6 M q_2.1 q_2.2 eq_2) d_Pa_findCleared_128 tw_1104 tw_1102 tw_1103 tw_21 dd_Ji_bitCount ⟨Nat.le_of_ble_eq_true rfl, Nat.le_of_ble_eq_true rfl, Nat.le_of_ble_eq_true rfl, Nat.le_of_ble_eq_true rfl⟩ (Nat.le_of_ble_eq_true rfl) rfl rfl rfl rfl ?_
    refine zi_aload_n 1 d_Pa_findCleared_131 rfl ?_
    obtain ⟨v_3, ev_3, h⟩ := zbind h
    refine zo_getI 135 zkd_4 8 d_Pa_findCleared_132 ev_3 rfl tw_306 rfl ?_
    refine zi_icmp_ge (tgt := 166) d_Pa_findCleared_135 rfl (fun c_4 => ?_) (fun c_4 => ?_)
    · rw [if_pos c_4] at h
      refine zi_lo [(0, .ref a0), (3, .int x3), (4, .int x4), (5, .int x5), (6, .int x6)] [1, 2, 3, 4, 5] rfl ?_
      exact K_Pa_findCleared_b166 n E S r97 a0 x3 x4 x5 x6 q_2.2 r M' hr97 h
    · rw [if_neg c_4] at h
      refine zi_iload 3 d_Pa_findCleared_138 rfl ?_
      refine zi_aload_n 1 d_Pa_findCleared_140 rfl ?_
      refine zi_iload 5 d_Pa_findCleared_141 rfl ?_
      obtain ⟨q_5, eq_5, h⟩ := zbind h
      refine zo_virt (k' := 0) (n' := 0) 146 [.int x6] [.int x4] [.int q_5.1, .int x4] zkd_4 (zgI_s ev_3).1 (C_Pa_sharesOf n E S a0 x6 q_2.2 q_5.1 q_5.2 eq_5) d_Pa_findCleared_143 tw_1111 tw_1108 tw_1110 ts_35 tw_12 dd_Pa_sharesOf ⟨Nat.le_of_ble_eq_true rfl, Nat.le_of_ble_eq_true rfl, Nat.le_of_ble_eq_true rfl, Nat.le_of_ble_eq_true rfl⟩ (Nat.le_of_ble_eq_true rfl) rfl rfl rfl rfl ?_
      refine zi_iadd d_Pa_findCleared_146 ?_
      refine zi_iload_n 2 d_Pa_findCleared_147 rfl ?_
      refine zi_icmp_lt (tgt := 166) d_Pa_findCleared_148 rfl (fun c_6 => ?_) (fun c_6 => ?_)
      · rw [if_pos c_6] at h
        refine zi_lo [(0, .ref a0), (3, .int x3), (4, .int x4), (5, .int x5), (6, .int x6)] [1, 2, 3, 4, 5] rfl ?_
        exact K_Pa_findCleared_b166 n E S r97 a0 x3 x4 x5 x6 q_5.2 r M' hr97 h
      · rw [if_neg c_6] at h
        refine zi_aload_n 1 d_Pa_findCleared_151 rfl ?_
        refine zi_iload 5 d_Pa_findCleared_152 rfl ?_
        obtain ⟨q_7, eq_7, h⟩ := zbind h
        refine zo_stat (k' := 0) (n' := 0) 157 [.int x6] [.ref a0] [.int q_7.1, .ref a0] (C_Ji_bitCount n E S x6 q_5.2 q_7.1 q_7.2 eq_7) d_Pa_findCleared_154 tw_1104 tw_1102 tw_1103 tw_21 dd_Ji_bitCount ⟨Nat.le_of_ble_eq_true rfl, Nat.le_of_ble_eq_true rfl, Nat.le_of_ble_eq_true rfl, Nat.le_of_ble_eq_true rfl⟩ (Nat.le_of_ble_eq_true rfl) rfl rfl rfl rfl ?_
        obtain ⟨m_8, em_8, h⟩ := zbind h
        refine zo_putI 160 zkd_4 8 d_Pa_findCleared_157 em_8 rfl rfl rfl tw_306 rfl ?_
        refine zi_aload_n 1 d_Pa_findCleared_160 rfl ?_
        refine zi_iload 5 d_Pa_findCleared_161 rfl ?_
        obtain ⟨m_9, em_9, h⟩ := zbind h
        refine zo_putI 166 zkd_4 9 d_Pa_findCleared_163 em_9 rfl rfl rfl tw_308 rfl ?_
        refine zi_lo [(0, .ref a0), (3, .int x3), (4, .int x4), (5, .int x5), (6, .int x6)] [1, 2, 3, 4, 5] rfl ?_
        exact K_Pa_findCleared_b166 n E S r97 a0 x3 x4 x5 x6 m_9 r M' hr97 h
theorem K_Pa_findCleared_L97 (n : Nat) (E : zE) (S : zS) (r97 : Nat × Int32 × Int32 × Int32 × Int32 × zH → Option (Bool × zH)) (a0 : Nat) (x3 : Int32) (x4 : Int32) (x5 : Int32) (x6 : Int32) (M : zH) (r : Bool) (M' : zH) (hr97 : ∀ (a0 : Nat) (x3 : Int32) (x4 : Int32) (x5 : Int32) (x6 : Int32) (M : zH), r97 (a0, x3, x4, x5, x6, M) = some (r, M') → zG E Y_Pa_findCleared (some (.int (bI r)), S, M') 97 [(0, .ref a0), (3, .int x3), (4, .int x4), (5, .int x5), (6, .int x6)] [] S M 0 0) (h : F_Pa_findCleared_L97 n E S r97 a0 x3 x4 x5 x6 M = some (r, M')) : zG E Y_Pa_findCleared (some (.int (bI r)), S, M') 97 [(0, .ref a0), (3, .int x3), (4, .int x4), (5, .int x5), (6, .int x6)] [] S M 0 0 := by
  unfold F_Pa_findCleared_L97 at h
  refine zi_iload 4 d_Pa_findCleared_97 rfl ?_
  refine zi_bipush 16 d_Pa_findCleared_99 rfl ?_
  refine zi_icmp_ge (tgt := 172) d_Pa_findCleared_101 rfl (fun c_10 => ?_) (fun c_10 => ?_)
  · rw [if_pos c_10] at h
    refine zi_aload_n 0 d_Pa_findCleared_172 rfl ?_
    obtain ⟨v_11, ev_11, h⟩ := zbind h
    refine zo_getI 176 zkd_4 8 d_Pa_findCleared_173 ev_11 rfl tw_306 rfl ?_
    refine zi_iconst 4 d_Pa_findCleared_176 rfl ?_
    refine zi_icmp_gt (tgt := 184) d_Pa_findCleared_177 rfl (fun c_12 => ?_) (fun c_12 => ?_)
    · rw [if_pos c_12] at h
      refine zi_iconst 0 d_Pa_findCleared_184 rfl ?_
      cases h
      exact zo_retB d_Pa_findCleared_185 (Nat.le_of_ble_eq_true rfl) (Nat.le_of_ble_eq_true rfl) rfl
    · rw [if_neg c_12] at h
      refine zi_iconst 1 d_Pa_findCleared_180 rfl ?_
      refine zi_goto (tgt := 185) d_Pa_findCleared_181 rfl ?_
      cases h
      exact zo_retB d_Pa_findCleared_185 (Nat.le_of_ble_eq_true rfl) (Nat.le_of_ble_eq_true rfl) rfl
  · rw [if_neg c_10] at h
    refine zi_iload 4 d_Pa_findCleared_104 rfl ?_
    refine zi_iload 3 d_Pa_findCleared_106 rfl ?_
    refine zi_iconst (-1) d_Pa_findCleared_108 rfl ?_
    refine zi_ixor d_Pa_findCleared_109 ?_
    refine zi_iand d_Pa_findCleared_110 ?_
    refine zi_if_ne (tgt := 118) d_Pa_findCleared_111 rfl (fun c_13 => ?_) (fun c_13 => ?_)
    · rw [if_neg c_13] at h
      refine zi_iconst 0 d_Pa_findCleared_118 rfl ?_
      refine zi_lo [(0, .ref a0), (3, .int x3), (4, .int x4), (5, .int x5), (6, .int x6)] [0, 1, 2, 3, 4] rfl ?_
      exact K_Pa_findCleared_b119 n E S r97 a0 x3 x4 x5 x6 0 M r M' hr97 h
    · rw [if_pos c_13] at h
      refine zi_iconst 1 d_Pa_findCleared_114 rfl ?_
      refine zi_goto (tgt := 119) d_Pa_findCleared_115 rfl ?_
      refine zi_lo [(0, .ref a0), (3, .int x3), (4, .int x4), (5, .int x5), (6, .int x6)] [0, 1, 2, 3, 4] rfl ?_
      exact K_Pa_findCleared_b119 n E S r97 a0 x3 x4 x5 x6 1 M r M' hr97 h
theorem K_Pa_findCleared_b97 (n : Nat) (E : zE) (S : zS) (a0 : Nat) (x3 : Int32) (x4 : Int32) (x5 : Int32) (x6 : Int32) (M : zH) (r : Bool) (M' : zH)  (h : F_Pa_findCleared_b97 n E S (a0, x3, x4, x5, x6, M) = some (r, M')) : zG E Y_Pa_findCleared (some (.int (bI r)), S, M') 97 [(0, .ref a0), (3, .int x3), (4, .int x4), (5, .int x5), (6, .int x6)] [] S M 0 0 := by
  have key : ∀ (k : Nat) (a0 : Nat) (x3 : Int32) (x4 : Int32) (x5 : Int32) (x6 : Int32) (M : zH), zfix (fun r97 s => F_Pa_findCleared_L97 n E S r97 s.1 s.2.1 s.2.2.1 s.2.2.2.1 s.2.2.2.2.1 s.2.2.2.2.2) k (a0, x3, x4, x5, x6, M) = some (r, M') → zG E Y_Pa_findCleared (some (.int (bI r)), S, M') 97 [(0, .ref a0), (3, .int x3), (4, .int x4), (5, .int x5), (6, .int x6)] [] S M 0 0 := by
    intro k
    induction k with
    | zero => intro a0 x3 x4 x5 x6 M h; cases h
    | succ k ih => intro a0 x3 x4 x5 x6 M h; exact K_Pa_findCleared_L97 n E S _ a0 x3 x4 x5 x6 M r M'  (fun a0 x3 x4 x5 x6 M h => ih a0 x3 x4 x5 x6 M h) h
  exact key n a0 x3 x4 x5 x6 M h
theorem K_Pa_findCleared_L9 (n : Nat) (E : zE) (S : zS) (r9 : Nat × Nat × Int32 × Int32 × Int32 × Int32 × Int32 × zH → Option (Bool × zH)) (a0 : Nat) (a1 : Nat) (x2 : Int32) (x3 : Int32) (x4 : Int32) (x5 : Int32) (x6 : Int32) (M : zH) (r : Bool) (M' : zH) (hr9 : ∀ (a0 : Nat) (a1 : Nat) (x2 : Int32) (x3 : Int32) (x4 : Int32) (x5 : Int32) (x6 : Int32) (M : zH), r9 (a0, a1, x2, x3, x4, x5, x6, M) = some (r, M') → zG E Y_Pa_findCleared (some (.int (bI r)), S, M') 9 [(0, .ref a0), (1, .ref a1), (2, .int x2), (3, .int x3), (4, .int x4), (5, .int x5), (6, .int x6)] [] S M 0 0) (h : F_Pa_findCleared_L9 n E S r9 a0 a1 x2 x3 x4 x5 x6 M = some (r, M')) : zG E Y_Pa_findCleared (some (.int (bI r)), S, M') 9 [(0, .ref a0), (1, .ref a1), (2, .int x2), (3, .int x3), (4, .int x4), (5, .int x5), (6, .int x6)] [] S M 0 0 := by
  unfold F_Pa_findCleared_L9 at h
  refine zi_iload 6 d_Pa_findCleared_9 rfl ?_
  refine zi_iconst 4 d_Pa_findCleared_11 rfl ?_
  refine zi_icmp_ge (tgt := 89) d_Pa_findCleared_12 rfl (fun c_14 => ?_) (fun c_14 => ?_)
  · rw [if_pos c_14] at h
    refine zi_aload_n 0 d_Pa_findCleared_89 rfl ?_
    refine zi_iconst 5 d_Pa_findCleared_90 rfl ?_
    obtain ⟨m_15, em_15, h⟩ := zbind h
    refine zo_putI 94 zkd_4 8 d_Pa_findCleared_91 em_15 rfl rfl rfl tw_306 rfl ?_
    refine zi_iconst 0 d_Pa_findCleared_94 rfl ?_
    refine zi_istore [(6, .int 0), (0, .ref a0), (1, .ref a1), (2, .int x2), (3, .int x3), (4, .int x4), (5, .int x5)] d_Pa_findCleared_95 (by decide) rfl ?_
    refine zi_lo [(0, .ref a0), (3, .int x3), (4, .int x4), (5, .int x5), (6, .int 0)] [1, 4, 5, 6, 0] rfl ?_
    exact K_Pa_findCleared_b97 n E S a0 x3 x4 x5 0 m_15 r M'  h
  · rw [if_neg c_14] at h
    refine zi_aload_n 1 d_Pa_findCleared_15 rfl ?_
    refine zi_iload 6 d_Pa_findCleared_16 rfl ?_
    refine zi_iload_n 2 d_Pa_findCleared_18 rfl ?_
    obtain ⟨u_16, eu_16, h⟩ := zbind h
    obtain ⟨q_17, eq_17, h⟩ := zbind h
    refine zo_virt (k' := 0) (n' := 0) 22 [.int x6, .int x2] [] [.int q_17.1] zkd_3 (zck_s eu_16) (C_Ni_holeAbove n E S a1 x6 x2 M q_17.1 q_17.2 eq_17) d_Pa_findCleared_19 tw_518 tw_1100 tw_516 tw_517 tw_2 dd_Ni_holeAbove ⟨Nat.le_of_ble_eq_true rfl, Nat.le_of_ble_eq_true rfl, Nat.le_of_ble_eq_true rfl, Nat.le_of_ble_eq_true rfl⟩ (Nat.le_of_ble_eq_true rfl) rfl rfl rfl rfl ?_
    refine zi_istore [(7, .int q_17.1), (0, .ref a0), (1, .ref a1), (2, .int x2), (3, .int x3), (4, .int x4), (5, .int x5), (6, .int x6)] d_Pa_findCleared_22 (by decide) rfl ?_
    refine zi_aload_n 1 d_Pa_findCleared_24 rfl ?_
    obtain ⟨b_18, eb_18, h⟩ := zbind h
    refine zo_getR 28 zkd_4 2 d_Pa_findCleared_25 eb_18 rfl tw_300 rfl ?_
    refine zi_iload 7 d_Pa_findCleared_28 rfl ?_
    refine zi_aload_n 1 d_Pa_findCleared_30 rfl ?_
    obtain ⟨b_19, eb_19, h⟩ := zbind h
    refine zo_getR 34 zkd_4 0 d_Pa_findCleared_31 eb_19 rfl tw_298 rfl ?_
    refine zi_aload_n 2 d_Pa_findCleared_34 rfl ?_
    refine zi_iload 7 d_Pa_findCleared_35 rfl ?_
    refine zi_iload 0 d_Pa_findCleared_37 rfl ?_
    obtain ⟨u_20, eu_20, h⟩ := zbind h
    obtain ⟨q_21, eq_21, h⟩ := zbind h
    refine zo_virt (k' := 0) (n' := 0) 42 [.ref a1, .int x6, .int q_17.1] [.int x6, .ref b_18] [.int q_21.1, .int x6, .ref b_18] zkd_1 (zck_s eu_20) (C_Ju_runsOf n E S b_19 a1 x6 q_17.1 q_17.2 q_21.1 q_21.2 eq_21) d_Pa_findCleared_39 tw_413 tw_1101 tw_411 tw_412 tw_8 dd_Ju_runsOf ⟨Nat.le_of_ble_eq_true rfl, Nat.le_of_ble_eq_true rfl, Nat.le_of_ble_eq_true rfl, Nat.le_of_ble_eq_true rfl⟩ (Nat.le_of_ble_eq_true rfl) rfl rfl rfl rfl ?_
    obtain ⟨m_22, em_22, h⟩ := zbind h
    refine zo_iast 43 d_Pa_findCleared_42 em_22 rfl ?_
    refine zi_aload_n 2 d_Pa_findCleared_43 rfl ?_
    obtain ⟨b_23, eb_23, h⟩ := zbind h
    refine zo_getR 47 zkd_3 1 d_Pa_findCleared_44 eb_23 rfl tw_51 rfl ?_
    refine zi_iload 7 d_Pa_findCleared_47 rfl ?_
    refine zi_bipush 8 d_Pa_findCleared_49 rfl ?_
    refine zi_imul d_Pa_findCleared_51 ?_
    refine zi_iload 0 d_Pa_findCleared_52 rfl ?_
    refine zi_iadd d_Pa_findCleared_54 ?_
    obtain ⟨v_24, ev_24, h⟩ := zbind h
    refine zo_zald 56 d_Pa_findCleared_55 ev_24 rfl ?_
    refine zi_if_eq (tgt := 71) d_Pa_findCleared_56 rfl (fun c_25 => ?_) (fun c_25 => ?_)
    · rw [if_pos c_25] at h
      refine zi_iload 5 d_Pa_findCleared_71 rfl ?_
      refine zi_aload_n 1 d_Pa_findCleared_73 rfl ?_
      refine zo_getR 77 zkd_4 2 d_Pa_findCleared_74 eb_18 rfl tw_300 rfl ?_
      refine zi_iload 7 d_Pa_findCleared_77 rfl ?_
      obtain ⟨v_26, ev_26, h⟩ := zbind h
      refine zo_iald 80 d_Pa_findCleared_79 ev_26 rfl ?_
      refine zi_iadd d_Pa_findCleared_80 ?_
      refine zi_istore [(4, .int (x4 + v_26)), (7, .int q_17.1), (0, .ref a0), (1, .ref a1), (2, .int x2), (3, .int x3), (5, .int x5), (6, .int x6)] d_Pa_findCleared_81 (by decide) rfl ?_
      refine zi_lo [(0, .ref a0), (1, .ref a1), (2, .int x2), (3, .int x3), (4, .int (x4 + v_26)), (5, .int x5), (6, .int x6)] [2, 3, 4, 5, 0, 6, 7] rfl ?_
      exact K_Pa_findCleared_b83 n E S r9 a0 a1 x2 x3 (x4 + v_26) x5 x6 m_22 r M' hr9 h
    · rw [if_neg c_25] at h
      refine zi_iload 6 d_Pa_findCleared_59 rfl ?_
      refine zi_iconst 1 d_Pa_findCleared_61 rfl ?_
      refine zi_iload 7 d_Pa_findCleared_62 rfl ?_
      refine zi_ishl d_Pa_findCleared_64 ?_
      refine zi_ior d_Pa_findCleared_65 ?_
      refine zi_istore [(5, .int (x5 ||| ((1 : Int32) <<< (x6 &&& (31 : Int32))))), (7, .int q_17.1), (0, .ref a0), (1, .ref a1), (2, .int x2), (3, .int x3), (4, .int x4), (6, .int x6)] d_Pa_findCleared_66 (by decide) rfl ?_
      refine zi_goto (tgt := 83) d_Pa_findCleared_68 rfl ?_
      refine zi_lo [(0, .ref a0), (1, .ref a1), (2, .int x2), (3, .int x3), (4, .int x4), (5, .int (x5 ||| ((1 : Int32) <<< (x6 &&& (31 : Int32))))), (6, .int x6)] [2, 3, 4, 5, 6, 0, 7] rfl ?_
      exact K_Pa_findCleared_b83 n E S r9 a0 a1 x2 x3 x4 (x5 ||| ((1 : Int32) <<< (x6 &&& (31 : Int32)))) x6 m_22 r M' hr9 h
theorem K_Pa_findCleared_b9 (n : Nat) (E : zE) (S : zS) (a0 : Nat) (a1 : Nat) (x2 : Int32) (x3 : Int32) (x4 : Int32) (x5 : Int32) (x6 : Int32) (M : zH) (r : Bool) (M' : zH)  (h : F_Pa_findCleared_b9 n E S (a0, a1, x2, x3, x4, x5, x6, M) = some (r, M')) : zG E Y_Pa_findCleared (some (.int (bI r)), S, M') 9 [(0, .ref a0), (1, .ref a1), (2, .int x2), (3, .int x3), (4, .int x4), (5, .int x5), (6, .int x6)] [] S M 0 0 := by
  have key : ∀ (k : Nat) (a0 : Nat) (a1 : Nat) (x2 : Int32) (x3 : Int32) (x4 : Int32) (x5 : Int32) (x6 : Int32) (M : zH), zfix (fun r9 s => F_Pa_findCleared_L9 n E S r9 s.1 s.2.1 s.2.2.1 s.2.2.2.1 s.2.2.2.2.1 s.2.2.2.2.2.1 s.2.2.2.2.2.2.1 s.2.2.2.2.2.2.2) k (a0, a1, x2, x3, x4, x5, x6, M) = some (r, M') → zG E Y_Pa_findCleared (some (.int (bI r)), S, M') 9 [(0, .ref a0), (1, .ref a1), (2, .int x2), (3, .int x3), (4, .int x4), (5, .int x5), (6, .int x6)] [] S M 0 0 := by
    intro k
    induction k with
    | zero => intro a0 a1 x2 x3 x4 x5 x6 M h; cases h
    | succ k ih => intro a0 a1 x2 x3 x4 x5 x6 M h; exact K_Pa_findCleared_L9 n E S _ a0 a1 x2 x3 x4 x5 x6 M r M'  (fun a0 a1 x2 x3 x4 x5 x6 M h => ih a0 a1 x2 x3 x4 x5 x6 M h) h
  exact key n a0 a1 x2 x3 x4 x5 x6 M h
theorem K_Pa_findCleared (n : Nat) (E : zE) (S : zS) (a0 : Nat) (a1 : Nat) (x2 : Int32) (x3 : Int32) (M : zH) (r : Bool) (M' : zH)  (h : F_Pa_findCleared n E S a0 a1 x2 x3 M = some (r, M')) : zG E Y_Pa_findCleared (some (.int (bI r)), S, M') 0 [(0, .ref a0), (1, .ref a1), (2, .int x2), (3, .int x3)] [] S M 0 0 := by
  unfold F_Pa_findCleared at h
  refine zi_iconst 0 d_Pa_findCleared_0 rfl ?_
  refine zi_istore [(4, .int 0), (0, .ref a0), (1, .ref a1), (2, .int x2), (3, .int x3)] d_Pa_findCleared_1 (by decide) rfl ?_
  refine zi_iconst 0 d_Pa_findCleared_3 rfl ?_
  refine zi_istore [(5, .int 0), (4, .int 0), (0, .ref a0), (1, .ref a1), (2, .int x2), (3, .int x3)] d_Pa_findCleared_4 (by decide) rfl ?_
  refine zi_iconst 0 d_Pa_findCleared_6 rfl ?_
  refine zi_istore [(6, .int 0), (5, .int 0), (4, .int 0), (0, .ref a0), (1, .ref a1), (2, .int x2), (3, .int x3)] d_Pa_findCleared_7 (by decide) rfl ?_
  refine zi_lo [(0, .ref a0), (1, .ref a1), (2, .int x2), (3, .int x3), (4, .int 0), (5, .int 0), (6, .int 0)] [3, 4, 5, 6, 2, 1, 0] rfl ?_
  exact K_Pa_findCleared_b9 n E S a0 a1 x2 x3 0 0 0 M r M'  h
theorem C_Pa_findCleared (n : Nat) (E : zE) (S : zS) (a0 : Nat) (a1 : Nat) (x2 : Int32) (x3 : Int32) (M : zH) (r : Bool) (M' : zH) (h : F_Pa_findCleared n E S a0 a1 x2 x3 M = some (r, M')) : zC E Y_Pa_findCleared [.ref a0, .ref a1, .int x2, .int x3] S M (some (.int (bI r)), S, M') :=
  zC.of (Or.inl (show plainName "NightColander$Paper" = true by decide)) (Nat.le_of_ble_eq_true rfl) (bI_nar r) (K_Pa_findCleared n E S a0 a1 x2 x3 M r M' h)
theorem d_NC_cleared_0 : decode (yB Y_NC_cleared) 0 = .ok (.iload_n 1, 1) := by decide +kernel
theorem d_NC_cleared_1 : decode (yB Y_NC_cleared) 1 = .ok (.invokestatic 149, 3) := by decide +kernel
theorem d_NC_cleared_4 : decode (yB Y_NC_cleared) 4 = .ok (.ifCond .eq 23, 3) := by decide +kernel
theorem d_NC_cleared_7 : decode (yB Y_NC_cleared) 7 = .ok (.iload_n 2, 1) := by decide +kernel
theorem d_NC_cleared_8 : decode (yB Y_NC_cleared) 8 = .ok (.iconst 0, 1) := by decide +kernel
theorem d_NC_cleared_9 : decode (yB Y_NC_cleared) 9 = .ok (.sipush 400, 3) := by decide +kernel
theorem d_NC_cleared_12 : decode (yB Y_NC_cleared) 12 = .ok (.invokestatic 132, 3) := by decide +kernel
theorem d_NC_cleared_15 : decode (yB Y_NC_cleared) 15 = .ok (.ifCond .eq 12, 3) := by decide +kernel
theorem d_NC_cleared_18 : decode (yB Y_NC_cleared) 18 = .ok (.iload_n 3, 1) := by decide +kernel
theorem d_NC_cleared_19 : decode (yB Y_NC_cleared) 19 = .ok (.iconst 0, 1) := by decide +kernel
theorem d_NC_cleared_20 : decode (yB Y_NC_cleared) 20 = .ok (.iconst 1, 1) := by decide +kernel
theorem d_NC_cleared_21 : decode (yB Y_NC_cleared) 21 = .ok (.invokestatic 132, 3) := by decide +kernel
theorem d_NC_cleared_24 : decode (yB Y_NC_cleared) 24 = .ok (.ifCond .ne 5, 3) := by decide +kernel
theorem d_NC_cleared_27 : decode (yB Y_NC_cleared) 27 = .ok (.iconst (-1), 1) := by decide +kernel
theorem d_NC_cleared_28 : decode (yB Y_NC_cleared) 28 = .ok (.ireturn, 1) := by decide +kernel
theorem d_NC_cleared_29 : decode (yB Y_NC_cleared) 29 = .ok (.aload_n 0, 1) := by decide +kernel
theorem d_NC_cleared_30 : decode (yB Y_NC_cleared) 30 = .ok (.getfield 86, 3) := by decide +kernel
theorem d_NC_cleared_33 : decode (yB Y_NC_cleared) 33 = .ok (.aload_n 0, 1) := by decide +kernel
theorem d_NC_cleared_34 : decode (yB Y_NC_cleared) 34 = .ok (.getfield 12, 3) := by decide +kernel
theorem d_NC_cleared_37 : decode (yB Y_NC_cleared) 37 = .ok (.iload_n 1, 1) := by decide +kernel
theorem d_NC_cleared_38 : decode (yB Y_NC_cleared) 38 = .ok (.iload_n 2, 1) := by decide +kernel
theorem d_NC_cleared_39 : decode (yB Y_NC_cleared) 39 = .ok (.invokevirtual 292, 3) := by decide +kernel
theorem d_NC_cleared_42 : decode (yB Y_NC_cleared) 42 = .ok (.ifCond .ne 5, 3) := by decide +kernel
theorem d_NC_cleared_45 : decode (yB Y_NC_cleared) 45 = .ok (.iconst (-1), 1) := by decide +kernel
theorem d_NC_cleared_46 : decode (yB Y_NC_cleared) 46 = .ok (.ireturn, 1) := by decide +kernel
theorem d_NC_cleared_47 : decode (yB Y_NC_cleared) 47 = .ok (.iload_n 3, 1) := by decide +kernel
theorem d_NC_cleared_48 : decode (yB Y_NC_cleared) 48 = .ok (.ifCond .ne 13, 3) := by decide +kernel
theorem d_NC_cleared_51 : decode (yB Y_NC_cleared) 51 = .ok (.aload_n 0, 1) := by decide +kernel
theorem d_NC_cleared_52 : decode (yB Y_NC_cleared) 52 = .ok (.getfield 86, 3) := by decide +kernel
theorem d_NC_cleared_55 : decode (yB Y_NC_cleared) 55 = .ok (.getfield 267, 3) := by decide +kernel
theorem d_NC_cleared_58 : decode (yB Y_NC_cleared) 58 = .ok (.goto 10, 3) := by decide +kernel
theorem d_NC_cleared_61 : decode (yB Y_NC_cleared) 61 = .ok (.aload_n 0, 1) := by decide +kernel
theorem d_NC_cleared_62 : decode (yB Y_NC_cleared) 62 = .ok (.getfield 86, 3) := by decide +kernel
theorem d_NC_cleared_65 : decode (yB Y_NC_cleared) 65 = .ok (.getfield 286, 3) := by decide +kernel
theorem d_NC_cleared_68 : decode (yB Y_NC_cleared) 68 = .ok (.ireturn, 1) := by decide +kernel
def F_NC_cleared (n : Nat) (E : zE) (S : zS) (a0 : Nat) (x1 : Int32) (x2 : Int32) (x3 : Int32) (M : zH) : Option (Int32 × zH) :=
  (F_NC_isField n E S x1 M).bind fun q_1 =>
  if q_1.1 = true then
    (F_NC_within n E S x2 0 400 q_1.2).bind fun q_3 =>
    if q_3.1 = true then
      (F_NC_within n E S x3 0 1 q_3.2).bind fun q_5 =>
      if q_5.1 = true then
        (zgR S a0 10 12).bind fun b_7 =>
        (zgR S a0 10 0).bind fun b_8 =>
        (zck S b_7 4).bind fun u_9 =>
        (F_Pa_findCleared n E S b_7 b_8 x1 x2 q_5.2).bind fun q_10 =>
        if q_10.1 = true then
          if x3 = 0 then
            (zgI S q_10.2 b_7 4 8).bind fun v_13 =>
            some (v_13, q_10.2)
          else
            (zgI S q_10.2 b_7 4 9).bind fun v_14 =>
            some (v_14, q_10.2)
        else
          some ((-1), q_10.2)
      else
        some ((-1), q_5.2)
    else
      some ((-1), q_3.2)
  else
    some ((-1), q_1.2)
theorem K_NC_cleared (n : Nat) (E : zE) (S : zS) (a0 : Nat) (x1 : Int32) (x2 : Int32) (x3 : Int32) (M : zH) (r : Int32) (M' : zH)  (h : F_NC_cleared n E S a0 x1 x2 x3 M = some (r, M')) : zG E Y_NC_cleared (some (.int r), S, M') 0 [(0, .ref a0), (1, .int x1), (2, .int x2), (3, .int x3)] [] S M 0 0 := by
  unfold F_NC_cleared at h
  refine zi_iload_n 1 d_NC_cleared_0 rfl ?_
  obtain ⟨q_1, eq_1, h⟩ := zbind h
  refine zo_stat (k' := 0) (n' := 0) 4 [.int x1] [] [.int (bI q_1.1)] (C_NC_isField n E S x1 M q_1.1 q_1.2 eq_1) d_NC_cleared_1 tw_465 tw_463 tw_464 tw_1 dd_NC_isField ⟨Nat.le_of_ble_eq_true rfl, Nat.le_of_ble_eq_true rfl, Nat.le_of_ble_eq_true rfl, Nat.le_of_ble_eq_true rfl⟩ (Nat.le_of_ble_eq_true rfl) rfl rfl rfl rfl ?_
  refine zo_ifeqB d_NC_cleared_4 rfl 7 rfl (fun c_2 => ?_) (fun c_2 => ?_)
  · rw [if_neg c_2] at h
    refine zi_iconst (-1) d_NC_cleared_27 rfl ?_
    cases h
    exact zo_ret d_NC_cleared_28 (Nat.le_of_ble_eq_true rfl) (Nat.le_of_ble_eq_true rfl) rfl
  · rw [if_pos c_2] at h
    refine zi_iload_n 2 d_NC_cleared_7 rfl ?_
    refine zi_iconst 0 d_NC_cleared_8 rfl ?_
    refine zi_sipush 400 d_NC_cleared_9 rfl ?_
    obtain ⟨q_3, eq_3, h⟩ := zbind h
    refine zo_stat (k' := 0) (n' := 0) 15 [.int x2, .int 0, .int 400] [] [.int (bI q_3.1)] (C_NC_within n E S x2 0 400 q_1.2 q_3.1 q_3.2 eq_3) d_NC_cleared_12 tw_399 tw_397 tw_398 tw_1 dd_NC_within ⟨Nat.le_of_ble_eq_true rfl, Nat.le_of_ble_eq_true rfl, Nat.le_of_ble_eq_true rfl, Nat.le_of_ble_eq_true rfl⟩ (Nat.le_of_ble_eq_true rfl) rfl rfl rfl rfl ?_
    refine zo_ifeqB d_NC_cleared_15 rfl 18 rfl (fun c_4 => ?_) (fun c_4 => ?_)
    · rw [if_neg c_4] at h
      refine zi_iconst (-1) d_NC_cleared_27 rfl ?_
      cases h
      exact zo_ret d_NC_cleared_28 (Nat.le_of_ble_eq_true rfl) (Nat.le_of_ble_eq_true rfl) rfl
    · rw [if_pos c_4] at h
      refine zi_iload_n 3 d_NC_cleared_18 rfl ?_
      refine zi_iconst 0 d_NC_cleared_19 rfl ?_
      refine zi_iconst 1 d_NC_cleared_20 rfl ?_
      obtain ⟨q_5, eq_5, h⟩ := zbind h
      refine zo_stat (k' := 0) (n' := 0) 24 [.int x3, .int 0, .int 1] [] [.int (bI q_5.1)] (C_NC_within n E S x3 0 1 q_3.2 q_5.1 q_5.2 eq_5) d_NC_cleared_21 tw_399 tw_397 tw_398 tw_1 dd_NC_within ⟨Nat.le_of_ble_eq_true rfl, Nat.le_of_ble_eq_true rfl, Nat.le_of_ble_eq_true rfl, Nat.le_of_ble_eq_true rfl⟩ (Nat.le_of_ble_eq_true rfl) rfl rfl rfl rfl ?_
      refine zo_ifneB d_NC_cleared_24 rfl 27 rfl (fun c_6 => ?_) (fun c_6 => ?_)
      · rw [if_pos c_6] at h
        refine zi_aload_n 0 d_NC_cleared_29 rfl ?_
        obtain ⟨b_7, eb_7, h⟩ := zbind h
        refine zo_getR 33 zkd_10 12 d_NC_cleared_30 eb_7 rfl tw_344 rfl ?_
        refine zi_aload_n 0 d_NC_cleared_33 rfl ?_
        obtain ⟨b_8, eb_8, h⟩ := zbind h
        refine zo_getR 37 zkd_10 0 d_NC_cleared_34 eb_8 rfl tw_332 rfl ?_
        refine zi_iload_n 1 d_NC_cleared_37 rfl ?_
        refine zi_iload_n 2 d_NC_cleared_38 rfl ?_
        obtain ⟨u_9, eu_9, h⟩ := zbind h
        obtain ⟨q_10, eq_10, h⟩ := zbind h
        refine zo_virt (k' := 0) (n' := 0) 42 [.ref b_8, .int x1, .int x2] [] [.int (bI q_10.1)] zkd_4 (zck_s eu_9) (C_Pa_findCleared n E S b_7 b_8 x1 x2 q_5.2 q_10.1 q_10.2 eq_10) d_NC_cleared_39 tw_1099 tw_1096 tw_1097 tw_1098 tw_12 dd_Pa_findCleared ⟨Nat.le_of_ble_eq_true rfl, Nat.le_of_ble_eq_true rfl, Nat.le_of_ble_eq_true rfl, Nat.le_of_ble_eq_true rfl⟩ (Nat.le_of_ble_eq_true rfl) rfl rfl rfl rfl ?_
        refine zo_ifneB d_NC_cleared_42 rfl 45 rfl (fun c_11 => ?_) (fun c_11 => ?_)
        · rw [if_pos c_11] at h
          refine zi_iload_n 3 d_NC_cleared_47 rfl ?_
          refine zi_if_ne (tgt := 61) d_NC_cleared_48 rfl (fun c_12 => ?_) (fun c_12 => ?_)
          · rw [if_neg c_12] at h
            refine zi_aload_n 0 d_NC_cleared_61 rfl ?_
            refine zo_getR 65 zkd_10 12 d_NC_cleared_62 eb_7 rfl tw_344 rfl ?_
            obtain ⟨v_14, ev_14, h⟩ := zbind h
            refine zo_getI 68 zkd_4 9 d_NC_cleared_65 ev_14 rfl tw_309 rfl ?_
            cases h
            exact zo_ret d_NC_cleared_68 (Nat.le_of_ble_eq_true rfl) (Nat.le_of_ble_eq_true rfl) rfl
          · rw [if_pos c_12] at h
            refine zi_aload_n 0 d_NC_cleared_51 rfl ?_
            refine zo_getR 55 zkd_10 12 d_NC_cleared_52 eb_7 rfl tw_344 rfl ?_
            obtain ⟨v_13, ev_13, h⟩ := zbind h
            refine zo_getI 58 zkd_4 8 d_NC_cleared_55 ev_13 rfl tw_307 rfl ?_
            refine zi_goto (tgt := 68) d_NC_cleared_58 rfl ?_
            cases h
            exact zo_ret d_NC_cleared_68 (Nat.le_of_ble_eq_true rfl) (Nat.le_of_ble_eq_true rfl) rfl
        · rw [if_neg c_11] at h
          refine zi_iconst (-1) d_NC_cleared_45 rfl ?_
          cases h
          exact zo_ret d_NC_cleared_46 (Nat.le_of_ble_eq_true rfl) (Nat.le_of_ble_eq_true rfl) rfl
      · rw [if_neg c_6] at h
        refine zi_iconst (-1) d_NC_cleared_27 rfl ?_
        cases h
        exact zo_ret d_NC_cleared_28 (Nat.le_of_ble_eq_true rfl) (Nat.le_of_ble_eq_true rfl) rfl
theorem C_NC_cleared (n : Nat) (E : zE) (S : zS) (a0 : Nat) (x1 : Int32) (x2 : Int32) (x3 : Int32) (M : zH) (r : Int32) (M' : zH) (h : F_NC_cleared n E S a0 x1 x2 x3 M = some (r, M')) : zC E Y_NC_cleared [.ref a0, .int x1, .int x2, .int x3] S M (some (.int r), S, M') :=
  zC.of (Or.inl (show plainName "NightColander" = true by decide)) (Nat.le_of_ble_eq_true rfl) (trivial) (K_NC_cleared n E S a0 x1 x2 x3 M r M' h)
