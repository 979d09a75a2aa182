/-! METHODS (printed by gen/build.py): NC_fault NC_stopped Ni_hasLaw NC_force NC_answered NC_block NC_ream NC_set NC_pass Pt_takeBack NC_undo Pa_hoursUntil NC_when Pa_digitOfChoice Pa_catchOn Pa_caughtByRow Pa_findFalls -/
theorem d_NC_fault_0 : decode (yB Y_NC_fault) 0 = .ok (.aload_n 0, 1) := by decide +kernel
theorem d_NC_fault_1 : decode (yB Y_NC_fault) 1 = .ok (.getfield 105, 3) := by decide +kernel
theorem d_NC_fault_4 : decode (yB Y_NC_fault) 4 = .ok (.ireturn, 1) := by decide +kernel
def F_NC_fault (n : Nat) (E : zE) (S : zS) (a0 : Nat) (M : zH) : Option (Int32 × zH) :=
  (zgI S M a0 10 17).bind fun v_1 =>
  some (v_1, M)
theorem K_NC_fault (n : Nat) (E : zE) (S : zS) (a0 : Nat) (M : zH) (r : Int32) (M' : zH)  (h : F_NC_fault n E S a0 M = some (r, M')) : zG E Y_NC_fault (some (.int r), S, M') 0 [(0, .ref a0)] [] S M 0 0 := by
  unfold F_NC_fault at h
  refine zi_aload_n 0 d_NC_fault_0 rfl ?_
  obtain ⟨v_1, ev_1, h⟩ := zbind h
  refine zo_getI 4 zkd_10 17 d_NC_fault_1 ev_1 rfl tw_349 rfl ?_
  cases h
  exact zo_ret d_NC_fault_4 (Nat.le_of_ble_eq_true rfl) (Nat.le_of_ble_eq_true rfl) rfl
theorem C_NC_fault (n : Nat) (E : zE) (S : zS) (a0 : Nat) (M : zH) (r : Int32) (M' : zH) (h : F_NC_fault n E S a0 M = some (r, M')) : zC E Y_NC_fault [.ref a0] S M (some (.int r), S, M') :=
  zC.of (Or.inl (show plainName "NightColander" = true by decide)) (Nat.le_of_ble_eq_true rfl) (trivial) (K_NC_fault n E S a0 M r M' h)
theorem d_NC_stopped_0 : decode (yB Y_NC_stopped) 0 = .ok (.aload_n 0, 1) := by decide +kernel
theorem d_NC_stopped_1 : decode (yB Y_NC_stopped) 1 = .ok (.getfield 108, 3) := by decide +kernel
theorem d_NC_stopped_4 : decode (yB Y_NC_stopped) 4 = .ok (.ireturn, 1) := by decide +kernel
def F_NC_stopped (n : Nat) (E : zE) (S : zS) (a0 : Nat) (M : zH) : Option (Int32 × zH) :=
  (zgI S M a0 10 18).bind fun v_1 =>
  some (v_1, M)
theorem K_NC_stopped (n : Nat) (E : zE) (S : zS) (a0 : Nat) (M : zH) (r : Int32) (M' : zH)  (h : F_NC_stopped n E S a0 M = some (r, M')) : zG E Y_NC_stopped (some (.int r), S, M') 0 [(0, .ref a0)] [] S M 0 0 := by
  unfold F_NC_stopped at h
  refine zi_aload_n 0 d_NC_stopped_0 rfl ?_
  obtain ⟨v_1, ev_1, h⟩ := zbind h
  refine zo_getI 4 zkd_10 18 d_NC_stopped_1 ev_1 rfl tw_350 rfl ?_
  cases h
  exact zo_ret d_NC_stopped_4 (Nat.le_of_ble_eq_true rfl) (Nat.le_of_ble_eq_true rfl) rfl
theorem C_NC_stopped (n : Nat) (E : zE) (S : zS) (a0 : Nat) (M : zH) (r : Int32) (M' : zH) (h : F_NC_stopped n E S a0 M = some (r, M')) : zC E Y_NC_stopped [.ref a0] S M (some (.int r), S, M') :=
  zC.of (Or.inl (show plainName "NightColander" = true by decide)) (Nat.le_of_ble_eq_true rfl) (trivial) (K_NC_stopped n E S a0 M r M' h)
theorem d_Ni_hasLaw_0 : decode (yB Y_Ni_hasLaw) 0 = .ok (.iload_n 1, 1) := by decide +kernel
theorem d_Ni_hasLaw_1 : decode (yB Y_Ni_hasLaw) 1 = .ok (.iconst 0, 1) := by decide +kernel
theorem d_Ni_hasLaw_2 : decode (yB Y_Ni_hasLaw) 2 = .ok (.aload_n 0, 1) := by decide +kernel
theorem d_Ni_hasLaw_3 : decode (yB Y_Ni_hasLaw) 3 = .ok (.getfield 56, 3) := by decide +kernel
theorem d_Ni_hasLaw_6 : decode (yB Y_Ni_hasLaw) 6 = .ok (.iconst 1, 1) := by decide +kernel
theorem d_Ni_hasLaw_7 : decode (yB Y_Ni_hasLaw) 7 = .ok (.isub, 1) := by decide +kernel
theorem d_Ni_hasLaw_8 : decode (yB Y_Ni_hasLaw) 8 = .ok (.invokestatic 74, 3) := by decide +kernel
theorem d_Ni_hasLaw_11 : decode (yB Y_Ni_hasLaw) 11 = .ok (.ireturn, 1) := by decide +kernel
def F_Ni_hasLaw (n : Nat) (E : zE) (S : zS) (a0 : Nat) (x1 : Int32) (M : zH) : Option (Bool × zH) :=
  (zgI S M a0 3 13).bind fun v_1 =>
  (F_NC_within n E S x1 0 (v_1 - 1) M).bind fun q_2 =>
  some (q_2.1, q_2.2)
theorem K_Ni_hasLaw (n : Nat) (E : zE) (S : zS) (a0 : Nat) (x1 : Int32) (M : zH) (r : Bool) (M' : zH)  (h : F_Ni_hasLaw n E S a0 x1 M = some (r, M')) : zG E Y_Ni_hasLaw (some (.int (bI r)), S, M') 0 [(0, .ref a0), (1, .int x1)] [] S M 0 0 := by
  unfold F_Ni_hasLaw at h
  refine zi_iload_n 1 d_Ni_hasLaw_0 rfl ?_
  refine zi_iconst 0 d_Ni_hasLaw_1 rfl ?_
  refine zi_aload_n 0 d_Ni_hasLaw_2 rfl ?_
  obtain ⟨v_1, ev_1, h⟩ := zbind h
  refine zo_getI 6 zkd_3 13 d_Ni_hasLaw_3 ev_1 rfl tw_93 rfl ?_
  refine zi_iconst 1 d_Ni_hasLaw_6 rfl ?_
  refine zi_isub d_Ni_hasLaw_7 ?_
  obtain ⟨q_2, eq_2, h⟩ := zbind h
  refine zo_statN (k' := 0) (n' := 0) 11 [.int x1, .int 0, .int (v_1 - 1)] [] [.int (bI q_2.1)] (C_NC_within n E S x1 0 (v_1 - 1) M q_2.1 q_2.2 eq_2) d_Ni_hasLaw_8 tw_399 (List.mem_of_getElem? (i := 5) rfl) tw_398 tw_1 dd_NC_within ⟨Nat.le_of_ble_eq_true rfl, Nat.le_of_ble_eq_true rfl, Nat.le_of_ble_eq_true rfl, Nat.le_of_ble_eq_true rfl⟩ (Nat.le_of_ble_eq_true rfl) rfl rfl rfl rfl ?_
  cases h
  exact zo_retB d_Ni_hasLaw_11 (Nat.le_of_ble_eq_true rfl) (Nat.le_of_ble_eq_true rfl) rfl
theorem C_Ni_hasLaw (n : Nat) (E : zE) (S : zS) (a0 : Nat) (x1 : Int32) (M : zH) (r : Bool) (M' : zH) (h : F_Ni_hasLaw n E S a0 x1 M = some (r, M')) : zC E Y_Ni_hasLaw [.ref a0, .int x1] S M (some (.int (bI r)), S, M') :=
  zC.of (Or.inl (show plainName "NightColander$Night" = true by decide)) (Nat.le_of_ble_eq_true rfl) (bI_nar r) (K_Ni_hasLaw n E S a0 x1 M r M' h)
theorem d_NC_force_0 : decode (yB Y_NC_force) 0 = .ok (.iload_n 1, 1) := by decide +kernel
theorem d_NC_force_1 : decode (yB Y_NC_force) 1 = .ok (.iconst (-1), 1) := by decide +kernel
theorem d_NC_force_2 : decode (yB Y_NC_force) 2 = .ok (.if_icmp .eq 21, 3) := by decide +kernel
theorem d_NC_force_5 : decode (yB Y_NC_force) 5 = .ok (.aload_n 0, 1) := by decide +kernel
theorem d_NC_force_6 : decode (yB Y_NC_force) 6 = .ok (.getfield 12, 3) := by decide +kernel
theorem d_NC_force_9 : decode (yB Y_NC_force) 9 = .ok (.iload_n 1, 1) := by decide +kernel
theorem d_NC_force_10 : decode (yB Y_NC_force) 10 = .ok (.invokevirtual 243, 3) := by decide +kernel
theorem d_NC_force_13 : decode (yB Y_NC_force) 13 = .ok (.ifCond .ne 10, 3) := by decide +kernel
theorem d_NC_force_16 : decode (yB Y_NC_force) 16 = .ok (.aload_n 0, 1) := by decide +kernel
theorem d_NC_force_17 : decode (yB Y_NC_force) 17 = .ok (.bipush (-2), 2) := by decide +kernel
theorem d_NC_force_19 : decode (yB Y_NC_force) 19 = .ok (.invokevirtual 136, 3) := by decide +kernel
theorem d_NC_force_22 : decode (yB Y_NC_force) 22 = .ok (.ireturn, 1) := by decide +kernel
theorem d_NC_force_23 : decode (yB Y_NC_force) 23 = .ok (.aload_n 0, 1) := by decide +kernel
theorem d_NC_force_24 : decode (yB Y_NC_force) 24 = .ok (.getfield 12, 3) := by decide +kernel
theorem d_NC_force_27 : decode (yB Y_NC_force) 27 = .ok (.getfield 246, 3) := by decide +kernel
theorem d_NC_force_30 : decode (yB Y_NC_force) 30 = .ok (.istore_n 2, 1) := by decide +kernel
theorem d_NC_force_31 : decode (yB Y_NC_force) 31 = .ok (.aload_n 0, 1) := by decide +kernel
theorem d_NC_force_32 : decode (yB Y_NC_force) 32 = .ok (.getfield 12, 3) := by decide +kernel
theorem d_NC_force_35 : decode (yB Y_NC_force) 35 = .ok (.iload_n 1, 1) := by decide +kernel
theorem d_NC_force_36 : decode (yB Y_NC_force) 36 = .ok (.putfield 246, 3) := by decide +kernel
theorem d_NC_force_39 : decode (yB Y_NC_force) 39 = .ok (.aload_n 0, 1) := by decide +kernel
theorem d_NC_force_40 : decode (yB Y_NC_force) 40 = .ok (.iload_n 2, 1) := by decide +kernel
theorem d_NC_force_41 : decode (yB Y_NC_force) 41 = .ok (.invokevirtual 146, 3) := by decide +kernel
theorem d_NC_force_44 : decode (yB Y_NC_force) 44 = .ok (.ireturn, 1) := by decide +kernel
def F_NC_force_b23 (n : Nat) (E : zE) (S : zS) (a0 : Nat) (x1 : Int32) (M : zH) : Option (Int32 × zH) :=
  (zgR S a0 10 0).bind fun b_1 =>
  (zgI S M b_1 3 14).bind fun v_2 =>
  (zpI S M b_1 3 14 x1).bind fun m_3 =>
  (F_NC_accept n E S a0 v_2 m_3).bind fun q_4 =>
  some (q_4.1, q_4.2)
def F_NC_force (n : Nat) (E : zE) (S : zS) (a0 : Nat) (x1 : Int32) (M : zH) : Option (Int32 × zH) :=
  if x1 = (-1) then
    F_NC_force_b23 n E S a0 x1 M
  else
    (zgR S a0 10 0).bind fun b_6 =>
    (zck S b_6 3).bind fun u_7 =>
    (F_Ni_hasLaw n E S b_6 x1 M).bind fun q_8 =>
    if q_8.1 = true then
      F_NC_force_b23 n E S a0 x1 q_8.2
    else
      (F_NC_refuse n E S a0 (-2) q_8.2).bind fun q_10 =>
      some (q_10.1, q_10.2)
theorem K_NC_force_b23 (n : Nat) (E : zE) (S : zS) (a0 : Nat) (x1 : Int32) (M : zH) (r : Int32) (M' : zH)  (h : F_NC_force_b23 n E S a0 x1 M = some (r, M')) : zG E Y_NC_force (some (.int r), S, M') 23 [(0, .ref a0), (1, .int x1)] [] S M 0 0 := by
  unfold F_NC_force_b23 at h
  refine zi_aload_n 0 d_NC_force_23 rfl ?_
  obtain ⟨b_1, eb_1, h⟩ := zbind h
  refine zo_getR 27 zkd_10 0 d_NC_force_24 eb_1 rfl tw_332 rfl ?_
  obtain ⟨v_2, ev_2, h⟩ := zbind h
  refine zo_getI 30 zkd_3 14 d_NC_force_27 ev_2 rfl tw_96 rfl ?_
  refine zi_istore_n [(2, .int v_2), (0, .ref a0), (1, .int x1)] d_NC_force_30 (by decide) rfl ?_
  refine zi_aload_n 1 d_NC_force_31 rfl ?_
  refine zo_getR 35 zkd_10 0 d_NC_force_32 eb_1 rfl tw_332 rfl ?_
  refine zi_iload_n 2 d_NC_force_35 rfl ?_
  obtain ⟨m_3, em_3, h⟩ := zbind h
  refine zo_putI 39 zkd_3 14 d_NC_force_36 em_3 rfl rfl rfl tw_96 rfl ?_
  refine zi_aload_n 1 d_NC_force_39 rfl ?_
  refine zi_iload_n 0 d_NC_force_40 rfl ?_
  obtain ⟨q_4, eq_4, h⟩ := zbind h
  refine zo_virt (k' := 0) (n' := 0) 44 [.int v_2] [] [.int q_4.1] zkd_10 (zgR_s eb_1).1 (C_NC_accept n E S a0 v_2 m_3 q_4.1 q_4.2 eq_4) d_NC_force_41 tw_456 tw_453 tw_455 ts_2 tw_1 dd_NC_accept ⟨Nat.le_of_ble_eq_true rfl, Nat.le_of_ble_eq_true rfl, Nat.le_of_ble_eq_true rfl, Nat.le_of_ble_eq_true rfl⟩ (Nat.le_of_ble_eq_true rfl) rfl rfl rfl rfl ?_
  cases h
  exact zo_ret d_NC_force_44 (Nat.le_of_ble_eq_true rfl) (Nat.le_of_ble_eq_true rfl) rfl
theorem K_NC_force (n : Nat) (E : zE) (S : zS) (a0 : Nat) (x1 : Int32) (M : zH) (r : Int32) (M' : zH)  (h : F_NC_force n E S a0 x1 M = some (r, M')) : zG E Y_NC_force (some (.int r), S, M') 0 [(0, .ref a0), (1, .int x1)] [] S M 0 0 := by
  unfold F_NC_force at h
  refine zi_iload_n 1 d_NC_force_0 rfl ?_
  refine zi_iconst (-1) d_NC_force_1 rfl ?_
  refine zi_icmp_eq (tgt := 23) d_NC_force_2 rfl (fun c_5 => ?_) (fun c_5 => ?_)
  · rw [if_pos c_5] at h
    refine zi_lo [(0, .ref a0), (1, .int x1)] [0, 1] rfl ?_
    exact K_NC_force_b23 n E S a0 x1 M r M'  h
  · rw [if_neg c_5] at h
    refine zi_aload_n 0 d_NC_force_5 rfl ?_
    obtain ⟨b_6, eb_6, h⟩ := zbind h
    refine zo_getR 9 zkd_10 0 d_NC_force_6 eb_6 rfl tw_332 rfl ?_
    refine zi_iload_n 1 d_NC_force_9 rfl ?_
    obtain ⟨u_7, eu_7, h⟩ := zbind h
    obtain ⟨q_8, eq_8, h⟩ := zbind h
    refine zo_virt (k' := 0) (n' := 0) 13 [.int x1] [] [.int (bI q_8.1)] zkd_3 (zck_s eu_7) (C_Ni_hasLaw n E S b_6 x1 M q_8.1 q_8.2 eq_8) d_NC_force_10 tw_943 tw_940 tw_941 tw_942 tw_2 dd_Ni_hasLaw ⟨Nat.le_of_ble_eq_true rfl, Nat.le_of_ble_eq_true rfl, Nat.le_of_ble_eq_true rfl, Nat.le_of_ble_eq_true rfl⟩ (Nat.le_of_ble_eq_true rfl) rfl rfl rfl rfl ?_
    refine zo_ifneB d_NC_force_13 rfl 16 rfl (fun c_9 => ?_) (fun c_9 => ?_)
    · rw [if_pos c_9] at h
      refine zi_lo [(0, .ref a0), (1, .int x1)] [0, 1] rfl ?_
      exact K_NC_force_b23 n E S a0 x1 q_8.2 r M'  h
    · rw [if_neg c_9] at h
      refine zi_aload_n 0 d_NC_force_16 rfl ?_
      refine zi_bipush (-2) d_NC_force_17 rfl ?_
      obtain ⟨q_10, eq_10, h⟩ := zbind h
      refine zo_virt (k' := 0) (n' := 0) 22 [.int (-2)] [] [.int q_10.1] zkd_10 (zgR_s eb_6).1 (C_NC_refuse n E S a0 (-2) q_8.2 q_10.1 q_10.2 eq_10) d_NC_force_19 tw_448 tw_445 tw_447 ts_1 tw_1 dd_NC_refuse ⟨Nat.le_of_ble_eq_true rfl, Nat.le_of_ble_eq_true rfl, Nat.le_of_ble_eq_true rfl, Nat.le_of_ble_eq_true rfl⟩ (Nat.le_of_ble_eq_true rfl) rfl rfl rfl rfl ?_
      cases h
      exact zo_ret d_NC_force_22 (Nat.le_of_ble_eq_true rfl) (Nat.le_of_ble_eq_true rfl) rfl
theorem C_NC_force (n : Nat) (E : zE) (S : zS) (a0 : Nat) (x1 : Int32) (M : zH) (r : Int32) (M' : zH) (h : F_NC_force n E S a0 x1 M = some (r, M')) : zC E Y_NC_force [.ref a0, .int x1] S M (some (.int r), S, M') :=
  zC.of (Or.inl (show plainName "NightColander" = true by decide)) (Nat.le_of_ble_eq_true rfl) (trivial) (K_NC_force n E S a0 x1 M r M' h)
theorem d_NC_answered_0 : decode (yB Y_NC_answered) 0 = .ok (.iload_n 1, 1) := by decide +kernel
theorem d_NC_answered_1 : decode (yB Y_NC_answered) 1 = .ok (.ifCond .ge 11, 3) := by decide +kernel
theorem d_NC_answered_4 : decode (yB Y_NC_answered) 4 = .ok (.aload_n 0, 1) := by decide +kernel
theorem d_NC_answered_5 : decode (yB Y_NC_answered) 5 = .ok (.iload_n 1, 1) := by decide +kernel
theorem d_NC_answered_6 : decode (yB Y_NC_answered) 6 = .ok (.invokevirtual 136, 3) := by decide +kernel
theorem d_NC_answered_9 : decode (yB Y_NC_answered) 9 = .ok (.goto 8, 3) := by decide +kernel
theorem d_NC_answered_12 : decode (yB Y_NC_answered) 12 = .ok (.aload_n 0, 1) := by decide +kernel
theorem d_NC_answered_13 : decode (yB Y_NC_answered) 13 = .ok (.iload_n 1, 1) := by decide +kernel
theorem d_NC_answered_14 : decode (yB Y_NC_answered) 14 = .ok (.invokevirtual 146, 3) := by decide +kernel
theorem d_NC_answered_17 : decode (yB Y_NC_answered) 17 = .ok (.ireturn, 1) := by decide +kernel
def F_NC_answered (n : Nat) (E : zE) (S : zS) (a0 : Nat) (x1 : Int32) (M : zH) : Option (Int32 × zH) :=
  if 0 ≤ x1 then
    (zck S a0 10).bind fun u_2 =>
    (F_NC_accept n E S a0 x1 M).bind fun q_3 =>
    some (q_3.1, q_3.2)
  else
    (zck S a0 10).bind fun u_4 =>
    (F_NC_refuse n E S a0 x1 M).bind fun q_5 =>
    some (q_5.1, q_5.2)
theorem K_NC_answered (n : Nat) (E : zE) (S : zS) (a0 : Nat) (x1 : Int32) (M : zH) (r : Int32) (M' : zH)  (h : F_NC_answered n E S a0 x1 M = some (r, M')) : zG E Y_NC_answered (some (.int r), S, M') 0 [(0, .ref a0), (1, .int x1)] [] S M 0 0 := by
  unfold F_NC_answered at h
  refine zi_iload_n 1 d_NC_answered_0 rfl ?_
  refine zi_if_ge (tgt := 12) d_NC_answered_1 rfl (fun c_1 => ?_) (fun c_1 => ?_)
  · rw [if_pos c_1] at h
    refine zi_aload_n 0 d_NC_answered_12 rfl ?_
    refine zi_iload_n 1 d_NC_answered_13 rfl ?_
    obtain ⟨u_2, eu_2, h⟩ := zbind h
    obtain ⟨q_3, eq_3, h⟩ := zbind h
    refine zo_virt (k' := 0) (n' := 0) 17 [.int x1] [] [.int q_3.1] zkd_10 (zck_s eu_2) (C_NC_accept n E S a0 x1 M q_3.1 q_3.2 eq_3) d_NC_answered_14 tw_456 tw_453 tw_455 ts_2 tw_1 dd_NC_accept ⟨Nat.le_of_ble_eq_true rfl, Nat.le_of_ble_eq_true rfl, Nat.le_of_ble_eq_true rfl, Nat.le_of_ble_eq_true rfl⟩ (Nat.le_of_ble_eq_true rfl) rfl rfl rfl rfl ?_
    cases h
    exact zo_ret d_NC_answered_17 (Nat.le_of_ble_eq_true rfl) (Nat.le_of_ble_eq_true rfl) rfl
  · rw [if_neg c_1] at h
    refine zi_aload_n 0 d_NC_answered_4 rfl ?_
    refine zi_iload_n 1 d_NC_answered_5 rfl ?_
    obtain ⟨u_4, eu_4, h⟩ := zbind h
    obtain ⟨q_5, eq_5, h⟩ := zbind h
    refine zo_virt (k' := 0) (n' := 0) 9 [.int x1] [] [.int q_5.1] zkd_10 (zck_s eu_4) (C_NC_refuse n E S a0 x1 M q_5.1 q_5.2 eq_5) d_NC_answered_6 tw_448 tw_445 tw_447 ts_1 tw_1 dd_NC_refuse ⟨Nat.le_of_ble_eq_true rfl, Nat.le_of_ble_eq_true rfl, Nat.le_of_ble_eq_true rfl, Nat.le_of_ble_eq_true rfl⟩ (Nat.le_of_ble_eq_true rfl) rfl rfl rfl rfl ?_
    refine zi_goto (tgt := 17) d_NC_answered_9 rfl ?_
    cases h
    exact zo_ret d_NC_answered_17 (Nat.le_of_ble_eq_true rfl) (Nat.le_of_ble_eq_true rfl) rfl
theorem C_NC_answered (n : Nat) (E : zE) (S : zS) (a0 : Nat) (x1 : Int32) (M : zH) (r : Int32) (M' : zH) (h : F_NC_answered n E S a0 x1 M = some (r, M')) : zC E Y_NC_answered [.ref a0, .int x1] S M (some (.int r), S, M') :=
  zC.of (Or.inl (show plainName "NightColander" = true by decide)) (Nat.le_of_ble_eq_true rfl) (trivial) (K_NC_answered n E S a0 x1 M r M' h)
theorem d_NC_block_0 : decode (yB Y_NC_block) 0 = .ok (.aload_n 0, 1) := by decide +kernel
theorem d_NC_block_1 : decode (yB Y_NC_block) 1 = .ok (.aload_n 0, 1) := by decide +kernel
theorem d_NC_block_2 : decode (yB Y_NC_block) 2 = .ok (.getfield 70, 3) := by decide +kernel
theorem d_NC_block_5 : decode (yB Y_NC_block) 5 = .ok (.aload_n 0, 1) := by decide +kernel
theorem d_NC_block_6 : decode (yB Y_NC_block) 6 = .ok (.getfield 12, 3) := by decide +kernel
theorem d_NC_block_9 : decode (yB Y_NC_block) 9 = .ok (.aload_n 0, 1) := by decide +kernel
theorem d_NC_block_10 : decode (yB Y_NC_block) 10 = .ok (.getfield 35, 3) := by decide +kernel
theorem d_NC_block_13 : decode (yB Y_NC_block) 13 = .ok (.iconst 0, 1) := by decide +kernel
theorem d_NC_block_14 : decode (yB Y_NC_block) 14 = .ok (.iload_n 1, 1) := by decide +kernel
theorem d_NC_block_15 : decode (yB Y_NC_block) 15 = .ok (.iload_n 2, 1) := by decide +kernel
theorem d_NC_block_16 : decode (yB Y_NC_block) 16 = .ok (.invokevirtual 249, 3) := by decide +kernel
theorem d_NC_block_19 : decode (yB Y_NC_block) 19 = .ok (.invokevirtual 253, 3) := by decide +kernel
theorem d_NC_block_22 : decode (yB Y_NC_block) 22 = .ok (.ireturn, 1) := by decide +kernel
def F_NC_block (n : Nat) (E : zE) (S : zS) (a0 : Nat) (x1 : Int32) (x2 : Int32) (M : zH) : Option (Int32 × zH) :=
  (zgR S a0 10 10).bind fun b_1 =>
  (zgR S a0 10 0).bind fun b_2 =>
  (zgR S a0 10 5).bind fun b_3 =>
  (zck S b_1 0).bind fun u_4 =>
  (F_De_perform n E S b_1 b_2 b_3 0 x1 x2 M).bind fun q_5 =>
  (F_NC_answered n E S a0 q_5.1 q_5.2).bind fun q_6 =>
  some (q_6.1, q_6.2)
theorem K_NC_block (n : Nat) (E : zE) (S : zS) (a0 : Nat) (x1 : Int32) (x2 : Int32) (M : zH) (r : Int32) (M' : zH)  (h : F_NC_block n E S a0 x1 x2 M = some (r, M')) : zG E Y_NC_block (some (.int r), S, M') 0 [(0, .ref a0), (1, .int x1), (2, .int x2)] [] S M 0 0 := by
  unfold F_NC_block at h
  refine zi_aload_n 0 d_NC_block_0 rfl ?_
  refine zi_aload_n 0 d_NC_block_1 rfl ?_
  obtain ⟨b_1, eb_1, h⟩ := zbind h
  refine zo_getR 5 zkd_10 10 d_NC_block_2 eb_1 rfl tw_342 rfl ?_
  refine zi_aload_n 0 d_NC_block_5 rfl ?_
  obtain ⟨b_2, eb_2, h⟩ := zbind h
  refine zo_getR 9 zkd_10 0 d_NC_block_6 eb_2 rfl tw_332 rfl ?_
  refine zi_aload_n 0 d_NC_block_9 rfl ?_
  obtain ⟨b_3, eb_3, h⟩ := zbind h
  refine zo_getR 13 zkd_10 5 d_NC_block_10 eb_3 rfl tw_337 rfl ?_
  refine zi_iconst 0 d_NC_block_13 rfl ?_
  refine zi_iload_n 1 d_NC_block_14 rfl ?_
  refine zi_iload_n 2 d_NC_block_15 rfl ?_
  obtain ⟨u_4, eu_4, h⟩ := zbind h
  obtain ⟨q_5, eq_5, h⟩ := zbind h
  refine zo_virt (k' := 0) (n' := 0) 19 [.ref b_2, .ref b_3, .int 0, .int x1, .int x2] [.ref a0] [.int q_5.1, .ref a0] zkd_0 (zck_s eu_4) (C_De_perform n E S b_1 b_2 b_3 0 x1 x2 M q_5.1 q_5.2 eq_5) d_NC_block_16 tw_892 tw_948 tw_890 tw_891 tw_10 dd_De_perform ⟨Nat.le_of_ble_eq_true rfl, Nat.le_of_ble_eq_true rfl, Nat.le_of_ble_eq_true rfl, Nat.le_of_ble_eq_true rfl⟩ (Nat.le_of_ble_eq_true rfl) rfl rfl rfl rfl ?_
  obtain ⟨q_6, eq_6, h⟩ := zbind h
  refine zo_virt (k' := 0) (n' := 0) 22 [.int q_5.1] [] [.int q_6.1] zkd_10 (zgR_s eb_1).1 (C_NC_answered n E S a0 q_5.1 q_5.2 q_6.1 q_6.2 eq_6) d_NC_block_19 tw_952 tw_949 tw_951 ts_24 tw_1 dd_NC_answered ⟨Nat.le_of_ble_eq_true rfl, Nat.le_of_ble_eq_true rfl, Nat.le_of_ble_eq_true rfl, Nat.le_of_ble_eq_true rfl⟩ (Nat.le_of_ble_eq_true rfl) rfl rfl rfl rfl ?_
  cases h
  exact zo_ret d_NC_block_22 (Nat.le_of_ble_eq_true rfl) (Nat.le_of_ble_eq_true rfl) rfl
theorem C_NC_block (n : Nat) (E : zE) (S : zS) (a0 : Nat) (x1 : Int32) (x2 : Int32) (M : zH) (r : Int32) (M' : zH) (h : F_NC_block n E S a0 x1 x2 M = some (r, M')) : zC E Y_NC_block [.ref a0, .int x1, .int x2] S M (some (.int r), S, M') :=
  zC.of (Or.inl (show plainName "NightColander" = true by decide)) (Nat.le_of_ble_eq_true rfl) (trivial) (K_NC_block n E S a0 x1 x2 M r M' h)
theorem d_NC_ream_0 : decode (yB Y_NC_ream) 0 = .ok (.aload_n 0, 1) := by decide +kernel
theorem d_NC_ream_1 : decode (yB Y_NC_ream) 1 = .ok (.aload_n 0, 1) := by decide +kernel
theorem d_NC_ream_2 : decode (yB Y_NC_ream) 2 = .ok (.getfield 70, 3) := by decide +kernel
theorem d_NC_ream_5 : decode (yB Y_NC_ream) 5 = .ok (.aload_n 0, 1) := by decide +kernel
theorem d_NC_ream_6 : decode (yB Y_NC_ream) 6 = .ok (.getfield 12, 3) := by decide +kernel
theorem d_NC_ream_9 : decode (yB Y_NC_ream) 9 = .ok (.aload_n 0, 1) := by decide +kernel
theorem d_NC_ream_10 : decode (yB Y_NC_ream) 10 = .ok (.getfield 35, 3) := by decide +kernel
theorem d_NC_ream_13 : decode (yB Y_NC_ream) 13 = .ok (.iconst 1, 1) := by decide +kernel
theorem d_NC_ream_14 : decode (yB Y_NC_ream) 14 = .ok (.iload_n 1, 1) := by decide +kernel
theorem d_NC_ream_15 : decode (yB Y_NC_ream) 15 = .ok (.iload_n 2, 1) := by decide +kernel
theorem d_NC_ream_16 : decode (yB Y_NC_ream) 16 = .ok (.invokevirtual 249, 3) := by decide +kernel
theorem d_NC_ream_19 : decode (yB Y_NC_ream) 19 = .ok (.invokevirtual 253, 3) := by decide +kernel
theorem d_NC_ream_22 : decode (yB Y_NC_ream) 22 = .ok (.ireturn, 1) := by decide +kernel
def F_NC_ream (n : Nat) (E : zE) (S : zS) (a0 : Nat) (x1 : Int32) (x2 : Int32) (M : zH) : Option (Int32 × zH) :=
  (zgR S a0 10 10).bind fun b_1 =>
  (zgR S a0 10 0).bind fun b_2 =>
  (zgR S a0 10 5).bind fun b_3 =>
  (zck S b_1 0).bind fun u_4 =>
  (F_De_perform n E S b_1 b_2 b_3 1 x1 x2 M).bind fun q_5 =>
  (F_NC_answered n E S a0 q_5.1 q_5.2).bind fun q_6 =>
  some (q_6.1, q_6.2)
theorem K_NC_ream (n : Nat) (E : zE) (S : zS) (a0 : Nat) (x1 : Int32) (x2 : Int32) (M : zH) (r : Int32) (M' : zH)  (h : F_NC_ream n E S a0 x1 x2 M = some (r, M')) : zG E Y_NC_ream (some (.int r), S, M') 0 [(0, .ref a0), (1, .int x1), (2, .int x2)] [] S M 0 0 := by
  unfold F_NC_ream at h
  refine zi_aload_n 0 d_NC_ream_0 rfl ?_
  refine zi_aload_n 0 d_NC_ream_1 rfl ?_
  obtain ⟨b_1, eb_1, h⟩ := zbind h
  refine zo_getR 5 zkd_10 10 d_NC_ream_2 eb_1 rfl tw_342 rfl ?_
  refine zi_aload_n 0 d_NC_ream_5 rfl ?_
  obtain ⟨b_2, eb_2, h⟩ := zbind h
  refine zo_getR 9 zkd_10 0 d_NC_ream_6 eb_2 rfl tw_332 rfl ?_
  refine zi_aload_n 0 d_NC_ream_9 rfl ?_
  obtain ⟨b_3, eb_3, h⟩ := zbind h
  refine zo_getR 13 zkd_10 5 d_NC_ream_10 eb_3 rfl tw_337 rfl ?_
  refine zi_iconst 1 d_NC_ream_13 rfl ?_
  refine zi_iload_n 1 d_NC_ream_14 rfl ?_
  refine zi_iload_n 2 d_NC_ream_15 rfl ?_
  obtain ⟨u_4, eu_4, h⟩ := zbind h
  obtain ⟨q_5, eq_5, h⟩ := zbind h
  refine zo_virt (k' := 0) (n' := 0) 19 [.ref b_2, .ref b_3, .int 1, .int x1, .int x2] [.ref a0] [.int q_5.1, .ref a0] zkd_0 (zck_s eu_4) (C_De_perform n E S b_1 b_2 b_3 1 x1 x2 M q_5.1 q_5.2 eq_5) d_NC_ream_16 tw_892 tw_948 tw_890 tw_891 tw_10 dd_De_perform ⟨Nat.le_of_ble_eq_true rfl, Nat.le_of_ble_eq_true rfl, Nat.le_of_ble_eq_true rfl, Nat.le_of_ble_eq_true rfl⟩ (Nat.le_of_ble_eq_true rfl) rfl rfl rfl rfl ?_
  obtain ⟨q_6, eq_6, h⟩ := zbind h
  refine zo_virt (k' := 0) (n' := 0) 22 [.int q_5.1] [] [.int q_6.1] zkd_10 (zgR_s eb_1).1 (C_NC_answered n E S a0 q_5.1 q_5.2 q_6.1 q_6.2 eq_6) d_NC_ream_19 tw_952 tw_949 tw_951 ts_24 tw_1 dd_NC_answered ⟨Nat.le_of_ble_eq_true rfl, Nat.le_of_ble_eq_true rfl, Nat.le_of_ble_eq_true rfl, Nat.le_of_ble_eq_true rfl⟩ (Nat.le_of_ble_eq_true rfl) rfl rfl rfl rfl ?_
  cases h
  exact zo_ret d_NC_ream_22 (Nat.le_of_ble_eq_true rfl) (Nat.le_of_ble_eq_true rfl) rfl
theorem C_NC_ream (n : Nat) (E : zE) (S : zS) (a0 : Nat) (x1 : Int32) (x2 : Int32) (M : zH) (r : Int32) (M' : zH) (h : F_NC_ream n E S a0 x1 x2 M = some (r, M')) : zC E Y_NC_ream [.ref a0, .int x1, .int x2] S M (some (.int r), S, M') :=
  zC.of (Or.inl (show plainName "NightColander" = true by decide)) (Nat.le_of_ble_eq_true rfl) (trivial) (K_NC_ream n E S a0 x1 x2 M r M' h)
theorem d_NC_set_0 : decode (yB Y_NC_set) 0 = .ok (.aload_n 0, 1) := by decide +kernel
theorem d_NC_set_1 : decode (yB Y_NC_set) 1 = .ok (.aload_n 0, 1) := by decide +kernel
theorem d_NC_set_2 : decode (yB Y_NC_set) 2 = .ok (.getfield 70, 3) := by decide +kernel
theorem d_NC_set_5 : decode (yB Y_NC_set) 5 = .ok (.aload_n 0, 1) := by decide +kernel
theorem d_NC_set_6 : decode (yB Y_NC_set) 6 = .ok (.getfield 12, 3) := by decide +kernel
theorem d_NC_set_9 : decode (yB Y_NC_set) 9 = .ok (.aload_n 0, 1) := by decide +kernel
theorem d_NC_set_10 : decode (yB Y_NC_set) 10 = .ok (.getfield 35, 3) := by decide +kernel
theorem d_NC_set_13 : decode (yB Y_NC_set) 13 = .ok (.iconst 2, 1) := by decide +kernel
theorem d_NC_set_14 : decode (yB Y_NC_set) 14 = .ok (.iload_n 1, 1) := by decide +kernel
theorem d_NC_set_15 : decode (yB Y_NC_set) 15 = .ok (.iload_n 2, 1) := by decide +kernel
theorem d_NC_set_16 : decode (yB Y_NC_set) 16 = .ok (.invokevirtual 249, 3) := by decide +kernel
theorem d_NC_set_19 : decode (yB Y_NC_set) 19 = .ok (.invokevirtual 253, 3) := by decide +kernel
theorem d_NC_set_22 : decode (yB Y_NC_set) 22 = .ok (.ireturn, 1) := by decide +kernel
def F_NC_set (n : Nat) (E : zE) (S : zS) (a0 : Nat) (x1 : Int32) (x2 : Int32) (M : zH) : Option (Int32 × zH) :=
  (zgR S a0 10 10).bind fun b_1 =>
  (zgR S a0 10 0).bind fun b_2 =>
  (zgR S a0 10 5).bind fun b_3 =>
  (zck S b_1 0).bind fun u_4 =>
  (F_De_perform n E S b_1 b_2 b_3 2 x1 x2 M).bind fun q_5 =>
  (F_NC_answered n E S a0 q_5.1 q_5.2).bind fun q_6 =>
  some (q_6.1, q_6.2)
theorem K_NC_set (n : Nat) (E : zE) (S : zS) (a0 : Nat) (x1 : Int32) (x2 : Int32) (M : zH) (r : Int32) (M' : zH)  (h : F_NC_set n E S a0 x1 x2 M = some (r, M')) : zG E Y_NC_set (some (.int r), S, M') 0 [(0, .ref a0), (1, .int x1), (2, .int x2)] [] S M 0 0 := by
  unfold F_NC_set at h
  refine zi_aload_n 0 d_NC_set_0 rfl ?_
  refine zi_aload_n 0 d_NC_set_1 rfl ?_
  obtain ⟨b_1, eb_1, h⟩ := zbind h
  refine zo_getR 5 zkd_10 10 d_NC_set_2 eb_1 rfl tw_342 rfl ?_
  refine zi_aload_n 0 d_NC_set_5 rfl ?_
  obtain ⟨b_2, eb_2, h⟩ := zbind h
  refine zo_getR 9 zkd_10 0 d_NC_set_6 eb_2 rfl tw_332 rfl ?_
  refine zi_aload_n 0 d_NC_set_9 rfl ?_
  obtain ⟨b_3, eb_3, h⟩ := zbind h
  refine zo_getR 13 zkd_10 5 d_NC_set_10 eb_3 rfl tw_337 rfl ?_
  refine zi_iconst 2 d_NC_set_13 rfl ?_
  refine zi_iload_n 1 d_NC_set_14 rfl ?_
  refine zi_iload_n 2 d_NC_set_15 rfl ?_
  obtain ⟨u_4, eu_4, h⟩ := zbind h
  obtain ⟨q_5, eq_5, h⟩ := zbind h
  refine zo_virt (k' := 0) (n' := 0) 19 [.ref b_2, .ref b_3, .int 2, .int x1, .int x2] [.ref a0] [.int q_5.1, .ref a0] zkd_0 (zck_s eu_4) (C_De_perform n E S b_1 b_2 b_3 2 x1 x2 M q_5.1 q_5.2 eq_5) d_NC_set_16 tw_892 tw_948 tw_890 tw_891 tw_10 dd_De_perform ⟨Nat.le_of_ble_eq_true rfl, Nat.le_of_ble_eq_true rfl, Nat.le_of_ble_eq_true rfl, Nat.le_of_ble_eq_true rfl⟩ (Nat.le_of_ble_eq_true rfl) rfl rfl rfl rfl ?_
  obtain ⟨q_6, eq_6, h⟩ := zbind h
  refine zo_virt (k' := 0) (n' := 0) 22 [.int q_5.1] [] [.int q_6.1] zkd_10 (zgR_s eb_1).1 (C_NC_answered n E S a0 q_5.1 q_5.2 q_6.1 q_6.2 eq_6) d_NC_set_19 tw_952 tw_949 tw_951 ts_24 tw_1 dd_NC_answered ⟨Nat.le_of_ble_eq_true rfl, Nat.le_of_ble_eq_true rfl, Nat.le_of_ble_eq_true rfl, Nat.le_of_ble_eq_true rfl⟩ (Nat.le_of_ble_eq_true rfl) rfl rfl rfl rfl ?_
  cases h
  exact zo_ret d_NC_set_22 (Nat.le_of_ble_eq_true rfl) (Nat.le_of_ble_eq_true rfl) rfl
theorem C_NC_set (n : Nat) (E : zE) (S : zS) (a0 : Nat) (x1 : Int32) (x2 : Int32) (M : zH) (r : Int32) (M' : zH) (h : F_NC_set n E S a0 x1 x2 M = some (r, M')) : zC E Y_NC_set [.ref a0, .int x1, .int x2] S M (some (.int r), S, M') :=
  zC.of (Or.inl (show plainName "NightColander" = true by decide)) (Nat.le_of_ble_eq_true rfl) (trivial) (K_NC_set n E S a0 x1 x2 M r M' h)
theorem d_NC_pass_0 : decode (yB Y_NC_pass) 0 = .ok (.aload_n 0, 1) := by decide +kernel
theorem d_NC_pass_1 : decode (yB Y_NC_pass) 1 = .ok (.aload_n 0, 1) := by decide +kernel
theorem d_NC_pass_2 : decode (yB Y_NC_pass) 2 = .ok (.getfield 70, 3) := by decide +kernel
theorem d_NC_pass_5 : decode (yB Y_NC_pass) 5 = .ok (.aload_n 0, 1) := by decide +kernel
theorem d_NC_pass_6 : decode (yB Y_NC_pass) 6 = .ok (.getfield 12, 3) := by decide +kernel
theorem d_NC_pass_9 : decode (yB Y_NC_pass) 9 = .ok (.aload_n 0, 1) := by decide +kernel
theorem d_NC_pass_10 : decode (yB Y_NC_pass) 10 = .ok (.getfield 35, 3) := by decide +kernel
theorem d_NC_pass_13 : decode (yB Y_NC_pass) 13 = .ok (.iconst 3, 1) := by decide +kernel
theorem d_NC_pass_14 : decode (yB Y_NC_pass) 14 = .ok (.iconst 0, 1) := by decide +kernel
theorem d_NC_pass_15 : decode (yB Y_NC_pass) 15 = .ok (.iconst 0, 1) := by decide +kernel
theorem d_NC_pass_16 : decode (yB Y_NC_pass) 16 = .ok (.invokevirtual 249, 3) := by decide +kernel
theorem d_NC_pass_19 : decode (yB Y_NC_pass) 19 = .ok (.invokevirtual 253, 3) := by decide +kernel
theorem d_NC_pass_22 : decode (yB Y_NC_pass) 22 = .ok (.ireturn, 1) := by decide +kernel
def F_NC_pass (n : Nat) (E : zE) (S : zS) (a0 : Nat) (M : zH) : Option (Int32 × zH) :=
  (zgR S a0 10 10).bind fun b_1 =>
  (zgR S a0 10 0).bind fun b_2 =>
  (zgR S a0 10 5).bind fun b_3 =>
  (zck S b_1 0).bind fun u_4 =>
  (F_De_perform n E S b_1 b_2 b_3 3 0 0 M).bind fun q_5 =>
  (F_NC_answered n E S a0 q_5.1 q_5.2).bind fun q_6 =>
  some (q_6.1, q_6.2)
theorem K_NC_pass (n : Nat) (E : zE) (S : zS) (a0 : Nat) (M : zH) (r : Int32) (M' : zH)  (h : F_NC_pass n E S a0 M = some (r, M')) : zG E Y_NC_pass (some (.int r), S, M') 0 [(0, .ref a0)] [] S M 0 0 := by
  unfold F_NC_pass at h
  refine zi_aload_n 0 d_NC_pass_0 rfl ?_
  refine zi_aload_n 0 d_NC_pass_1 rfl ?_
  obtain ⟨b_1, eb_1, h⟩ := zbind h
  refine zo_getR 5 zkd_10 10 d_NC_pass_2 eb_1 rfl tw_342 rfl ?_
  refine zi_aload_n 0 d_NC_pass_5 rfl ?_
  obtain ⟨b_2, eb_2, h⟩ := zbind h
  refine zo_getR 9 zkd_10 0 d_NC_pass_6 eb_2 rfl tw_332 rfl ?_
  refine zi_aload_n 0 d_NC_pass_9 rfl ?_
  obtain ⟨b_3, eb_3, h⟩ := zbind h
  refine zo_getR 13 zkd_10 5 d_NC_pass_10 eb_3 rfl tw_337 rfl ?_
  refine zi_iconst 3 d_NC_pass_13 rfl ?_
  refine zi_iconst 0 d_NC_pass_14 rfl ?_
  refine zi_iconst 0 d_NC_pass_15 rfl ?_
  obtain ⟨u_4, eu_4, h⟩ := zbind h
  obtain ⟨q_5, eq_5, h⟩ := zbind h
  refine zo_virt (k' := 0) (n' := 0) 19 [.ref b_2, .ref b_3, .int 3, .int 0, .int 0] [.ref a0] [.int q_5.1, .ref a0] zkd_0 (zck_s eu_4) (C_De_perform n E S b_1 b_2 b_3 3 0 0 M q_5.1 q_5.2 eq_5) d_NC_pass_16 tw_892 tw_948 tw_890 tw_891 tw_10 dd_De_perform ⟨Nat.le_of_ble_eq_true rfl, Nat.le_of_ble_eq_true rfl, Nat.le_of_ble_eq_true rfl, Nat.le_of_ble_eq_true rfl⟩ (Nat.le_of_ble_eq_true rfl) rfl rfl rfl rfl ?_
  obtain ⟨q_6, eq_6, h⟩ := zbind h
  refine zo_virt (k' := 0) (n' := 0) 22 [.int q_5.1] [] [.int q_6.1] zkd_10 (zgR_s eb_1).1 (C_NC_answered n E S a0 q_5.1 q_5.2 q_6.1 q_6.2 eq_6) d_NC_pass_19 tw_952 tw_949 tw_951 ts_24 tw_1 dd_NC_answered ⟨Nat.le_of_ble_eq_true rfl, Nat.le_of_ble_eq_true rfl, Nat.le_of_ble_eq_true rfl, Nat.le_of_ble_eq_true rfl⟩ (Nat.le_of_ble_eq_true rfl) rfl rfl rfl rfl ?_
  cases h
  exact zo_ret d_NC_pass_22 (Nat.le_of_ble_eq_true rfl) (Nat.le_of_ble_eq_true rfl) rfl
theorem C_NC_pass (n : Nat) (E : zE) (S : zS) (a0 : Nat) (M : zH) (r : Int32) (M' : zH) (h : F_NC_pass n E S a0 M = some (r, M')) : zC E Y_NC_pass [.ref a0] S M (some (.int r), S, M') :=
  zC.of (Or.inl (show plainName "NightColander" = true by decide)) (Nat.le_of_ble_eq_true rfl) (trivial) (K_NC_pass n E S a0 M r M' h)
theorem d_Pt_takeBack_0 : decode (yB Y_Pt_takeBack) 0 = .ok (.aload_n 0, 1) := by decide +kernel
theorem d_Pt_takeBack_1 : decode (yB Y_Pt_takeBack) 1 = .ok (.getfield 15, 3) := by decide +kernel
theorem d_Pt_takeBack_4 : decode (yB Y_Pt_takeBack) 4 = .ok (.ifCond .gt 6, 3) := by decide +kernel
theorem d_Pt_takeBack_7 : decode (yB Y_Pt_takeBack) 7 = .ok (.bipush (-3), 2) := by decide +kernel
theorem d_Pt_takeBack_9 : decode (yB Y_Pt_takeBack) 9 = .ok (.ireturn, 1) := by decide +kernel
theorem d_Pt_takeBack_10 : decode (yB Y_Pt_takeBack) 10 = .ok (.aload_n 0, 1) := by decide +kernel
theorem d_Pt_takeBack_11 : decode (yB Y_Pt_takeBack) 11 = .ok (.dup, 1) := by decide +kernel
theorem d_Pt_takeBack_12 : decode (yB Y_Pt_takeBack) 12 = .ok (.getfield 15, 3) := by decide +kernel
theorem d_Pt_takeBack_15 : decode (yB Y_Pt_takeBack) 15 = .ok (.iconst 1, 1) := by decide +kernel
theorem d_Pt_takeBack_16 : decode (yB Y_Pt_takeBack) 16 = .ok (.isub, 1) := by decide +kernel
theorem d_Pt_takeBack_17 : decode (yB Y_Pt_takeBack) 17 = .ok (.putfield 15, 3) := by decide +kernel
theorem d_Pt_takeBack_20 : decode (yB Y_Pt_takeBack) 20 = .ok (.aload_n 0, 1) := by decide +kernel
theorem d_Pt_takeBack_21 : decode (yB Y_Pt_takeBack) 21 = .ok (.getfield 15, 3) := by decide +kernel
theorem d_Pt_takeBack_24 : decode (yB Y_Pt_takeBack) 24 = .ok (.bipush 6, 2) := by decide +kernel
theorem d_Pt_takeBack_26 : decode (yB Y_Pt_takeBack) 26 = .ok (.imul, 1) := by decide +kernel
theorem d_Pt_takeBack_27 : decode (yB Y_Pt_takeBack) 27 = .ok (.istore_n 2, 1) := by decide +kernel
theorem d_Pt_takeBack_28 : decode (yB Y_Pt_takeBack) 28 = .ok (.aload_n 0, 1) := by decide +kernel
theorem d_Pt_takeBack_29 : decode (yB Y_Pt_takeBack) 29 = .ok (.getfield 11, 3) := by decide +kernel
theorem d_Pt_takeBack_32 : decode (yB Y_Pt_takeBack) 32 = .ok (.iload_n 2, 1) := by decide +kernel
theorem d_Pt_takeBack_33 : decode (yB Y_Pt_takeBack) 33 = .ok (.iaload, 1) := by decide +kernel
theorem d_Pt_takeBack_34 : decode (yB Y_Pt_takeBack) 34 = .ok (.istore_n 3, 1) := by decide +kernel
theorem d_Pt_takeBack_35 : decode (yB Y_Pt_takeBack) 35 = .ok (.iload_n 3, 1) := by decide +kernel
theorem d_Pt_takeBack_36 : decode (yB Y_Pt_takeBack) 36 = .ok (.ifCond .eq 8, 3) := by decide +kernel
theorem d_Pt_takeBack_39 : decode (yB Y_Pt_takeBack) 39 = .ok (.iload_n 3, 1) := by decide +kernel
theorem d_Pt_takeBack_40 : decode (yB Y_Pt_takeBack) 40 = .ok (.iconst 1, 1) := by decide +kernel
theorem d_Pt_takeBack_41 : decode (yB Y_Pt_takeBack) 41 = .ok (.if_icmp .ne 26, 3) := by decide +kernel
theorem d_Pt_takeBack_44 : decode (yB Y_Pt_takeBack) 44 = .ok (.aload_n 0, 1) := by decide +kernel
theorem d_Pt_takeBack_45 : decode (yB Y_Pt_takeBack) 45 = .ok (.getfield 11, 3) := by decide +kernel
theorem d_Pt_takeBack_48 : decode (yB Y_Pt_takeBack) 48 = .ok (.iload_n 2, 1) := by decide +kernel
theorem d_Pt_takeBack_49 : decode (yB Y_Pt_takeBack) 49 = .ok (.iconst 2, 1) := by decide +kernel
theorem d_Pt_takeBack_50 : decode (yB Y_Pt_takeBack) 50 = .ok (.iadd, 1) := by decide +kernel
theorem d_Pt_takeBack_51 : decode (yB Y_Pt_takeBack) 51 = .ok (.iaload, 1) := by decide +kernel
theorem d_Pt_takeBack_52 : decode (yB Y_Pt_takeBack) 52 = .ok (.bipush 8, 2) := by decide +kernel
theorem d_Pt_takeBack_54 : decode (yB Y_Pt_takeBack) 54 = .ok (.imul, 1) := by decide +kernel
theorem d_Pt_takeBack_55 : decode (yB Y_Pt_takeBack) 55 = .ok (.aload_n 0, 1) := by decide +kernel
theorem d_Pt_takeBack_56 : decode (yB Y_Pt_takeBack) 56 = .ok (.getfield 11, 3) := by decide +kernel
theorem d_Pt_takeBack_59 : decode (yB Y_Pt_takeBack) 59 = .ok (.iload_n 2, 1) := by decide +kernel
theorem d_Pt_takeBack_60 : decode (yB Y_Pt_takeBack) 60 = .ok (.iconst 1, 1) := by decide +kernel
theorem d_Pt_takeBack_61 : decode (yB Y_Pt_takeBack) 61 = .ok (.iadd, 1) := by decide +kernel
theorem d_Pt_takeBack_62 : decode (yB Y_Pt_takeBack) 62 = .ok (.iaload, 1) := by decide +kernel
theorem d_Pt_takeBack_63 : decode (yB Y_Pt_takeBack) 63 = .ok (.iadd, 1) := by decide +kernel
theorem d_Pt_takeBack_64 : decode (yB Y_Pt_takeBack) 64 = .ok (.goto 4, 3) := by decide +kernel
theorem d_Pt_takeBack_67 : decode (yB Y_Pt_takeBack) 67 = .ok (.iconst 0, 1) := by decide +kernel
theorem d_Pt_takeBack_68 : decode (yB Y_Pt_takeBack) 68 = .ok (.istore 4, 2) := by decide +kernel
theorem d_Pt_takeBack_70 : decode (yB Y_Pt_takeBack) 70 = .ok (.iload_n 3, 1) := by decide +kernel
theorem d_Pt_takeBack_71 : decode (yB Y_Pt_takeBack) 71 = .ok (.tableswitch 83 0 2 #[25, 50, 64], 25) := by decide +kernel
theorem d_Pt_takeBack_96 : decode (yB Y_Pt_takeBack) 96 = .ok (.aload_n 1, 1) := by decide +kernel
theorem d_Pt_takeBack_97 : decode (yB Y_Pt_takeBack) 97 = .ok (.getfield 25, 3) := by decide +kernel
theorem d_Pt_takeBack_100 : decode (yB Y_Pt_takeBack) 100 = .ok (.iload 4, 2) := by decide +kernel
theorem d_Pt_takeBack_102 : decode (yB Y_Pt_takeBack) 102 = .ok (.aload_n 1, 1) := by decide +kernel
theorem d_Pt_takeBack_103 : decode (yB Y_Pt_takeBack) 103 = .ok (.getfield 25, 3) := by decide +kernel
theorem d_Pt_takeBack_106 : decode (yB Y_Pt_takeBack) 106 = .ok (.iload 4, 2) := by decide +kernel
theorem d_Pt_takeBack_108 : decode (yB Y_Pt_takeBack) 108 = .ok (.baload, 1) := by decide +kernel
theorem d_Pt_takeBack_109 : decode (yB Y_Pt_takeBack) 109 = .ok (.ifCond .ne 7, 3) := by decide +kernel
theorem d_Pt_takeBack_112 : decode (yB Y_Pt_takeBack) 112 = .ok (.iconst 1, 1) := by decide +kernel
theorem d_Pt_takeBack_113 : decode (yB Y_Pt_takeBack) 113 = .ok (.goto 4, 3) := by decide +kernel
theorem d_Pt_takeBack_116 : decode (yB Y_Pt_takeBack) 116 = .ok (.iconst 0, 1) := by decide +kernel
theorem d_Pt_takeBack_117 : decode (yB Y_Pt_takeBack) 117 = .ok (.bastore, 1) := by decide +kernel
theorem d_Pt_takeBack_118 : decode (yB Y_Pt_takeBack) 118 = .ok (.goto 57, 3) := by decide +kernel
theorem d_Pt_takeBack_121 : decode (yB Y_Pt_takeBack) 121 = .ok (.aload_n 1, 1) := by decide +kernel
theorem d_Pt_takeBack_122 : decode (yB Y_Pt_takeBack) 122 = .ok (.getfield 31, 3) := by decide +kernel
theorem d_Pt_takeBack_125 : decode (yB Y_Pt_takeBack) 125 = .ok (.iload 4, 2) := by decide +kernel
theorem d_Pt_takeBack_127 : decode (yB Y_Pt_takeBack) 127 = .ok (.dup2, 1) := by decide +kernel
theorem d_Pt_takeBack_128 : decode (yB Y_Pt_takeBack) 128 = .ok (.iaload, 1) := by decide +kernel
theorem d_Pt_takeBack_129 : decode (yB Y_Pt_takeBack) 129 = .ok (.iconst 1, 1) := by decide +kernel
theorem d_Pt_takeBack_130 : decode (yB Y_Pt_takeBack) 130 = .ok (.isub, 1) := by decide +kernel
theorem d_Pt_takeBack_131 : decode (yB Y_Pt_takeBack) 131 = .ok (.iastore, 1) := by decide +kernel
theorem d_Pt_takeBack_132 : decode (yB Y_Pt_takeBack) 132 = .ok (.goto 43, 3) := by decide +kernel
theorem d_Pt_takeBack_135 : decode (yB Y_Pt_takeBack) 135 = .ok (.aload_n 0, 1) := by decide +kernel
theorem d_Pt_takeBack_136 : decode (yB Y_Pt_takeBack) 136 = .ok (.getfield 11, 3) := by decide +kernel
theorem d_Pt_takeBack_139 : decode (yB Y_Pt_takeBack) 139 = .ok (.iload_n 2, 1) := by decide +kernel
theorem d_Pt_takeBack_140 : decode (yB Y_Pt_takeBack) 140 = .ok (.iconst 3, 1) := by decide +kernel
theorem d_Pt_takeBack_141 : decode (yB Y_Pt_takeBack) 141 = .ok (.iadd, 1) := by decide +kernel
theorem d_Pt_takeBack_142 : decode (yB Y_Pt_takeBack) 142 = .ok (.aload_n 1, 1) := by decide +kernel
theorem d_Pt_takeBack_143 : decode (yB Y_Pt_takeBack) 143 = .ok (.getfield 34, 3) := by decide +kernel
theorem d_Pt_takeBack_146 : decode (yB Y_Pt_takeBack) 146 = .ok (.iconst 0, 1) := by decide +kernel
theorem d_Pt_takeBack_147 : decode (yB Y_Pt_takeBack) 147 = .ok (.iconst 3, 1) := by decide +kernel
theorem d_Pt_takeBack_148 : decode (yB Y_Pt_takeBack) 148 = .ok (.invokestatic 19, 3) := by decide +kernel
theorem d_Pt_takeBack_151 : decode (yB Y_Pt_takeBack) 151 = .ok (.goto 24, 3) := by decide +kernel
theorem d_Pt_takeBack_154 : decode (yB Y_Pt_takeBack) 154 = .ok (.aload_n 0, 1) := by decide +kernel
theorem d_Pt_takeBack_155 : decode (yB Y_Pt_takeBack) 155 = .ok (.getfield 11, 3) := by decide +kernel
theorem d_Pt_takeBack_158 : decode (yB Y_Pt_takeBack) 158 = .ok (.iload_n 2, 1) := by decide +kernel
theorem d_Pt_takeBack_159 : decode (yB Y_Pt_takeBack) 159 = .ok (.iconst 3, 1) := by decide +kernel
theorem d_Pt_takeBack_160 : decode (yB Y_Pt_takeBack) 160 = .ok (.iadd, 1) := by decide +kernel
theorem d_Pt_takeBack_161 : decode (yB Y_Pt_takeBack) 161 = .ok (.aload_n 1, 1) := by decide +kernel
theorem d_Pt_takeBack_162 : decode (yB Y_Pt_takeBack) 162 = .ok (.getfield 37, 3) := by decide +kernel
theorem d_Pt_takeBack_165 : decode (yB Y_Pt_takeBack) 165 = .ok (.iconst 0, 1) := by decide +kernel
theorem d_Pt_takeBack_166 : decode (yB Y_Pt_takeBack) 166 = .ok (.iconst 3, 1) := by decide +kernel
theorem d_Pt_takeBack_167 : decode (yB Y_Pt_takeBack) 167 = .ok (.invokestatic 19, 3) := by decide +kernel
theorem d_Pt_takeBack_170 : decode (yB Y_Pt_takeBack) 170 = .ok (.aload_n 1, 1) := by decide +kernel
theorem d_Pt_takeBack_171 : decode (yB Y_Pt_takeBack) 171 = .ok (.iconst (-1), 1) := by decide +kernel
theorem d_Pt_takeBack_172 : decode (yB Y_Pt_takeBack) 172 = .ok (.invokevirtual 40, 3) := by decide +kernel
theorem d_Pt_takeBack_175 : decode (yB Y_Pt_takeBack) 175 = .ok (.iload_n 3, 1) := by decide +kernel
theorem d_Pt_takeBack_176 : decode (yB Y_Pt_takeBack) 176 = .ok (.ireturn, 1) := by decide +kernel
def F_Pt_takeBack_b117 (n : Nat) (E : zE) (S : zS) (x3 : Int32) (s0 : Int32) (s1 : Int32) (u2 : Nat) (M : zH) : Option (Int32 × zH) :=
  (zstZ S M u2 s1 s0).bind fun m_1 =>
  some (x3, m_1)
def F_Pt_takeBack_b68 (n : Nat) (E : zE) (S : zS) (a0 : Nat) (a1 : Nat) (x2 : Int32) (x3 : Int32) (s0 : Int32) (M : zH) : Option (Int32 × zH) :=
  if x3 = 0 then
    (zgR S a1 3 1).bind fun b_3 =>
    (zldZ S M b_3 s0).bind fun v_4 =>
    if v_4 = 0 then
      F_Pt_takeBack_b117 n E S x3 1 s0 b_3 M
    else
      F_Pt_takeBack_b117 n E S x3 0 s0 b_3 M
  else
  if x3 = 1 then
    (zgR S a1 3 0).bind fun b_7 =>
    (zldI S M b_7 s0).bind fun v_8 =>
    (zstI S M b_7 s0 (v_8 - 1)).bind fun m_9 =>
    some (x3, m_9)
  else
  if x3 = 2 then
    (zgR S a0 6 0).bind fun b_11 =>
    (zgR S a1 3 5).bind fun b_12 =>
    (zcpy S M b_11 (x2 + 3) b_12 0 3).bind fun m_13 =>
    some (x3, m_13)
  else
    (zgR S a0 6 0).bind fun b_14 =>
    (zgR S a1 3 4).bind fun b_15 =>
    (zcpy S M b_14 (x2 + 3) b_15 0 3).bind fun m_16 =>
    (F_Ni_turnAll n E S a1 (-1) m_16).bind fun q_17 =>
    some (x3, q_17)
def F_Pt_takeBack_b44 (n : Nat) (E : zE) (S : zS) (a0 : Nat) (a1 : Nat) (x2 : Int32) (x3 : Int32) (M : zH) : Option (Int32 × zH) :=
  (zgR S a0 6 0).bind fun b_18 =>
  (zldI S M b_18 (x2 + 2)).bind fun v_19 =>
  (zldI S M b_18 (x2 + 1)).bind fun v_20 =>
  F_Pt_takeBack_b68 n E S a0 a1 x2 x3 ((v_19 * 8) + v_20) M
def F_Pt_takeBack (n : Nat) (E : zE) (S : zS) (a0 : Nat) (a1 : Nat) (M : zH) : Option (Int32 × zH) :=
  (zgI S M a0 6 1).bind fun v_21 =>
  if 0 < v_21 then
    (zgI S M a0 6 1).bind fun v_23 =>
    (zpI S M a0 6 1 (v_23 - 1)).bind fun m_24 =>
    (zgI S m_24 a0 6 1).bind fun v_25 =>
    (zgR S a0 6 0).bind fun b_26 =>
    (zldI S m_24 b_26 (v_25 * 6)).bind fun v_27 =>
    if v_27 = 0 then
      F_Pt_takeBack_b44 n E S a0 a1 (v_25 * 6) v_27 m_24
    else
      if v_27 = 1 then
        F_Pt_takeBack_b44 n E S a0 a1 (v_25 * 6) v_27 m_24
      else
        F_Pt_takeBack_b68 n E S a0 a1 (v_25 * 6) v_27 0 m_24
  else
    some ((-3), M)
theorem K_Pt_takeBack_b117 (n : Nat) (E : zE) (S : zS) (x3 : Int32) (s0 : Int32) (s1 : Int32) (u2 : Nat) (M : zH) (r : Int32) (M' : zH)  (h : F_Pt_takeBack_b117 n E S x3 s0 s1 u2 M = some (r, M')) : zG E Y_Pt_takeBack (some (.int r), S, M') 117 [(3, .int x3)] [.int s0, .int s1, .ref u2] S M 0 0 := by
  unfold F_Pt_takeBack_b117 at h
  obtain ⟨m_1, em_1, h⟩ := zbind h
  refine zo_zast 118 d_Pt_takeBack_117 em_1 rfl ?_
  refine zi_goto (tgt := 175) d_Pt_takeBack_118 rfl ?_
  refine zi_iload_n 0 d_Pt_takeBack_175 rfl ?_
  cases h
  exact zo_ret d_Pt_takeBack_176 (Nat.le_of_ble_eq_true rfl) (Nat.le_of_ble_eq_true rfl) rfl
theorem K_Pt_takeBack_b68 (n : Nat) (E : zE) (S : zS) (a0 : Nat) (a1 : Nat) (x2 : Int32) (x3 : Int32) (s0 : Int32) (M : zH) (r : Int32) (M' : zH)  (h : F_Pt_takeBack_b68 n E S a0 a1 x2 x3 s0 M = some (r, M')) : zG E Y_Pt_takeBack (some (.int r), S, M') 68 [(0, .ref a0), (1, .ref a1), (2, .int x2), (3, .int x3)] [.int s0] S M 0 0 := by
  unfold F_Pt_takeBack_b68 at h
  refine zi_istore [(4, .int s0), (0, .ref a0), (1, .ref a1), (2, .int x2), (3, .int x3)] d_Pt_takeBack_68 (by decide) rfl ?_
  refine zi_iload_n 4 d_Pt_takeBack_70 rfl ?_
  by_cases c_2 : x3 = 0
  · rw [if_pos c_2] at h
    refine zo_tab (tgt := 96) 0 d_Pt_takeBack_71 c_2 (by decide) (by decide) rfl rfl ?_
    refine zi_aload_n 2 d_Pt_takeBack_96 rfl ?_
    obtain ⟨b_3, eb_3, h⟩ := zbind h
    refine zo_getR 100 zkd_3 1 d_Pt_takeBack_97 eb_3 rfl tw_48 rfl ?_
    refine zi_iload 0 d_Pt_takeBack_100 rfl ?_
    refine zi_aload_n 2 d_Pt_takeBack_102 rfl ?_
    refine zo_getR 106 zkd_3 1 d_Pt_takeBack_103 eb_3 rfl tw_48 rfl ?_
    refine zi_iload 0 d_Pt_takeBack_106 rfl ?_
    obtain ⟨v_4, ev_4, h⟩ := zbind h
    refine zo_zald 109 d_Pt_takeBack_108 ev_4 rfl ?_
    refine zi_if_ne (tgt := 116) d_Pt_takeBack_109 rfl (fun c_5 => ?_) (fun c_5 => ?_)
    · rw [if_neg c_5] at h
      refine zi_iconst 0 d_Pt_takeBack_116 rfl ?_
      refine zi_lo [(3, .int x3)] [4] rfl ?_
      exact K_Pt_takeBack_b117 n E S x3 0 s0 b_3 M r M'  h
    · rw [if_pos c_5] at h
      refine zi_iconst 1 d_Pt_takeBack_112 rfl ?_
      refine zi_goto (tgt := 117) d_Pt_takeBack_113 rfl ?_
      refine zi_lo [(3, .int x3)] [4] rfl ?_
      exact K_Pt_takeBack_b117 n E S x3 1 s0 b_3 M r M'  h
  rw [if_neg c_2] at h
  by_cases c_6 : x3 = 1
  · rw [if_pos c_6] at h
    refine zo_tab (tgt := 121) 1 d_Pt_takeBack_71 c_6 (by decide) (by decide) rfl rfl ?_
    refine zi_aload_n 2 d_Pt_takeBack_121 rfl ?_
    obtain ⟨b_7, eb_7, h⟩ := zbind h
    refine zo_getR 125 zkd_3 0 d_Pt_takeBack_122 eb_7 rfl tw_45 rfl ?_
    refine zi_iload 0 d_Pt_takeBack_125 rfl ?_
    refine zi_dup2 d_Pt_takeBack_127 rfl rfl ?_
    obtain ⟨v_8, ev_8, h⟩ := zbind h
    refine zo_iald 129 d_Pt_takeBack_128 ev_8 rfl ?_
    refine zi_iconst 1 d_Pt_takeBack_129 rfl ?_
    refine zi_isub d_Pt_takeBack_130 ?_
    obtain ⟨m_9, em_9, h⟩ := zbind h
    refine zo_iast 132 d_Pt_takeBack_131 em_9 rfl ?_
    refine zi_goto (tgt := 175) d_Pt_takeBack_132 rfl ?_
    refine zi_iload_n 4 d_Pt_takeBack_175 rfl ?_
    cases h
    exact zo_ret d_Pt_takeBack_176 (Nat.le_of_ble_eq_true rfl) (Nat.le_of_ble_eq_true rfl) rfl
  rw [if_neg c_6] at h
  by_cases c_10 : x3 = 2
  · rw [if_pos c_10] at h
    refine zo_tab (tgt := 135) 2 d_Pt_takeBack_71 c_10 (by decide) (by decide) rfl rfl ?_
    refine zi_aload_n 1 d_Pt_takeBack_135 rfl ?_
    obtain ⟨b_11, eb_11, h⟩ := zbind h
    refine zo_getR 139 zkd_6 0 d_Pt_takeBack_136 eb_11 rfl tw_138 rfl ?_
    refine zi_iload_n 3 d_Pt_takeBack_139 rfl ?_
    refine zi_iconst 3 d_Pt_takeBack_140 rfl ?_
    refine zi_iadd d_Pt_takeBack_141 ?_
    refine zi_aload_n 2 d_Pt_takeBack_142 rfl ?_
    obtain ⟨b_12, eb_12, h⟩ := zbind h
    refine zo_getR 146 zkd_3 5 d_Pt_takeBack_143 eb_12 rfl tw_71 rfl ?_
    refine zi_iconst 0 d_Pt_takeBack_146 rfl ?_
    refine zi_iconst 3 d_Pt_takeBack_147 rfl ?_
    obtain ⟨m_13, em_13, h⟩ := zbind h
    refine zo_cpy 151 d_Pt_takeBack_148 em_13 tw_871 zcpw rfl (by decide) (Nat.le_of_ble_eq_true rfl) ?_
    refine zi_goto (tgt := 175) d_Pt_takeBack_151 rfl ?_
    refine zi_iload_n 4 d_Pt_takeBack_175 rfl ?_
    cases h
    exact zo_ret d_Pt_takeBack_176 (Nat.le_of_ble_eq_true rfl) (Nat.le_of_ble_eq_true rfl) rfl
  rw [if_neg c_10] at h
  refine zo_tabP (tgt := 154) 0 3 d_Pt_takeBack_71 rfl rfl (fun j hj => by match j, hj with | 0, _ => exact c_2  | 1, _ => exact c_6  | 2, _ => exact c_10 | j + 3, hj => exact absurd hj (by omega)) rfl ?_
  refine zi_aload_n 1 d_Pt_takeBack_154 rfl ?_
  obtain ⟨b_14, eb_14, h⟩ := zbind h
  refine zo_getR 158 zkd_6 0 d_Pt_takeBack_155 eb_14 rfl tw_138 rfl ?_
  refine zi_iload_n 3 d_Pt_takeBack_158 rfl ?_
  refine zi_iconst 3 d_Pt_takeBack_159 rfl ?_
  refine zi_iadd d_Pt_takeBack_160 ?_
  refine zi_aload_n 2 d_Pt_takeBack_161 rfl ?_
  obtain ⟨b_15, eb_15, h⟩ := zbind h
  refine zo_getR 165 zkd_3 4 d_Pt_takeBack_162 eb_15 rfl tw_64 rfl ?_
  refine zi_iconst 0 d_Pt_takeBack_165 rfl ?_
  refine zi_iconst 3 d_Pt_takeBack_166 rfl ?_
  obtain ⟨m_16, em_16, h⟩ := zbind h
  refine zo_cpy 170 d_Pt_takeBack_167 em_16 tw_871 zcpw rfl (by decide) (Nat.le_of_ble_eq_true rfl) ?_
  refine zi_aload_n 2 d_Pt_takeBack_170 rfl ?_
  refine zi_iconst (-1) d_Pt_takeBack_171 rfl ?_
  obtain ⟨q_17, eq_17, h⟩ := zbind h
  refine zo_virt (k' := 0) (n' := 0) 175 [.int (-1)] [] [] zkd_3 (zgR_s eb_15).1 (C_Ni_turnAll n E S a1 (-1) m_16 q_17 eq_17) d_Pt_takeBack_172 tw_927 tw_973 tw_925 tw_926 tw_2 dd_Ni_turnAll ⟨Nat.le_of_ble_eq_true rfl, Nat.le_of_ble_eq_true rfl, Nat.le_of_ble_eq_true rfl, Nat.le_of_ble_eq_true rfl⟩ (Nat.le_of_ble_eq_true rfl) rfl rfl rfl rfl ?_
  refine zi_iload_n 4 d_Pt_takeBack_175 rfl ?_
  cases h
  exact zo_ret d_Pt_takeBack_176 (Nat.le_of_ble_eq_true rfl) (Nat.le_of_ble_eq_true rfl) rfl
theorem K_Pt_takeBack_b44 (n : Nat) (E : zE) (S : zS) (a0 : Nat) (a1 : Nat) (x2 : Int32) (x3 : Int32) (M : zH) (r : Int32) (M' : zH)  (h : F_Pt_takeBack_b44 n E S a0 a1 x2 x3 M = some (r, M')) : zG E Y_Pt_takeBack (some (.int r), S, M') 44 [(0, .ref a0), (1, .ref a1), (2, .int x2), (3, .int x3)] [] S M 0 0 := by
  unfold F_Pt_takeBack_b44 at h
  refine zi_aload_n 0 d_Pt_takeBack_44 rfl ?_
  obtain ⟨b_18, eb_18, h⟩ := zbind h
  refine zo_getR 48 zkd_6 0 d_Pt_takeBack_45 eb_18 rfl tw_138 rfl ?_
  refine zi_iload_n 2 d_Pt_takeBack_48 rfl ?_
  refine zi_iconst 2 d_Pt_takeBack_49 rfl ?_
  refine zi_iadd d_Pt_takeBack_50 ?_
  obtain ⟨v_19, ev_19, h⟩ := zbind h
  refine zo_iald 52 d_Pt_takeBack_51 ev_19 rfl ?_
  refine zi_bipush 8 d_Pt_takeBack_52 rfl ?_
  refine zi_imul d_Pt_takeBack_54 ?_
  refine zi_aload_n 0 d_Pt_takeBack_55 rfl ?_
  refine zo_getR 59 zkd_6 0 d_Pt_takeBack_56 eb_18 rfl tw_138 rfl ?_
  refine zi_iload_n 2 d_Pt_takeBack_59 rfl ?_
  refine zi_iconst 1 d_Pt_takeBack_60 rfl ?_
  refine zi_iadd d_Pt_takeBack_61 ?_
  obtain ⟨v_20, ev_20, h⟩ := zbind h
  refine zo_iald 63 d_Pt_takeBack_62 ev_20 rfl ?_
  refine zi_iadd d_Pt_takeBack_63 ?_
  refine zi_goto (tgt := 68) d_Pt_takeBack_64 rfl ?_
  refine zi_lo [(0, .ref a0), (1, .ref a1), (2, .int x2), (3, .int x3)] [0, 1, 2, 3] rfl ?_
  exact K_Pt_takeBack_b68 n E S a0 a1 x2 x3 ((v_19 * 8) + v_20) M r M'  h
theorem K_Pt_takeBack (n : Nat) (E : zE) (S : zS) (a0 : Nat) (a1 : Nat) (M : zH) (r : Int32) (M' : zH)  (h : F_Pt_takeBack n E S a0 a1 M = some (r, M')) : zG E Y_Pt_takeBack (some (.int r), S, M') 0 [(0, .ref a0), (1, .ref a1)] [] S M 0 0 := by
  unfold F_Pt_takeBack at h
  refine zi_aload_n 0 d_Pt_takeBack_0 rfl ?_
  obtain ⟨v_21, ev_21, h⟩ := zbind h
  refine zo_getI 4 zkd_6 1 d_Pt_takeBack_1 ev_21 rfl tw_139 rfl ?_
  refine zi_if_gt (tgt := 10) d_Pt_takeBack_4 rfl (fun c_22 => ?_) (fun c_22 => ?_)
  · rw [if_pos c_22] at h
    refine zi_aload_n 0 d_Pt_takeBack_10 rfl ?_
    refine zi_dup d_Pt_takeBack_11 rfl ?_
    obtain ⟨v_23, ev_23, h⟩ := zbind h
    refine zo_getI 15 zkd_6 1 d_Pt_takeBack_12 ev_23 rfl tw_139 rfl ?_
    refine zi_iconst 1 d_Pt_takeBack_15 rfl ?_
    refine zi_isub d_Pt_takeBack_16 ?_
    obtain ⟨m_24, em_24, h⟩ := zbind h
    refine zo_putI 20 zkd_6 1 d_Pt_takeBack_17 em_24 rfl rfl rfl tw_139 rfl ?_
    refine zi_aload_n 0 d_Pt_takeBack_20 rfl ?_
    obtain ⟨v_25, ev_25, h⟩ := zbind h
    refine zo_getI 24 zkd_6 1 d_Pt_takeBack_21 ev_25 rfl tw_139 rfl ?_
    refine zi_bipush 6 d_Pt_takeBack_24 rfl ?_
    refine zi_imul d_Pt_takeBack_26 ?_
    refine zi_istore_n [(2, .int (v_25 * 6)), (0, .ref a0), (1, .ref a1)] d_Pt_takeBack_27 (by decide) rfl ?_
    refine zi_aload_n 1 d_Pt_takeBack_28 rfl ?_
    obtain ⟨b_26, eb_26, h⟩ := zbind h
    refine zo_getR 32 zkd_6 0 d_Pt_takeBack_29 eb_26 rfl tw_138 rfl ?_
    refine zi_iload_n 0 d_Pt_takeBack_32 rfl ?_
    obtain ⟨v_27, ev_27, h⟩ := zbind h
    refine zo_iald 34 d_Pt_takeBack_33 ev_27 rfl ?_
    refine zi_istore_n [(3, .int v_27), (2, .int (v_25 * 6)), (0, .ref a0), (1, .ref a1)] d_Pt_takeBack_34 (by decide) rfl ?_
    refine zi_iload_n 0 d_Pt_takeBack_35 rfl ?_
    refine zi_if_eq (tgt := 44) d_Pt_takeBack_36 rfl (fun c_28 => ?_) (fun c_28 => ?_)
    · rw [if_pos c_28] at h
      refine zi_lo [(0, .ref a0), (1, .ref a1), (2, .int (v_25 * 6)), (3, .int v_27)] [2, 3, 1, 0] rfl ?_
      exact K_Pt_takeBack_b44 n E S a0 a1 (v_25 * 6) v_27 m_24 r M'  h
    · rw [if_neg c_28] at h
      refine zi_iload_n 0 d_Pt_takeBack_39 rfl ?_
      refine zi_iconst 1 d_Pt_takeBack_40 rfl ?_
      refine zi_icmp_ne (tgt := 67) d_Pt_takeBack_41 rfl (fun c_29 => ?_) (fun c_29 => ?_)
      · rw [if_neg c_29] at h
        refine zi_iconst 0 d_Pt_takeBack_67 rfl ?_
        refine zi_lo [(0, .ref a0), (1, .ref a1), (2, .int (v_25 * 6)), (3, .int v_27)] [2, 3, 1, 0] rfl ?_
        exact K_Pt_takeBack_b68 n E S a0 a1 (v_25 * 6) v_27 0 m_24 r M'  h
      · rw [if_pos c_29] at h
        refine zi_lo [(0, .ref a0), (1, .ref a1), (2, .int (v_25 * 6)), (3, .int v_27)] [2, 3, 1, 0] rfl ?_
        exact K_Pt_takeBack_b44 n E S a0 a1 (v_25 * 6) v_27 m_24 r M'  h
  · rw [if_neg c_22] at h
    refine zi_bipush (-3) d_Pt_takeBack_7 rfl ?_
    cases h
    exact zo_ret d_Pt_takeBack_9 (Nat.le_of_ble_eq_true rfl) (Nat.le_of_ble_eq_true rfl) rfl
theorem C_Pt_takeBack (n : Nat) (E : zE) (S : zS) (a0 : Nat) (a1 : Nat) (M : zH) (r : Int32) (M' : zH) (h : F_Pt_takeBack n E S a0 a1 M = some (r, M')) : zC E Y_Pt_takeBack [.ref a0, .ref a1] S M (some (.int r), S, M') :=
  zC.of (Or.inl (show plainName "NightColander$Past" = true by decide)) (Nat.le_of_ble_eq_true rfl) (trivial) (K_Pt_takeBack n E S a0 a1 M r M' h)
theorem d_NC_undo_0 : decode (yB Y_NC_undo) 0 = .ok (.aload_n 0, 1) := by decide +kernel
theorem d_NC_undo_1 : decode (yB Y_NC_undo) 1 = .ok (.aload_n 0, 1) := by decide +kernel
theorem d_NC_undo_2 : decode (yB Y_NC_undo) 2 = .ok (.getfield 35, 3) := by decide +kernel
theorem d_NC_undo_5 : decode (yB Y_NC_undo) 5 = .ok (.aload_n 0, 1) := by decide +kernel
theorem d_NC_undo_6 : decode (yB Y_NC_undo) 6 = .ok (.getfield 12, 3) := by decide +kernel
theorem d_NC_undo_9 : decode (yB Y_NC_undo) 9 = .ok (.invokevirtual 256, 3) := by decide +kernel
theorem d_NC_undo_12 : decode (yB Y_NC_undo) 12 = .ok (.invokevirtual 253, 3) := by decide +kernel
theorem d_NC_undo_15 : decode (yB Y_NC_undo) 15 = .ok (.ireturn, 1) := by decide +kernel
def F_NC_undo (n : Nat) (E : zE) (S : zS) (a0 : Nat) (M : zH) : Option (Int32 × zH) :=
  (zgR S a0 10 5).bind fun b_1 =>
  (zgR S a0 10 0).bind fun b_2 =>
  (zck S b_1 6).bind fun u_3 =>
  (F_Pt_takeBack n E S b_1 b_2 M).bind fun q_4 =>
  (F_NC_answered n E S a0 q_4.1 q_4.2).bind fun q_5 =>
  some (q_5.1, q_5.2)
theorem K_NC_undo (n : Nat) (E : zE) (S : zS) (a0 : Nat) (M : zH) (r : Int32) (M' : zH)  (h : F_NC_undo n E S a0 M = some (r, M')) : zG E Y_NC_undo (some (.int r), S, M') 0 [(0, .ref a0)] [] S M 0 0 := by
  unfold F_NC_undo at h
  refine zi_aload_n 0 d_NC_undo_0 rfl ?_
  refine zi_aload_n 0 d_NC_undo_1 rfl ?_
  obtain ⟨b_1, eb_1, h⟩ := zbind h
  refine zo_getR 5 zkd_10 5 d_NC_undo_2 eb_1 rfl tw_337 rfl ?_
  refine zi_aload_n 0 d_NC_undo_5 rfl ?_
  obtain ⟨b_2, eb_2, h⟩ := zbind h
  refine zo_getR 9 zkd_10 0 d_NC_undo_6 eb_2 rfl tw_332 rfl ?_
  obtain ⟨u_3, eu_3, h⟩ := zbind h
  obtain ⟨q_4, eq_4, h⟩ := zbind h
  refine zo_virt (k' := 0) (n' := 0) 12 [.ref b_2] [.ref a0] [.int q_4.1, .ref a0] zkd_6 (zck_s eu_3) (C_Pt_takeBack n E S b_1 b_2 M q_4.1 q_4.2 eq_4) d_NC_undo_9 tw_972 tw_969 tw_970 tw_971 tw_4 dd_Pt_takeBack ⟨Nat.le_of_ble_eq_true rfl, Nat.le_of_ble_eq_true rfl, Nat.le_of_ble_eq_true rfl, Nat.le_of_ble_eq_true rfl⟩ (Nat.le_of_ble_eq_true rfl) rfl rfl rfl rfl ?_
  obtain ⟨q_5, eq_5, h⟩ := zbind h
  refine zo_virt (k' := 0) (n' := 0) 15 [.int q_4.1] [] [.int q_5.1] zkd_10 (zgR_s eb_1).1 (C_NC_answered n E S a0 q_4.1 q_4.2 q_5.1 q_5.2 eq_5) d_NC_undo_12 tw_952 tw_949 tw_951 ts_24 tw_1 dd_NC_answered ⟨Nat.le_of_ble_eq_true rfl, Nat.le_of_ble_eq_true rfl, Nat.le_of_ble_eq_true rfl, Nat.le_of_ble_eq_true rfl⟩ (Nat.le_of_ble_eq_true rfl) rfl rfl rfl rfl ?_
  cases h
  exact zo_ret d_NC_undo_15 (Nat.le_of_ble_eq_true rfl) (Nat.le_of_ble_eq_true rfl) rfl
theorem C_NC_undo (n : Nat) (E : zE) (S : zS) (a0 : Nat) (M : zH) (r : Int32) (M' : zH) (h : F_NC_undo n E S a0 M = some (r, M')) : zC E Y_NC_undo [.ref a0] S M (some (.int r), S, M') :=
  zC.of (Or.inl (show plainName "NightColander" = true by decide)) (Nat.le_of_ble_eq_true rfl) (trivial) (K_NC_undo n E S a0 M r M' h)
theorem d_Pa_hoursUntil_0 : decode (yB Y_Pa_hoursUntil) 0 = .ok (.aload_n 0, 1) := by decide +kernel
theorem d_Pa_hoursUntil_1 : decode (yB Y_Pa_hoursUntil) 1 = .ok (.getfield 12, 3) := by decide +kernel
theorem d_Pa_hoursUntil_4 : decode (yB Y_Pa_hoursUntil) 4 = .ok (.aload_n 1, 1) := by decide +kernel
theorem d_Pa_hoursUntil_5 : decode (yB Y_Pa_hoursUntil) 5 = .ok (.invokevirtual 53, 3) := by decide +kernel
theorem d_Pa_hoursUntil_8 : decode (yB Y_Pa_hoursUntil) 8 = .ok (.iconst 0, 1) := by decide +kernel
theorem d_Pa_hoursUntil_9 : decode (yB Y_Pa_hoursUntil) 9 = .ok (.istore 4, 2) := by decide +kernel
theorem d_Pa_hoursUntil_11 : decode (yB Y_Pa_hoursUntil) 11 = .ok (.iload 4, 2) := by decide +kernel
theorem d_Pa_hoursUntil_13 : decode (yB Y_Pa_hoursUntil) 13 = .ok (.bipush 60, 2) := by decide +kernel
theorem d_Pa_hoursUntil_15 : decode (yB Y_Pa_hoursUntil) 15 = .ok (.if_icmp .gt 36, 3) := by decide +kernel
theorem d_Pa_hoursUntil_18 : decode (yB Y_Pa_hoursUntil) 18 = .ok (.aload_n 0, 1) := by decide +kernel
theorem d_Pa_hoursUntil_19 : decode (yB Y_Pa_hoursUntil) 19 = .ok (.getfield 45, 3) := by decide +kernel
theorem d_Pa_hoursUntil_22 : decode (yB Y_Pa_hoursUntil) 22 = .ok (.aload_n 0, 1) := by decide +kernel
theorem d_Pa_hoursUntil_23 : decode (yB Y_Pa_hoursUntil) 23 = .ok (.getfield 12, 3) := by decide +kernel
theorem d_Pa_hoursUntil_26 : decode (yB Y_Pa_hoursUntil) 26 = .ok (.iload_n 2, 1) := by decide +kernel
theorem d_Pa_hoursUntil_27 : decode (yB Y_Pa_hoursUntil) 27 = .ok (.invokevirtual 57, 3) := by decide +kernel
theorem d_Pa_hoursUntil_30 : decode (yB Y_Pa_hoursUntil) 30 = .ok (.iload_n 3, 1) := by decide +kernel
theorem d_Pa_hoursUntil_31 : decode (yB Y_Pa_hoursUntil) 31 = .ok (.if_icmp .lt 6, 3) := by decide +kernel
theorem d_Pa_hoursUntil_34 : decode (yB Y_Pa_hoursUntil) 34 = .ok (.iload 4, 2) := by decide +kernel
theorem d_Pa_hoursUntil_36 : decode (yB Y_Pa_hoursUntil) 36 = .ok (.ireturn, 1) := by decide +kernel
theorem d_Pa_hoursUntil_37 : decode (yB Y_Pa_hoursUntil) 37 = .ok (.aload_n 0, 1) := by decide +kernel
theorem d_Pa_hoursUntil_38 : decode (yB Y_Pa_hoursUntil) 38 = .ok (.getfield 12, 3) := by decide +kernel
theorem d_Pa_hoursUntil_41 : decode (yB Y_Pa_hoursUntil) 41 = .ok (.iconst 1, 1) := by decide +kernel
theorem d_Pa_hoursUntil_42 : decode (yB Y_Pa_hoursUntil) 42 = .ok (.invokevirtual 63, 3) := by decide +kernel
theorem d_Pa_hoursUntil_45 : decode (yB Y_Pa_hoursUntil) 45 = .ok (.iinc 4 1, 3) := by decide +kernel
theorem d_Pa_hoursUntil_48 : decode (yB Y_Pa_hoursUntil) 48 = .ok (.goto (-37), 3) := by decide +kernel
theorem d_Pa_hoursUntil_51 : decode (yB Y_Pa_hoursUntil) 51 = .ok (.iconst (-1), 1) := by decide +kernel
theorem d_Pa_hoursUntil_52 : decode (yB Y_Pa_hoursUntil) 52 = .ok (.ireturn, 1) := by decide +kernel
def F_Pa_hoursUntil_L11 (n : Nat) (E : zE) (S : zS) (r11 : Nat × Int32 × Int32 × Int32 × zH → Option (Int32 × zH)) (a0 : Nat) (x2 : Int32) (x3 : Int32) (x4 : Int32) (M : zH) : Option (Int32 × zH) :=
  if 60 < x4 then
    some ((-1), M)
  else
    (zgR S a0 4 0).bind fun b_2 =>
    (zgR S a0 4 1).bind fun b_3 =>
    (zck S b_2 1).bind fun u_4 =>
    (F_Ju_threadsOn n E S b_2 b_3 x2 M).bind fun q_5 =>
    if q_5.1 < x3 then
      (zck S b_3 3).bind fun u_7 =>
      (F_Ni_turnAll n E S b_3 1 q_5.2).bind fun q_8 =>
      r11 (a0, x2, x3, x4 + 1, q_8)
    else
      some (x4, q_5.2)
def F_Pa_hoursUntil_b11 (n : Nat) (E : zE) (S : zS) : Nat × Int32 × Int32 × Int32 × zH → Option (Int32 × zH) := zfix (fun r11 s => F_Pa_hoursUntil_L11 n E S r11 s.1 s.2.1 s.2.2.1 s.2.2.2.1 s.2.2.2.2) n
def F_Pa_hoursUntil (n : Nat) (E : zE) (S : zS) (a0 : Nat) (a1 : Nat) (x2 : Int32) (x3 : Int32) (M : zH) : Option (Int32 × zH) :=
  (zgR S a0 4 1).bind fun b_9 =>
  (zck S b_9 3).bind fun u_10 =>
  (F_Ni_copyFrom n E S b_9 a1 M).bind fun q_11 =>
  F_Pa_hoursUntil_b11 n E S (a0, x2, x3, 0, q_11)
theorem K_Pa_hoursUntil_L11 (n : Nat) (E : zE) (S : zS) (r11 : Nat × Int32 × Int32 × Int32 × zH → Option (Int32 × zH)) (a0 : Nat) (x2 : Int32) (x3 : Int32) (x4 : Int32) (M : zH) (r : Int32) (M' : zH) (hr11 : ∀ (a0 : Nat) (x2 : Int32) (x3 : Int32) (x4 : Int32) (M : zH), r11 (a0, x2, x3, x4, M) = some (r, M') → zG E Y_Pa_hoursUntil (some (.int r), S, M') 11 [(0, .ref a0), (2, .int x2), (3, .int x3), (4, .int x4)] [] S M 0 0) (h : F_Pa_hoursUntil_L11 n E S r11 a0 x2 x3 x4 M = some (r, M')) : zG E Y_Pa_hoursUntil (some (.int r), S, M') 11 [(0, .ref a0), (2, .int x2), (3, .int x3), (4, .int x4)] [] S M 0 0 := by
  unfold F_Pa_hoursUntil_L11 at h
  refine zi_iload 3 d_Pa_hoursUntil_11 rfl ?_
  refine zi_bipush 60 d_Pa_hoursUntil_13 rfl ?_
  refine zi_icmp_gt (tgt := 51) d_Pa_hoursUntil_15 rfl (fun c_1 => ?_) (fun c_1 => ?_)
  · rw [if_pos c_1] at h
    refine zi_iconst (-1) d_Pa_hoursUntil_51 rfl ?_
    cases h
    exact zo_ret d_Pa_hoursUntil_52 (Nat.le_of_ble_eq_true rfl) (Nat.le_of_ble_eq_true rfl) rfl
  · rw [if_neg c_1] at h
    refine zi_aload_n 0 d_Pa_hoursUntil_18 rfl ?_
    obtain ⟨b_2, eb_2, h⟩ := zbind h
    refine zo_getR 22 zkd_4 0 d_Pa_hoursUntil_19 eb_2 rfl tw_298 rfl ?_
    refine zi_aload_n 0 d_Pa_hoursUntil_22 rfl ?_
    obtain ⟨b_3, eb_3, h⟩ := zbind h
    refine zo_getR 26 zkd_4 1 d_Pa_hoursUntil_23 eb_3 rfl tw_299 rfl ?_
    refine zi_iload_n 1 d_Pa_hoursUntil_26 rfl ?_
    obtain ⟨u_4, eu_4, h⟩ := zbind h
    obtain ⟨q_5, eq_5, h⟩ := zbind h
    refine zo_virt (k' := 0) (n' := 0) 30 [.ref b_3, .int x2] [] [.int q_5.1] zkd_1 (zck_s eu_4) (C_Ju_threadsOn n E S b_2 b_3 x2 M q_5.1 q_5.2 eq_5) d_Pa_hoursUntil_27 tw_512 tw_983 tw_510 tw_511 tw_8 dd_Ju_threadsOn ⟨Nat.le_of_ble_eq_true rfl, Nat.le_of_ble_eq_true rfl, Nat.le_of_ble_eq_true rfl, Nat.le_of_ble_eq_true rfl⟩ (Nat.le_of_ble_eq_true rfl) rfl rfl rfl rfl ?_
    refine zi_iload_n 2 d_Pa_hoursUntil_30 rfl ?_
    refine zi_icmp_lt (tgt := 37) d_Pa_hoursUntil_31 rfl (fun c_6 => ?_) (fun c_6 => ?_)
    · rw [if_pos c_6] at h
      refine zi_aload_n 0 d_Pa_hoursUntil_37 rfl ?_
      refine zo_getR 41 zkd_4 1 d_Pa_hoursUntil_38 eb_3 rfl tw_299 rfl ?_
      refine zi_iconst 1 d_Pa_hoursUntil_41 rfl ?_
      obtain ⟨u_7, eu_7, h⟩ := zbind h
      obtain ⟨q_8, eq_8, h⟩ := zbind h
      refine zo_virt (k' := 0) (n' := 0) 45 [.int 1] [] [] zkd_3 (zck_s eu_7) (C_Ni_turnAll n E S b_3 1 q_5.2 q_8 eq_8) d_Pa_hoursUntil_42 tw_927 tw_984 tw_925 tw_926 tw_2 dd_Ni_turnAll ⟨Nat.le_of_ble_eq_true rfl, Nat.le_of_ble_eq_true rfl, Nat.le_of_ble_eq_true rfl, Nat.le_of_ble_eq_true rfl⟩ (Nat.le_of_ble_eq_true rfl) rfl rfl rfl rfl ?_
      refine zi_iinc 3 (x4 + 1) [(4, .int (x4 + 1)), (0, .ref a0), (2, .int x2), (3, .int x3)] d_Pa_hoursUntil_45 rfl rfl (by decide) rfl ?_
      refine zi_goto (tgt := 11) d_Pa_hoursUntil_48 rfl ?_
      refine zi_lo [(0, .ref a0), (2, .int x2), (3, .int x3), (4, .int (x4 + 1))] [1, 2, 3, 0] rfl ?_
      exact hr11 a0 x2 x3 (x4 + 1) q_8 h
    · rw [if_neg c_6] at h
      refine zi_iload 3 d_Pa_hoursUntil_34 rfl ?_
      cases h
      exact zo_ret d_Pa_hoursUntil_36 (Nat.le_of_ble_eq_true rfl) (Nat.le_of_ble_eq_true rfl) rfl
theorem K_Pa_hoursUntil_b11 (n : Nat) (E : zE) (S : zS) (a0 : Nat) (x2 : Int32) (x3 : Int32) (x4 : Int32) (M : zH) (r : Int32) (M' : zH)  (h : F_Pa_hoursUntil_b11 n E S (a0, x2, x3, x4, M) = some (r, M')) : zG E Y_Pa_hoursUntil (some (.int r), S, M') 11 [(0, .ref a0), (2, .int x2), (3, .int x3), (4, .int x4)] [] S M 0 0 := by
  have key : ∀ (k : Nat) (a0 : Nat) (x2 : Int32) (x3 : Int32) (x4 : Int32) (M : zH), zfix (fun r11 s => F_Pa_hoursUntil_L11 n E S r11 s.1 s.2.1 s.2.2.1 s.2.2.2.1 s.2.2.2.2) k (a0, x2, x3, x4, M) = some (r, M') → zG E Y_Pa_hoursUntil (some (.int r), S, M') 11 [(0, .ref a0), (2, .int x2), (3, .int x3), (4, .int x4)] [] S M 0 0 := by
    intro k
    induction k with
    | zero => intro a0 x2 x3 x4 M h; cases h
    | succ k ih => intro a0 x2 x3 x4 M h; exact K_Pa_hoursUntil_L11 n E S _ a0 x2 x3 x4 M r M'  (fun a0 x2 x3 x4 M h => ih a0 x2 x3 x4 M h) h
  exact key n a0 x2 x3 x4 M h
theorem K_Pa_hoursUntil (n : Nat) (E : zE) (S : zS) (a0 : Nat) (a1 : Nat) (x2 : Int32) (x3 : Int32) (M : zH) (r : Int32) (M' : zH)  (h : F_Pa_hoursUntil n E S a0 a1 x2 x3 M = some (r, M')) : zG E Y_Pa_hoursUntil (some (.int r), S, M') 0 [(0, .ref a0), (1, .ref a1), (2, .int x2), (3, .int x3)] [] S M 0 0 := by
  unfold F_Pa_hoursUntil at h
  refine zi_aload_n 0 d_Pa_hoursUntil_0 rfl ?_
  obtain ⟨b_9, eb_9, h⟩ := zbind h
  refine zo_getR 4 zkd_4 1 d_Pa_hoursUntil_1 eb_9 rfl tw_299 rfl ?_
  refine zi_aload_n 1 d_Pa_hoursUntil_4 rfl ?_
  obtain ⟨u_10, eu_10, h⟩ := zbind h
  obtain ⟨q_11, eq_11, h⟩ := zbind h
  refine zo_virt (k' := 0) (n' := 0) 8 [.ref a1] [] [] zkd_3 (zck_s eu_10) (C_Ni_copyFrom n E S b_9 a1 M q_11 eq_11) d_Pa_hoursUntil_5 tw_865 tw_982 tw_863 tw_864 tw_2 dd_Ni_copyFrom ⟨Nat.le_of_ble_eq_true rfl, Nat.le_of_ble_eq_true rfl, Nat.le_of_ble_eq_true rfl, Nat.le_of_ble_eq_true rfl⟩ (Nat.le_of_ble_eq_true rfl) rfl rfl rfl rfl ?_
  refine zi_iconst 0 d_Pa_hoursUntil_8 rfl ?_
  refine zi_istore [(4, .int 0), (0, .ref a0), (1, .ref a1), (2, .int x2), (3, .int x3)] d_Pa_hoursUntil_9 (by decide) rfl ?_
  refine zi_lo [(0, .ref a0), (2, .int x2), (3, .int x3), (4, .int 0)] [1, 3, 4, 0] rfl ?_
  exact K_Pa_hoursUntil_b11 n E S a0 x2 x3 0 q_11 r M'  h
theorem C_Pa_hoursUntil (n : Nat) (E : zE) (S : zS) (a0 : Nat) (a1 : Nat) (x2 : Int32) (x3 : Int32) (M : zH) (r : Int32) (M' : zH) (h : F_Pa_hoursUntil n E S a0 a1 x2 x3 M = some (r, M')) : zC E Y_Pa_hoursUntil [.ref a0, .ref a1, .int x2, .int x3] S M (some (.int r), S, M') :=
  zC.of (Or.inl (show plainName "NightColander$Paper" = true by decide)) (Nat.le_of_ble_eq_true rfl) (trivial) (K_Pa_hoursUntil n E S a0 a1 x2 x3 M r M' h)
theorem d_NC_when_0 : decode (yB Y_NC_when) 0 = .ok (.iload_n 1, 1) := by decide +kernel
theorem d_NC_when_1 : decode (yB Y_NC_when) 1 = .ok (.invokestatic 149, 3) := by decide +kernel
theorem d_NC_when_4 : decode (yB Y_NC_when) 4 = .ok (.ifCond .eq 14, 3) := by decide +kernel
theorem d_NC_when_7 : decode (yB Y_NC_when) 7 = .ok (.iload_n 2, 1) := by decide +kernel
theorem d_NC_when_8 : decode (yB Y_NC_when) 8 = .ok (.iconst 0, 1) := by decide +kernel
theorem d_NC_when_9 : decode (yB Y_NC_when) 9 = .ok (.sipush 400, 3) := by decide +kernel
theorem d_NC_when_12 : decode (yB Y_NC_when) 12 = .ok (.invokestatic 132, 3) := by decide +kernel
theorem d_NC_when_15 : decode (yB Y_NC_when) 15 = .ok (.ifCond .ne 5, 3) := by decide +kernel
theorem d_NC_when_18 : decode (yB Y_NC_when) 18 = .ok (.iconst (-1), 1) := by decide +kernel
theorem d_NC_when_19 : decode (yB Y_NC_when) 19 = .ok (.ireturn, 1) := by decide +kernel
theorem d_NC_when_20 : decode (yB Y_NC_when) 20 = .ok (.aload_n 0, 1) := by decide +kernel
theorem d_NC_when_21 : decode (yB Y_NC_when) 21 = .ok (.getfield 86, 3) := by decide +kernel
theorem d_NC_when_24 : decode (yB Y_NC_when) 24 = .ok (.aload_n 0, 1) := by decide +kernel
theorem d_NC_when_25 : decode (yB Y_NC_when) 25 = .ok (.getfield 12, 3) := by decide +kernel
theorem d_NC_when_28 : decode (yB Y_NC_when) 28 = .ok (.iload_n 1, 1) := by decide +kernel
theorem d_NC_when_29 : decode (yB Y_NC_when) 29 = .ok (.iload_n 2, 1) := by decide +kernel
theorem d_NC_when_30 : decode (yB Y_NC_when) 30 = .ok (.invokevirtual 260, 3) := by decide +kernel
theorem d_NC_when_33 : decode (yB Y_NC_when) 33 = .ok (.ireturn, 1) := by decide +kernel
def F_NC_when (n : Nat) (E : zE) (S : zS) (a0 : Nat) (x1 : Int32) (x2 : Int32) (M : zH) : Option (Int32 × zH) :=
  (F_NC_isField n E S x1 M).bind fun q_1 =>
  if q_1.1 = true then
    (F_NC_within n E S x2 0 400 q_1.2).bind fun q_3 =>
    if q_3.1 = true then
      (zgR S a0 10 12).bind fun b_5 =>
      (zgR S a0 10 0).bind fun b_6 =>
      (zck S b_5 4).bind fun u_7 =>
      (F_Pa_hoursUntil n E S b_5 b_6 x1 x2 q_3.2).bind fun q_8 =>
      some (q_8.1, q_8.2)
    else
      some ((-1), q_3.2)
  else
    some ((-1), q_1.2)
theorem K_NC_when (n : Nat) (E : zE) (S : zS) (a0 : Nat) (x1 : Int32) (x2 : Int32) (M : zH) (r : Int32) (M' : zH)  (h : F_NC_when n E S a0 x1 x2 M = some (r, M')) : zG E Y_NC_when (some (.int r), S, M') 0 [(0, .ref a0), (1, .int x1), (2, .int x2)] [] S M 0 0 := by
  unfold F_NC_when at h
  refine zi_iload_n 1 d_NC_when_0 rfl ?_
  obtain ⟨q_1, eq_1, h⟩ := zbind h
  refine zo_stat (k' := 0) (n' := 0) 4 [.int x1] [] [.int (bI q_1.1)] (C_NC_isField n E S x1 M q_1.1 q_1.2 eq_1) d_NC_when_1 tw_463 tw_461 tw_462 tw_1 dd_NC_isField ⟨Nat.le_of_ble_eq_true rfl, Nat.le_of_ble_eq_true rfl, Nat.le_of_ble_eq_true rfl, Nat.le_of_ble_eq_true rfl⟩ (Nat.le_of_ble_eq_true rfl) rfl rfl rfl rfl ?_
  refine zo_ifeqB d_NC_when_4 rfl 7 rfl (fun c_2 => ?_) (fun c_2 => ?_)
  · rw [if_neg c_2] at h
    refine zi_iconst (-1) d_NC_when_18 rfl ?_
    cases h
    exact zo_ret d_NC_when_19 (Nat.le_of_ble_eq_true rfl) (Nat.le_of_ble_eq_true rfl) rfl
  · rw [if_pos c_2] at h
    refine zi_iload_n 2 d_NC_when_7 rfl ?_
    refine zi_iconst 0 d_NC_when_8 rfl ?_
    refine zi_sipush 400 d_NC_when_9 rfl ?_
    obtain ⟨q_3, eq_3, h⟩ := zbind h
    refine zo_stat (k' := 0) (n' := 0) 15 [.int x2, .int 0, .int 400] [] [.int (bI q_3.1)] (C_NC_within n E S x2 0 400 q_1.2 q_3.1 q_3.2 eq_3) d_NC_when_12 tw_399 tw_397 tw_398 tw_1 dd_NC_within ⟨Nat.le_of_ble_eq_true rfl, Nat.le_of_ble_eq_true rfl, Nat.le_of_ble_eq_true rfl, Nat.le_of_ble_eq_true rfl⟩ (Nat.le_of_ble_eq_true rfl) rfl rfl rfl rfl ?_
    refine zo_ifneB d_NC_when_15 rfl 18 rfl (fun c_4 => ?_) (fun c_4 => ?_)
    · rw [if_pos c_4] at h
      refine zi_aload_n 0 d_NC_when_20 rfl ?_
      obtain ⟨b_5, eb_5, h⟩ := zbind h
      refine zo_getR 24 zkd_10 12 d_NC_when_21 eb_5 rfl tw_344 rfl ?_
      refine zi_aload_n 0 d_NC_when_24 rfl ?_
      obtain ⟨b_6, eb_6, h⟩ := zbind h
      refine zo_getR 28 zkd_10 0 d_NC_when_25 eb_6 rfl tw_332 rfl ?_
      refine zi_iload_n 1 d_NC_when_28 rfl ?_
      refine zi_iload_n 2 d_NC_when_29 rfl ?_
      obtain ⟨u_7, eu_7, h⟩ := zbind h
      obtain ⟨q_8, eq_8, h⟩ := zbind h
      refine zo_virt (k' := 0) (n' := 0) 33 [.ref b_6, .int x1, .int x2] [] [.int q_8.1] zkd_4 (zck_s eu_7) (C_Pa_hoursUntil n E S b_5 b_6 x1 x2 q_3.2 q_8.1 q_8.2 eq_8) d_NC_when_30 tw_981 tw_978 tw_979 tw_980 tw_12 dd_Pa_hoursUntil ⟨Nat.le_of_ble_eq_true rfl, Nat.le_of_ble_eq_true rfl, Nat.le_of_ble_eq_true rfl, Nat.le_of_ble_eq_true rfl⟩ (Nat.le_of_ble_eq_true rfl) rfl rfl rfl rfl ?_
      cases h
      exact zo_ret d_NC_when_33 (Nat.le_of_ble_eq_true rfl) (Nat.le_of_ble_eq_true rfl) rfl
    · rw [if_neg c_4] at h
      refine zi_iconst (-1) d_NC_when_18 rfl ?_
      cases h
      exact zo_ret d_NC_when_19 (Nat.le_of_ble_eq_true rfl) (Nat.le_of_ble_eq_true rfl) rfl
theorem C_NC_when (n : Nat) (E : zE) (S : zS) (a0 : Nat) (x1 : Int32) (x2 : Int32) (M : zH) (r : Int32) (M' : zH) (h : F_NC_when n E S a0 x1 x2 M = some (r, M')) : zC E Y_NC_when [.ref a0, .int x1, .int x2] S M (some (.int r), S, M') :=
  zC.of (Or.inl (show plainName "NightColander" = true by decide)) (Nat.le_of_ble_eq_true rfl) (trivial) (K_NC_when n E S a0 x1 x2 M r M' h)
theorem d_Pa_digitOfChoice_0 : decode (yB Y_Pa_digitOfChoice) 0 = .ok (.iload_n 1, 1) := by decide +kernel
theorem d_Pa_digitOfChoice_1 : decode (yB Y_Pa_digitOfChoice) 1 = .ok (.iconst 0, 1) := by decide +kernel
theorem d_Pa_digitOfChoice_2 : decode (yB Y_Pa_digitOfChoice) 2 = .ok (.bipush 9, 2) := by decide +kernel
theorem d_Pa_digitOfChoice_4 : decode (yB Y_Pa_digitOfChoice) 4 = .ok (.invokestatic 49, 3) := by decide +kernel
theorem d_Pa_digitOfChoice_7 : decode (yB Y_Pa_digitOfChoice) 7 = .ok (.ifCond .eq 17, 3) := by decide +kernel
theorem d_Pa_digitOfChoice_10 : decode (yB Y_Pa_digitOfChoice) 10 = .ok (.aload_n 0, 1) := by decide +kernel
theorem d_Pa_digitOfChoice_11 : decode (yB Y_Pa_digitOfChoice) 11 = .ok (.getfield 42, 3) := by decide +kernel
theorem d_Pa_digitOfChoice_14 : decode (yB Y_Pa_digitOfChoice) 14 = .ok (.iconst 3, 1) := by decide +kernel
theorem d_Pa_digitOfChoice_15 : decode (yB Y_Pa_digitOfChoice) 15 = .ok (.iload_n 1, 1) := by decide +kernel
theorem d_Pa_digitOfChoice_16 : decode (yB Y_Pa_digitOfChoice) 16 = .ok (.imul, 1) := by decide +kernel
theorem d_Pa_digitOfChoice_17 : decode (yB Y_Pa_digitOfChoice) 17 = .ok (.ishr, 1) := by decide +kernel
theorem d_Pa_digitOfChoice_18 : decode (yB Y_Pa_digitOfChoice) 18 = .ok (.bipush 7, 2) := by decide +kernel
theorem d_Pa_digitOfChoice_20 : decode (yB Y_Pa_digitOfChoice) 20 = .ok (.iand, 1) := by decide +kernel
theorem d_Pa_digitOfChoice_21 : decode (yB Y_Pa_digitOfChoice) 21 = .ok (.goto 4, 3) := by decide +kernel
theorem d_Pa_digitOfChoice_24 : decode (yB Y_Pa_digitOfChoice) 24 = .ok (.iconst (-1), 1) := by decide +kernel
theorem d_Pa_digitOfChoice_25 : decode (yB Y_Pa_digitOfChoice) 25 = .ok (.ireturn, 1) := by decide +kernel
def F_Pa_digitOfChoice (n : Nat) (E : zE) (S : zS) (a0 : Nat) (x1 : Int32) (M : zH) : Option (Int32 × zH) :=
  (F_NC_within n E S x1 0 9 M).bind fun q_1 =>
  if q_1.1 = true then
    (zgI S q_1.2 a0 4 9).bind fun v_3 =>
    some ((v_3 >>> ((3 * x1) &&& (31 : Int32))) &&& (7 : Int32), q_1.2)
  else
    some ((-1), q_1.2)
theorem K_Pa_digitOfChoice (n : Nat) (E : zE) (S : zS) (a0 : Nat) (x1 : Int32) (M : zH) (r : Int32) (M' : zH)  (h : F_Pa_digitOfChoice n E S a0 x1 M = some (r, M')) : zG E Y_Pa_digitOfChoice (some (.int r), S, M') 0 [(0, .ref a0), (1, .int x1)] [] S M 0 0 := by
  unfold F_Pa_digitOfChoice at h
  refine zi_iload_n 1 d_Pa_digitOfChoice_0 rfl ?_
  refine zi_iconst 0 d_Pa_digitOfChoice_1 rfl ?_
  refine zi_bipush 9 d_Pa_digitOfChoice_2 rfl ?_
  obtain ⟨q_1, eq_1, h⟩ := zbind h
  refine zo_statN (k' := 0) (n' := 0) 7 [.int x1, .int 0, .int 9] [] [.int (bI q_1.1)] (C_NC_within n E S x1 0 9 M q_1.1 q_1.2 eq_1) d_Pa_digitOfChoice_4 tw_399 (List.mem_of_getElem? (i := 12) rfl) tw_398 tw_1 dd_NC_within ⟨Nat.le_of_ble_eq_true rfl, Nat.le_of_ble_eq_true rfl, Nat.le_of_ble_eq_true rfl, Nat.le_of_ble_eq_true rfl⟩ (Nat.le_of_ble_eq_true rfl) rfl rfl rfl rfl ?_
  refine zo_ifeqB d_Pa_digitOfChoice_7 rfl 10 rfl (fun c_2 => ?_) (fun c_2 => ?_)
  · rw [if_neg c_2] at h
    refine zi_iconst (-1) d_Pa_digitOfChoice_24 rfl ?_
    cases h
    exact zo_ret d_Pa_digitOfChoice_25 (Nat.le_of_ble_eq_true rfl) (Nat.le_of_ble_eq_true rfl) rfl
  · rw [if_pos c_2] at h
    refine zi_aload_n 0 d_Pa_digitOfChoice_10 rfl ?_
    obtain ⟨v_3, ev_3, h⟩ := zbind h
    refine zo_getI 14 zkd_4 9 d_Pa_digitOfChoice_11 ev_3 rfl tw_308 rfl ?_
    refine zi_iconst 3 d_Pa_digitOfChoice_14 rfl ?_
    refine zi_iload_n 1 d_Pa_digitOfChoice_15 rfl ?_
    refine zi_imul d_Pa_digitOfChoice_16 ?_
    refine zi_ishr d_Pa_digitOfChoice_17 ?_
    refine zi_bipush 7 d_Pa_digitOfChoice_18 rfl ?_
    refine zi_iand d_Pa_digitOfChoice_20 ?_
    refine zi_goto (tgt := 25) d_Pa_digitOfChoice_21 rfl ?_
    cases h
    exact zo_ret d_Pa_digitOfChoice_25 (Nat.le_of_ble_eq_true rfl) (Nat.le_of_ble_eq_true rfl) rfl
theorem C_Pa_digitOfChoice (n : Nat) (E : zE) (S : zS) (a0 : Nat) (x1 : Int32) (M : zH) (r : Int32) (M' : zH) (h : F_Pa_digitOfChoice n E S a0 x1 M = some (r, M')) : zC E Y_Pa_digitOfChoice [.ref a0, .int x1] S M (some (.int r), S, M') :=
  zC.of (Or.inl (show plainName "NightColander$Paper" = true by decide)) (Nat.le_of_ble_eq_true rfl) (trivial) (K_Pa_digitOfChoice n E S a0 x1 M r M' h)
theorem d_Pa_catchOn_0 : decode (yB Y_Pa_catchOn) 0 = .ok (.aload_n 0, 1) := by decide +kernel
theorem d_Pa_catchOn_1 : decode (yB Y_Pa_catchOn) 1 = .ok (.getfield 12, 3) := by decide +kernel
theorem d_Pa_catchOn_4 : decode (yB Y_Pa_catchOn) 4 = .ok (.aload_n 1, 1) := by decide +kernel
theorem d_Pa_catchOn_5 : decode (yB Y_Pa_catchOn) 5 = .ok (.invokevirtual 53, 3) := by decide +kernel
theorem d_Pa_catchOn_8 : decode (yB Y_Pa_catchOn) 8 = .ok (.aload_n 0, 1) := by decide +kernel
theorem d_Pa_catchOn_9 : decode (yB Y_Pa_catchOn) 9 = .ok (.getfield 12, 3) := by decide +kernel
theorem d_Pa_catchOn_12 : decode (yB Y_Pa_catchOn) 12 = .ok (.getfield 91, 3) := by decide +kernel
theorem d_Pa_catchOn_15 : decode (yB Y_Pa_catchOn) 15 = .ok (.iload_n 2, 1) := by decide +kernel
theorem d_Pa_catchOn_16 : decode (yB Y_Pa_catchOn) 16 = .ok (.iload_n 3, 1) := by decide +kernel
theorem d_Pa_catchOn_17 : decode (yB Y_Pa_catchOn) 17 = .ok (.iastore, 1) := by decide +kernel
theorem d_Pa_catchOn_18 : decode (yB Y_Pa_catchOn) 18 = .ok (.iconst 0, 1) := by decide +kernel
theorem d_Pa_catchOn_19 : decode (yB Y_Pa_catchOn) 19 = .ok (.istore 5, 2) := by decide +kernel
theorem d_Pa_catchOn_21 : decode (yB Y_Pa_catchOn) 21 = .ok (.iconst 0, 1) := by decide +kernel
theorem d_Pa_catchOn_22 : decode (yB Y_Pa_catchOn) 22 = .ok (.istore 6, 2) := by decide +kernel
theorem d_Pa_catchOn_24 : decode (yB Y_Pa_catchOn) 24 = .ok (.iload 6, 2) := by decide +kernel
theorem d_Pa_catchOn_26 : decode (yB Y_Pa_catchOn) 26 = .ok (.iload 4, 2) := by decide +kernel
theorem d_Pa_catchOn_28 : decode (yB Y_Pa_catchOn) 28 = .ok (.if_icmp .ge 120, 3) := by decide +kernel
theorem d_Pa_catchOn_31 : decode (yB Y_Pa_catchOn) 31 = .ok (.iload 6, 2) := by decide +kernel
theorem d_Pa_catchOn_33 : decode (yB Y_Pa_catchOn) 33 = .ok (.bipush 9, 2) := by decide +kernel
theorem d_Pa_catchOn_35 : decode (yB Y_Pa_catchOn) 35 = .ok (.if_icmp .ge 113, 3) := by decide +kernel
theorem d_Pa_catchOn_38 : decode (yB Y_Pa_catchOn) 38 = .ok (.aload_n 0, 1) := by decide +kernel
theorem d_Pa_catchOn_39 : decode (yB Y_Pa_catchOn) 39 = .ok (.getfield 12, 3) := by decide +kernel
theorem d_Pa_catchOn_42 : decode (yB Y_Pa_catchOn) 42 = .ok (.getfield 94, 3) := by decide +kernel
theorem d_Pa_catchOn_45 : decode (yB Y_Pa_catchOn) 45 = .ok (.iload_n 2, 1) := by decide +kernel
theorem d_Pa_catchOn_46 : decode (yB Y_Pa_catchOn) 46 = .ok (.iaload, 1) := by decide +kernel
theorem d_Pa_catchOn_47 : decode (yB Y_Pa_catchOn) 47 = .ok (.aload_n 0, 1) := by decide +kernel
theorem d_Pa_catchOn_48 : decode (yB Y_Pa_catchOn) 48 = .ok (.getfield 12, 3) := by decide +kernel
theorem d_Pa_catchOn_51 : decode (yB Y_Pa_catchOn) 51 = .ok (.getfield 97, 3) := by decide +kernel
theorem d_Pa_catchOn_54 : decode (yB Y_Pa_catchOn) 54 = .ok (.iload_n 2, 1) := by decide +kernel
theorem d_Pa_catchOn_55 : decode (yB Y_Pa_catchOn) 55 = .ok (.iaload, 1) := by decide +kernel
theorem d_Pa_catchOn_56 : decode (yB Y_Pa_catchOn) 56 = .ok (.isub, 1) := by decide +kernel
theorem d_Pa_catchOn_57 : decode (yB Y_Pa_catchOn) 57 = .ok (.istore 7, 2) := by decide +kernel
theorem d_Pa_catchOn_59 : decode (yB Y_Pa_catchOn) 59 = .ok (.iload 7, 2) := by decide +kernel
theorem d_Pa_catchOn_61 : decode (yB Y_Pa_catchOn) 61 = .ok (.aload_n 0, 1) := by decide +kernel
theorem d_Pa_catchOn_62 : decode (yB Y_Pa_catchOn) 62 = .ok (.getfield 22, 3) := by decide +kernel
theorem d_Pa_catchOn_65 : decode (yB Y_Pa_catchOn) 65 = .ok (.iload 6, 2) := by decide +kernel
theorem d_Pa_catchOn_67 : decode (yB Y_Pa_catchOn) 67 = .ok (.bipush 8, 2) := by decide +kernel
theorem d_Pa_catchOn_69 : decode (yB Y_Pa_catchOn) 69 = .ok (.imul, 1) := by decide +kernel
theorem d_Pa_catchOn_70 : decode (yB Y_Pa_catchOn) 70 = .ok (.iload_n 3, 1) := by decide +kernel
theorem d_Pa_catchOn_71 : decode (yB Y_Pa_catchOn) 71 = .ok (.iadd, 1) := by decide +kernel
theorem d_Pa_catchOn_72 : decode (yB Y_Pa_catchOn) 72 = .ok (.iaload, 1) := by decide +kernel
theorem d_Pa_catchOn_73 : decode (yB Y_Pa_catchOn) 73 = .ok (.invokestatic 100, 3) := by decide +kernel
theorem d_Pa_catchOn_76 : decode (yB Y_Pa_catchOn) 76 = .ok (.istore 8, 2) := by decide +kernel
theorem d_Pa_catchOn_78 : decode (yB Y_Pa_catchOn) 78 = .ok (.iload 5, 2) := by decide +kernel
theorem d_Pa_catchOn_80 : decode (yB Y_Pa_catchOn) 80 = .ok (.iload 8, 2) := by decide +kernel
theorem d_Pa_catchOn_82 : decode (yB Y_Pa_catchOn) 82 = .ok (.iadd, 1) := by decide +kernel
theorem d_Pa_catchOn_83 : decode (yB Y_Pa_catchOn) 83 = .ok (.istore 5, 2) := by decide +kernel
theorem d_Pa_catchOn_85 : decode (yB Y_Pa_catchOn) 85 = .ok (.aload_n 0, 1) := by decide +kernel
theorem d_Pa_catchOn_86 : decode (yB Y_Pa_catchOn) 86 = .ok (.getfield 12, 3) := by decide +kernel
theorem d_Pa_catchOn_89 : decode (yB Y_Pa_catchOn) 89 = .ok (.getfield 97, 3) := by decide +kernel
theorem d_Pa_catchOn_92 : decode (yB Y_Pa_catchOn) 92 = .ok (.iload_n 2, 1) := by decide +kernel
theorem d_Pa_catchOn_93 : decode (yB Y_Pa_catchOn) 93 = .ok (.dup2, 1) := by decide +kernel
theorem d_Pa_catchOn_94 : decode (yB Y_Pa_catchOn) 94 = .ok (.iaload, 1) := by decide +kernel
theorem d_Pa_catchOn_95 : decode (yB Y_Pa_catchOn) 95 = .ok (.iload 8, 2) := by decide +kernel
theorem d_Pa_catchOn_97 : decode (yB Y_Pa_catchOn) 97 = .ok (.iadd, 1) := by decide +kernel
theorem d_Pa_catchOn_98 : decode (yB Y_Pa_catchOn) 98 = .ok (.iastore, 1) := by decide +kernel
theorem d_Pa_catchOn_99 : decode (yB Y_Pa_catchOn) 99 = .ok (.aload_n 0, 1) := by decide +kernel
theorem d_Pa_catchOn_100 : decode (yB Y_Pa_catchOn) 100 = .ok (.getfield 12, 3) := by decide +kernel
theorem d_Pa_catchOn_103 : decode (yB Y_Pa_catchOn) 103 = .ok (.getfield 97, 3) := by decide +kernel
theorem d_Pa_catchOn_106 : decode (yB Y_Pa_catchOn) 106 = .ok (.iload_n 2, 1) := by decide +kernel
theorem d_Pa_catchOn_107 : decode (yB Y_Pa_catchOn) 107 = .ok (.iconst 0, 1) := by decide +kernel
theorem d_Pa_catchOn_108 : decode (yB Y_Pa_catchOn) 108 = .ok (.aload_n 0, 1) := by decide +kernel
theorem d_Pa_catchOn_109 : decode (yB Y_Pa_catchOn) 109 = .ok (.getfield 12, 3) := by decide +kernel
theorem d_Pa_catchOn_112 : decode (yB Y_Pa_catchOn) 112 = .ok (.getfield 97, 3) := by decide +kernel
theorem d_Pa_catchOn_115 : decode (yB Y_Pa_catchOn) 115 = .ok (.iload_n 2, 1) := by decide +kernel
theorem d_Pa_catchOn_116 : decode (yB Y_Pa_catchOn) 116 = .ok (.iaload, 1) := by decide +kernel
theorem d_Pa_catchOn_117 : decode (yB Y_Pa_catchOn) 117 = .ok (.aload_n 0, 1) := by decide +kernel
theorem d_Pa_catchOn_118 : decode (yB Y_Pa_catchOn) 118 = .ok (.getfield 45, 3) := by decide +kernel
theorem d_Pa_catchOn_121 : decode (yB Y_Pa_catchOn) 121 = .ok (.aload_n 0, 1) := by decide +kernel
theorem d_Pa_catchOn_122 : decode (yB Y_Pa_catchOn) 122 = .ok (.getfield 12, 3) := by decide +kernel
theorem d_Pa_catchOn_125 : decode (yB Y_Pa_catchOn) 125 = .ok (.iload_n 2, 1) := by decide +kernel
theorem d_Pa_catchOn_126 : decode (yB Y_Pa_catchOn) 126 = .ok (.invokevirtual 103, 3) := by decide +kernel
theorem d_Pa_catchOn_129 : decode (yB Y_Pa_catchOn) 129 = .ok (.isub, 1) := by decide +kernel
theorem d_Pa_catchOn_130 : decode (yB Y_Pa_catchOn) 130 = .ok (.invokestatic 67, 3) := by decide +kernel
theorem d_Pa_catchOn_133 : decode (yB Y_Pa_catchOn) 133 = .ok (.iastore, 1) := by decide +kernel
theorem d_Pa_catchOn_134 : decode (yB Y_Pa_catchOn) 134 = .ok (.aload_n 0, 1) := by decide +kernel
theorem d_Pa_catchOn_135 : decode (yB Y_Pa_catchOn) 135 = .ok (.getfield 12, 3) := by decide +kernel
theorem d_Pa_catchOn_138 : decode (yB Y_Pa_catchOn) 138 = .ok (.iconst 1, 1) := by decide +kernel
theorem d_Pa_catchOn_139 : decode (yB Y_Pa_catchOn) 139 = .ok (.invokevirtual 63, 3) := by decide +kernel
theorem d_Pa_catchOn_142 : decode (yB Y_Pa_catchOn) 142 = .ok (.iinc 6 1, 3) := by decide +kernel
theorem d_Pa_catchOn_145 : decode (yB Y_Pa_catchOn) 145 = .ok (.goto (-121), 3) := by decide +kernel
theorem d_Pa_catchOn_148 : decode (yB Y_Pa_catchOn) 148 = .ok (.iload 5, 2) := by decide +kernel
theorem d_Pa_catchOn_150 : decode (yB Y_Pa_catchOn) 150 = .ok (.ireturn, 1) := by decide +kernel
def F_Pa_catchOn_L24 (n : Nat) (E : zE) (S : zS) (r24 : Nat × Int32 × Int32 × Int32 × Int32 × Int32 × zH → Option (Int32 × zH)) (a0 : Nat) (x2 : Int32) (x3 : Int32) (x4 : Int32) (x5 : Int32) (x6 : Int32) (M : zH) : Option (Int32 × zH) :=
  if x4 ≤ x6 then
    some (x5, M)
  else
    if 9 ≤ x6 then
      some (x5, M)
    else
      (zgR S a0 4 1).bind fun b_3 =>
      (zgR S b_3 3 3).bind fun b_4 =>
      (zldI S M b_4 x2).bind fun v_5 =>
      (zgR S b_3 3 4).bind fun b_6 =>
      (zldI S M b_6 x2).bind fun v_7 =>
      (zgR S a0 4 3).bind fun b_8 =>
      (zldI S M b_8 ((x6 * 8) + x3)).bind fun v_9 =>
      (F_Jm_min n E S (v_5 - v_7) v_9 M).bind fun q_10 =>
      (zldI S q_10.2 b_6 x2).bind fun v_11 =>
      (zstI S q_10.2 b_6 x2 (v_11 + q_10.1)).bind fun m_12 =>
      (zldI S m_12 b_6 x2).bind fun v_13 =>
      (zgR S a0 4 0).bind fun b_14 =>
      (zck S b_14 1).bind fun u_15 =>
      (F_Ju_leakOf n E S b_14 b_3 x2 m_12).bind fun q_16 =>
      (F_Jm_max n E S 0 (v_13 - q_16.1) q_16.2).bind fun q_17 =>
      (zstI S q_17.2 b_6 x2 q_17.1).bind fun m_18 =>
      (F_Ni_turnAll n E S b_3 1 m_18).bind fun q_19 =>
      r24 (a0, x2, x3, x4, x5 + q_10.1, x6 + 1, q_19)
def F_Pa_catchOn_b24 (n : Nat) (E : zE) (S : zS) : Nat × Int32 × Int32 × Int32 × Int32 × Int32 × zH → Option (Int32 × zH) := zfix (fun r24 s => F_Pa_catchOn_L24 n E S r24 s.1 s.2.1 s.2.2.1 s.2.2.2.1 s.2.2.2.2.1 s.2.2.2.2.2.1 s.2.2.2.2.2.2) n
def F_Pa_catchOn (n : Nat) (E : zE) (S : zS) (a0 : Nat) (a1 : Nat) (x2 : Int32) (x3 : Int32) (x4 : Int32) (M : zH) : Option (Int32 × zH) :=
  (zgR S a0 4 1).bind fun b_20 =>
  (zck S b_20 3).bind fun u_21 =>
  (F_Ni_copyFrom n E S b_20 a1 M).bind fun q_22 =>
  (zgR S b_20 3 5).bind fun b_23 =>
  (zstI S q_22 b_23 x2 x3).bind fun m_24 =>
  F_Pa_catchOn_b24 n E S (a0, x2, x3, x4, 0, 0, m_24)
theorem K_Pa_catchOn_L24 (n : Nat) (E : zE) (S : zS) (r24 : Nat × Int32 × Int32 × Int32 × Int32 × Int32 × zH → Option (Int32 × zH)) (a0 : Nat) (x2 : Int32) (x3 : Int32) (x4 : Int32) (x5 : Int32) (x6 : Int32) (M : zH) (r : Int32) (M' : zH) (hr24 : ∀ (a0 : Nat) (x2 : Int32) (x3 : Int32) (x4 : Int32) (x5 : Int32) (x6 : Int32) (M : zH), r24 (a0, x2, x3, x4, x5, x6, M) = some (r, M') → zG E Y_Pa_catchOn (some (.int r), S, M') 24 [(0, .ref a0), (2, .int x2), (3, .int x3), (4, .int x4), (5, .int x5), (6, .int x6)] [] S M 0 0) (h : F_Pa_catchOn_L24 n E S r24 a0 x2 x3 x4 x5 x6 M = some (r, M')) : zG E Y_Pa_catchOn (some (.int r), S, M') 24 [(0, .ref a0), (2, .int x2), (3, .int x3), (4, .int x4), (5, .int x5), (6, .int x6)] [] S M 0 0 := by
  unfold F_Pa_catchOn_L24 at h
  refine zi_iload 5 d_Pa_catchOn_24 rfl ?_
  refine zi_iload 3 d_Pa_catchOn_26 rfl ?_
  refine zi_icmp_ge (tgt := 148) d_Pa_catchOn_28 rfl (fun c_1 => ?_) (fun c_1 => ?_)
  · rw [if_pos c_1] at h
    refine zi_iload 4 d_Pa_catchOn_148 rfl ?_
    cases h
    exact zo_ret d_Pa_catchOn_150 (Nat.le_of_ble_eq_true rfl) (Nat.le_of_ble_eq_true rfl) rfl
  · rw [if_neg c_1] at h
    refine zi_iload 5 d_Pa_catchOn_31 rfl ?_
    refine zi_bipush 9 d_Pa_catchOn_33 rfl ?_
    refine zi_icmp_ge (tgt := 148) d_Pa_catchOn_35 rfl (fun c_2 => ?_) (fun c_2 => ?_)
    · rw [if_pos c_2] at h
      refine zi_iload 4 d_Pa_catchOn_148 rfl ?_
      cases h
      exact zo_ret d_Pa_catchOn_150 (Nat.le_of_ble_eq_true rfl) (Nat.le_of_ble_eq_true rfl) rfl
    · rw [if_neg c_2] at h
      refine zi_aload_n 0 d_Pa_catchOn_38 rfl ?_
      obtain ⟨b_3, eb_3, h⟩ := zbind h
      refine zo_getR 42 zkd_4 1 d_Pa_catchOn_39 eb_3 rfl tw_299 rfl ?_
      obtain ⟨b_4, eb_4, h⟩ := zbind h
      refine zo_getR 45 zkd_3 3 d_Pa_catchOn_42 eb_4 rfl tw_58 rfl ?_
      refine zi_iload_n 1 d_Pa_catchOn_45 rfl ?_
      obtain ⟨v_5, ev_5, h⟩ := zbind h
      refine zo_iald 47 d_Pa_catchOn_46 ev_5 rfl ?_
      refine zi_aload_n 0 d_Pa_catchOn_47 rfl ?_
      refine zo_getR 51 zkd_4 1 d_Pa_catchOn_48 eb_3 rfl tw_299 rfl ?_
      obtain ⟨b_6, eb_6, h⟩ := zbind h
      refine zo_getR 54 zkd_3 4 d_Pa_catchOn_51 eb_6 rfl tw_65 rfl ?_
      refine zi_iload_n 1 d_Pa_catchOn_54 rfl ?_
      obtain ⟨v_7, ev_7, h⟩ := zbind h
      refine zo_iald 56 d_Pa_catchOn_55 ev_7 rfl ?_
      refine zi_isub d_Pa_catchOn_56 ?_
      refine zi_istore [(7, .int (v_5 - v_7)), (0, .ref a0), (2, .int x2), (3, .int x3), (4, .int x4), (5, .int x5), (6, .int x6)] d_Pa_catchOn_57 (by decide) rfl ?_
      refine zi_iload 0 d_Pa_catchOn_59 rfl ?_
      refine zi_aload_n 1 d_Pa_catchOn_61 rfl ?_
      obtain ⟨b_8, eb_8, h⟩ := zbind h
      refine zo_getR 65 zkd_4 3 d_Pa_catchOn_62 eb_8 rfl tw_301 rfl ?_
      refine zi_iload 6 d_Pa_catchOn_65 rfl ?_
      refine zi_bipush 8 d_Pa_catchOn_67 rfl ?_
      refine zi_imul d_Pa_catchOn_69 ?_
      refine zi_iload_n 3 d_Pa_catchOn_70 rfl ?_
      refine zi_iadd d_Pa_catchOn_71 ?_
      obtain ⟨v_9, ev_9, h⟩ := zbind h
      refine zo_iald 73 d_Pa_catchOn_72 ev_9 rfl ?_
      obtain ⟨q_10, eq_10, h⟩ := zbind h
      refine zo_stat (k' := 0) (n' := 0) 76 [.int (v_5 - v_7), .int v_9] [] [.int q_10.1] (C_Jm_min n E S (v_5 - v_7) v_9 M q_10.1 q_10.2 eq_10) d_Pa_catchOn_73 tw_437 tw_1002 tw_436 tw_14 dd_Jm_min ⟨Nat.le_of_ble_eq_true rfl, Nat.le_of_ble_eq_true rfl, Nat.le_of_ble_eq_true rfl, Nat.le_of_ble_eq_true rfl⟩ (Nat.le_of_ble_eq_true rfl) rfl rfl rfl rfl ?_
      refine zi_istore [(8, .int q_10.1), (7, .int (v_5 - v_7)), (0, .ref a0), (2, .int x2), (3, .int x3), (4, .int x4), (5, .int x5), (6, .int x6)] d_Pa_catchOn_76 (by decide) rfl ?_
      refine zi_iload 6 d_Pa_catchOn_78 rfl ?_
      refine zi_iload 0 d_Pa_catchOn_80 rfl ?_
      refine zi_iadd d_Pa_catchOn_82 ?_
      refine zi_istore [(5, .int (x5 + q_10.1)), (8, .int q_10.1), (7, .int (v_5 - v_7)), (0, .ref a0), (2, .int x2), (3, .int x3), (4, .int x4), (6, .int x6)] d_Pa_catchOn_83 (by decide) rfl ?_
      refine zi_aload_n 3 d_Pa_catchOn_85 rfl ?_
      refine zo_getR 89 zkd_4 1 d_Pa_catchOn_86 eb_3 rfl tw_299 rfl ?_
      refine zo_getR 92 zkd_3 4 d_Pa_catchOn_89 eb_6 rfl tw_65 rfl ?_
      refine zi_iload_n 4 d_Pa_catchOn_92 rfl ?_
      refine zi_dup2 d_Pa_catchOn_93 rfl rfl ?_
      obtain ⟨v_11, ev_11, h⟩ := zbind h
      refine zo_iald 95 d_Pa_catchOn_94 ev_11 rfl ?_
      refine zi_iload 1 d_Pa_catchOn_95 rfl ?_
      refine zi_iadd d_Pa_catchOn_97 ?_
      obtain ⟨m_12, em_12, h⟩ := zbind h
      refine zo_iast 99 d_Pa_catchOn_98 em_12 rfl ?_
      refine zi_aload_n 3 d_Pa_catchOn_99 rfl ?_
      refine zo_getR 103 zkd_4 1 d_Pa_catchOn_100 eb_3 rfl tw_299 rfl ?_
      refine zo_getR 106 zkd_3 4 d_Pa_catchOn_103 eb_6 rfl tw_65 rfl ?_
      refine zi_iload_n 4 d_Pa_catchOn_106 rfl ?_
      refine zi_iconst 0 d_Pa_catchOn_107 rfl ?_
      refine zi_aload_n 3 d_Pa_catchOn_108 rfl ?_
      refine zo_getR 112 zkd_4 1 d_Pa_catchOn_109 eb_3 rfl tw_299 rfl ?_
      refine zo_getR 115 zkd_3 4 d_Pa_catchOn_112 eb_6 rfl tw_65 rfl ?_
      refine zi_iload_n 4 d_Pa_catchOn_115 rfl ?_
      obtain ⟨v_13, ev_13, h⟩ := zbind h
      refine zo_iald 117 d_Pa_catchOn_116 ev_13 rfl ?_
      refine zi_aload_n 3 d_Pa_catchOn_117 rfl ?_
      obtain ⟨b_14, eb_14, h⟩ := zbind h
      refine zo_getR 121 zkd_4 0 d_Pa_catchOn_118 eb_14 rfl tw_298 rfl ?_
      refine zi_aload_n 3 d_Pa_catchOn_121 rfl ?_
      refine zo_getR 125 zkd_4 1 d_Pa_catchOn_122 eb_3 rfl tw_299 rfl ?_
      refine zi_iload_n 4 d_Pa_catchOn_125 rfl ?_
      obtain ⟨u_15, eu_15, h⟩ := zbind h
      obtain ⟨q_16, eq_16, h⟩ := zbind h
      refine zo_virt (k' := 0) (n' := 0) 129 [.ref b_3, .int x2] [.int v_13, .int 0, .int x2, .ref b_6] [.int q_16.1, .int v_13, .int 0, .int x2, .ref b_6] zkd_1 (zck_s eu_15) (C_Ju_leakOf n E S b_14 b_3 x2 m_12 q_16.1 q_16.2 eq_16) d_Pa_catchOn_126 tw_484 tw_1003 tw_482 tw_483 tw_8 dd_Ju_leakOf ⟨Nat.le_of_ble_eq_true rfl, Nat.le_of_ble_eq_true rfl, Nat.le_of_ble_eq_true rfl, Nat.le_of_ble_eq_true rfl⟩ (Nat.le_of_ble_eq_true rfl) rfl rfl rfl rfl ?_
      refine zi_isub d_Pa_catchOn_129 ?_
      obtain ⟨q_17, eq_17, h⟩ := zbind h
      refine zo_stat (k' := 0) (n' := 0) 133 [.int 0, .int (v_13 - q_16.1)] [.int x2, .ref b_6] [.int q_17.1, .int x2, .ref b_6] (C_Jm_max n E S 0 (v_13 - q_16.1) q_16.2 q_17.1 q_17.2 eq_17) d_Pa_catchOn_130 tw_440 tw_1004 tw_439 tw_14 dd_Jm_max ⟨Nat.le_of_ble_eq_true rfl, Nat.le_of_ble_eq_true rfl, Nat.le_of_ble_eq_true rfl, Nat.le_of_ble_eq_true rfl⟩ (Nat.le_of_ble_eq_true rfl) rfl rfl rfl rfl ?_
      obtain ⟨m_18, em_18, h⟩ := zbind h
      refine zo_iast 134 d_Pa_catchOn_133 em_18 rfl ?_
      refine zi_aload_n 3 d_Pa_catchOn_134 rfl ?_
      refine zo_getR 138 zkd_4 1 d_Pa_catchOn_135 eb_3 rfl tw_299 rfl ?_
      refine zi_iconst 1 d_Pa_catchOn_138 rfl ?_
      obtain ⟨q_19, eq_19, h⟩ := zbind h
      refine zo_virt (k' := 0) (n' := 0) 142 [.int 1] [] [] zkd_3 (zgR_s eb_4).1 (C_Ni_turnAll n E S b_3 1 m_18 q_19 eq_19) d_Pa_catchOn_139 tw_927 tw_984 tw_925 tw_926 tw_2 dd_Ni_turnAll ⟨Nat.le_of_ble_eq_true rfl, Nat.le_of_ble_eq_true rfl, Nat.le_of_ble_eq_true rfl, Nat.le_of_ble_eq_true rfl⟩ (Nat.le_of_ble_eq_true rfl) rfl rfl rfl rfl ?_
      refine zi_iinc 7 (x6 + 1) [(6, .int (x6 + 1)), (5, .int (x5 + q_10.1)), (8, .int q_10.1), (7, .int (v_5 - v_7)), (0, .ref a0), (2, .int x2), (3, .int x3), (4, .int x4)] d_Pa_catchOn_142 rfl rfl (by decide) rfl ?_
      refine zi_goto (tgt := 24) d_Pa_catchOn_145 rfl ?_
      refine zi_lo [(0, .ref a0), (2, .int x2), (3, .int x3), (4, .int x4), (5, .int (x5 + q_10.1)), (6, .int (x6 + 1))] [4, 5, 6, 7, 1, 0] rfl ?_
      exact hr24 a0 x2 x3 x4 (x5 + q_10.1) (x6 + 1) q_19 h
theorem K_Pa_catchOn_b24 (n : Nat) (E : zE) (S : zS) (a0 : Nat) (x2 : Int32) (x3 : Int32) (x4 : Int32) (x5 : Int32) (x6 : Int32) (M : zH) (r : Int32) (M' : zH)  (h : F_Pa_catchOn_b24 n E S (a0, x2, x3, x4, x5, x6, M) = some (r, M')) : zG E Y_Pa_catchOn (some (.int r), S, M') 24 [(0, .ref a0), (2, .int x2), (3, .int x3), (4, .int x4), (5, .int x5), (6, .int x6)] [] S M 0 0 := by
  have key : ∀ (k : Nat) (a0 : Nat) (x2 : Int32) (x3 : Int32) (x4 : Int32) (x5 : Int32) (x6 : Int32) (M : zH), zfix (fun r24 s => F_Pa_catchOn_L24 n E S r24 s.1 s.2.1 s.2.2.1 s.2.2.2.1 s.2.2.2.2.1 s.2.2.2.2.2.1 s.2.2.2.2.2.2) k (a0, x2, x3, x4, x5, x6, M) = some (r, M') → zG E Y_Pa_catchOn (some (.int r), S, M') 24 [(0, .ref a0), (2, .int x2), (3, .int x3), (4, .int x4), (5, .int x5), (6, .int x6)] [] S M 0 0 := by
    intro k
    induction k with
    | zero => intro a0 x2 x3 x4 x5 x6 M h; cases h
    | succ k ih => intro a0 x2 x3 x4 x5 x6 M h; exact K_Pa_catchOn_L24 n E S _ a0 x2 x3 x4 x5 x6 M r M'  (fun a0 x2 x3 x4 x5 x6 M h => ih a0 x2 x3 x4 x5 x6 M h) h
  exact key n a0 x2 x3 x4 x5 x6 M h
theorem K_Pa_catchOn (n : Nat) (E : zE) (S : zS) (a0 : Nat) (a1 : Nat) (x2 : Int32) (x3 : Int32) (x4 : Int32) (M : zH) (r : Int32) (M' : zH)  (h : F_Pa_catchOn n E S a0 a1 x2 x3 x4 M = some (r, M')) : zG E Y_Pa_catchOn (some (.int r), S, M') 0 [(0, .ref a0), (1, .ref a1), (2, .int x2), (3, .int x3), (4, .int x4)] [] S M 0 0 := by
  unfold F_Pa_catchOn at h
  refine zi_aload_n 0 d_Pa_catchOn_0 rfl ?_
  obtain ⟨b_20, eb_20, h⟩ := zbind h
  refine zo_getR 4 zkd_4 1 d_Pa_catchOn_1 eb_20 rfl tw_299 rfl ?_
  refine zi_aload_n 1 d_Pa_catchOn_4 rfl ?_
  obtain ⟨u_21, eu_21, h⟩ := zbind h
  obtain ⟨q_22, eq_22, h⟩ := zbind h
  refine zo_virt (k' := 0) (n' := 0) 8 [.ref a1] [] [] zkd_3 (zck_s eu_21) (C_Ni_copyFrom n E S b_20 a1 M q_22 eq_22) d_Pa_catchOn_5 tw_865 tw_982 tw_863 tw_864 tw_2 dd_Ni_copyFrom ⟨Nat.le_of_ble_eq_true rfl, Nat.le_of_ble_eq_true rfl, Nat.le_of_ble_eq_true rfl, Nat.le_of_ble_eq_true rfl⟩ (Nat.le_of_ble_eq_true rfl) rfl rfl rfl rfl ?_
  refine zi_aload_n 0 d_Pa_catchOn_8 rfl ?_
  refine zo_getR 12 zkd_4 1 d_Pa_catchOn_9 eb_20 rfl tw_299 rfl ?_
  obtain ⟨b_23, eb_23, h⟩ := zbind h
  refine zo_getR 15 zkd_3 5 d_Pa_catchOn_12 eb_23 rfl tw_72 rfl ?_
  refine zi_iload_n 2 d_Pa_catchOn_15 rfl ?_
  refine zi_iload_n 3 d_Pa_catchOn_16 rfl ?_
  obtain ⟨m_24, em_24, h⟩ := zbind h
  refine zo_iast 18 d_Pa_catchOn_17 em_24 rfl ?_
  refine zi_iconst 0 d_Pa_catchOn_18 rfl ?_
  refine zi_istore [(5, .int 0), (0, .ref a0), (1, .ref a1), (2, .int x2), (3, .int x3), (4, .int x4)] d_Pa_catchOn_19 (by decide) rfl ?_
  refine zi_iconst 0 d_Pa_catchOn_21 rfl ?_
  refine zi_istore [(6, .int 0), (5, .int 0), (0, .ref a0), (1, .ref a1), (2, .int x2), (3, .int x3), (4, .int x4)] d_Pa_catchOn_22 (by decide) rfl ?_
  refine zi_lo [(0, .ref a0), (2, .int x2), (3, .int x3), (4, .int x4), (5, .int 0), (6, .int 0)] [2, 4, 5, 6, 1, 0] rfl ?_
  exact K_Pa_catchOn_b24 n E S a0 x2 x3 x4 0 0 m_24 r M'  h
theorem C_Pa_catchOn (n : Nat) (E : zE) (S : zS) (a0 : Nat) (a1 : Nat) (x2 : Int32) (x3 : Int32) (x4 : Int32) (M : zH) (r : Int32) (M' : zH) (h : F_Pa_catchOn n E S a0 a1 x2 x3 x4 M = some (r, M')) : zC E Y_Pa_catchOn [.ref a0, .ref a1, .int x2, .int x3, .int x4] S M (some (.int r), S, M') :=
  zC.of (Or.inl (show plainName "NightColander$Paper" = true by decide)) (Nat.le_of_ble_eq_true rfl) (trivial) (K_Pa_catchOn n E S a0 a1 x2 x3 x4 M r M' h)
theorem d_Pa_caughtByRow_0 : decode (yB Y_Pa_caughtByRow) 0 = .ok (.iconst 0, 1) := by decide +kernel
theorem d_Pa_caughtByRow_1 : decode (yB Y_Pa_caughtByRow) 1 = .ok (.istore_n 3, 1) := by decide +kernel
theorem d_Pa_caughtByRow_2 : decode (yB Y_Pa_caughtByRow) 2 = .ok (.iconst 0, 1) := by decide +kernel
theorem d_Pa_caughtByRow_3 : decode (yB Y_Pa_caughtByRow) 3 = .ok (.istore 4, 2) := by decide +kernel
theorem d_Pa_caughtByRow_5 : decode (yB Y_Pa_caughtByRow) 5 = .ok (.iconst 0, 1) := by decide +kernel
theorem d_Pa_caughtByRow_6 : decode (yB Y_Pa_caughtByRow) 6 = .ok (.istore 5, 2) := by decide +kernel
theorem d_Pa_caughtByRow_8 : decode (yB Y_Pa_caughtByRow) 8 = .ok (.iload 5, 2) := by decide +kernel
theorem d_Pa_caughtByRow_10 : decode (yB Y_Pa_caughtByRow) 10 = .ok (.iload_n 1, 1) := by decide +kernel
theorem d_Pa_caughtByRow_11 : decode (yB Y_Pa_caughtByRow) 11 = .ok (.if_icmp .ge 71, 3) := by decide +kernel
theorem d_Pa_caughtByRow_14 : decode (yB Y_Pa_caughtByRow) 14 = .ok (.iload_n 2, 1) := by decide +kernel
theorem d_Pa_caughtByRow_15 : decode (yB Y_Pa_caughtByRow) 15 = .ok (.iconst 3, 1) := by decide +kernel
theorem d_Pa_caughtByRow_16 : decode (yB Y_Pa_caughtByRow) 16 = .ok (.iload_n 1, 1) := by decide +kernel
theorem d_Pa_caughtByRow_17 : decode (yB Y_Pa_caughtByRow) 17 = .ok (.iconst 1, 1) := by decide +kernel
theorem d_Pa_caughtByRow_18 : decode (yB Y_Pa_caughtByRow) 18 = .ok (.isub, 1) := by decide +kernel
theorem d_Pa_caughtByRow_19 : decode (yB Y_Pa_caughtByRow) 19 = .ok (.iload 5, 2) := by decide +kernel
theorem d_Pa_caughtByRow_21 : decode (yB Y_Pa_caughtByRow) 21 = .ok (.isub, 1) := by decide +kernel
theorem d_Pa_caughtByRow_22 : decode (yB Y_Pa_caughtByRow) 22 = .ok (.imul, 1) := by decide +kernel
theorem d_Pa_caughtByRow_23 : decode (yB Y_Pa_caughtByRow) 23 = .ok (.ishr, 1) := by decide +kernel
theorem d_Pa_caughtByRow_24 : decode (yB Y_Pa_caughtByRow) 24 = .ok (.bipush 7, 2) := by decide +kernel
theorem d_Pa_caughtByRow_26 : decode (yB Y_Pa_caughtByRow) 26 = .ok (.iand, 1) := by decide +kernel
theorem d_Pa_caughtByRow_27 : decode (yB Y_Pa_caughtByRow) 27 = .ok (.istore 6, 2) := by decide +kernel
theorem d_Pa_caughtByRow_29 : decode (yB Y_Pa_caughtByRow) 29 = .ok (.aload_n 0, 1) := by decide +kernel
theorem d_Pa_caughtByRow_30 : decode (yB Y_Pa_caughtByRow) 30 = .ok (.getfield 25, 3) := by decide +kernel
theorem d_Pa_caughtByRow_33 : decode (yB Y_Pa_caughtByRow) 33 = .ok (.iload 5, 2) := by decide +kernel
theorem d_Pa_caughtByRow_35 : decode (yB Y_Pa_caughtByRow) 35 = .ok (.bipush 8, 2) := by decide +kernel
theorem d_Pa_caughtByRow_37 : decode (yB Y_Pa_caughtByRow) 37 = .ok (.imul, 1) := by decide +kernel
theorem d_Pa_caughtByRow_38 : decode (yB Y_Pa_caughtByRow) 38 = .ok (.iload 6, 2) := by decide +kernel
theorem d_Pa_caughtByRow_40 : decode (yB Y_Pa_caughtByRow) 40 = .ok (.iadd, 1) := by decide +kernel
theorem d_Pa_caughtByRow_41 : decode (yB Y_Pa_caughtByRow) 41 = .ok (.iaload, 1) := by decide +kernel
theorem d_Pa_caughtByRow_42 : decode (yB Y_Pa_caughtByRow) 42 = .ok (.istore 7, 2) := by decide +kernel
theorem d_Pa_caughtByRow_44 : decode (yB Y_Pa_caughtByRow) 44 = .ok (.iload 7, 2) := by decide +kernel
theorem d_Pa_caughtByRow_46 : decode (yB Y_Pa_caughtByRow) 46 = .ok (.iconst (-1), 1) := by decide +kernel
theorem d_Pa_caughtByRow_47 : decode (yB Y_Pa_caughtByRow) 47 = .ok (.if_icmp .eq 13, 3) := by decide +kernel
theorem d_Pa_caughtByRow_50 : decode (yB Y_Pa_caughtByRow) 50 = .ok (.iload 4, 2) := by decide +kernel
theorem d_Pa_caughtByRow_52 : decode (yB Y_Pa_caughtByRow) 52 = .ok (.iconst 1, 1) := by decide +kernel
theorem d_Pa_caughtByRow_53 : decode (yB Y_Pa_caughtByRow) 53 = .ok (.iload 6, 2) := by decide +kernel
theorem d_Pa_caughtByRow_55 : decode (yB Y_Pa_caughtByRow) 55 = .ok (.ishl, 1) := by decide +kernel
theorem d_Pa_caughtByRow_56 : decode (yB Y_Pa_caughtByRow) 56 = .ok (.iand, 1) := by decide +kernel
theorem d_Pa_caughtByRow_57 : decode (yB Y_Pa_caughtByRow) 57 = .ok (.ifCond .eq 5, 3) := by decide +kernel
theorem d_Pa_caughtByRow_60 : decode (yB Y_Pa_caughtByRow) 60 = .ok (.iconst (-1), 1) := by decide +kernel
theorem d_Pa_caughtByRow_61 : decode (yB Y_Pa_caughtByRow) 61 = .ok (.ireturn, 1) := by decide +kernel
theorem d_Pa_caughtByRow_62 : decode (yB Y_Pa_caughtByRow) 62 = .ok (.iload 4, 2) := by decide +kernel
theorem d_Pa_caughtByRow_64 : decode (yB Y_Pa_caughtByRow) 64 = .ok (.iconst 1, 1) := by decide +kernel
theorem d_Pa_caughtByRow_65 : decode (yB Y_Pa_caughtByRow) 65 = .ok (.iload 6, 2) := by decide +kernel
theorem d_Pa_caughtByRow_67 : decode (yB Y_Pa_caughtByRow) 67 = .ok (.ishl, 1) := by decide +kernel
theorem d_Pa_caughtByRow_68 : decode (yB Y_Pa_caughtByRow) 68 = .ok (.ior, 1) := by decide +kernel
theorem d_Pa_caughtByRow_69 : decode (yB Y_Pa_caughtByRow) 69 = .ok (.istore 4, 2) := by decide +kernel
theorem d_Pa_caughtByRow_71 : decode (yB Y_Pa_caughtByRow) 71 = .ok (.iload_n 3, 1) := by decide +kernel
theorem d_Pa_caughtByRow_72 : decode (yB Y_Pa_caughtByRow) 72 = .ok (.iload 7, 2) := by decide +kernel
theorem d_Pa_caughtByRow_74 : decode (yB Y_Pa_caughtByRow) 74 = .ok (.iadd, 1) := by decide +kernel
theorem d_Pa_caughtByRow_75 : decode (yB Y_Pa_caughtByRow) 75 = .ok (.istore_n 3, 1) := by decide +kernel
theorem d_Pa_caughtByRow_76 : decode (yB Y_Pa_caughtByRow) 76 = .ok (.iinc 5 1, 3) := by decide +kernel
theorem d_Pa_caughtByRow_79 : decode (yB Y_Pa_caughtByRow) 79 = .ok (.goto (-71), 3) := by decide +kernel
theorem d_Pa_caughtByRow_82 : decode (yB Y_Pa_caughtByRow) 82 = .ok (.iload_n 3, 1) := by decide +kernel
theorem d_Pa_caughtByRow_83 : decode (yB Y_Pa_caughtByRow) 83 = .ok (.ireturn, 1) := by decide +kernel
def F_Pa_caughtByRow_L8 (n : Nat) (E : zE) (S : zS) (r8 : Nat × Int32 × Int32 × Int32 × Int32 × Int32 × zH → Option (Int32 × zH)) (a0 : Nat) (x1 : Int32) (x2 : Int32) (x3 : Int32) (x4 : Int32) (x5 : Int32) (M : zH) : Option (Int32 × zH) :=
  if x1 ≤ x5 then
    some (x3, M)
  else
    (zgR S a0 4 4).bind fun b_2 =>
    (zldI S M b_2 ((x5 * 8) + ((x2 >>> ((3 * ((x1 - 1) - x5)) &&& (31 : Int32))) &&& (7 : Int32)))).bind fun v_3 =>
    if v_3 = (-1) then
      some ((-1), M)
    else
      if (x4 &&& ((1 : Int32) <<< (((x2 >>> ((3 * ((x1 - 1) - x5)) &&& (31 : Int32))) &&& (7 : Int32)) &&& (31 : Int32)))) = 0 then
        r8 (a0, x1, x2, x3 + v_3, x4 ||| ((1 : Int32) <<< (((x2 >>> ((3 * ((x1 - 1) - x5)) &&& (31 : Int32))) &&& (7 : Int32)) &&& (31 : Int32))), x5 + 1, M)
      else
        some ((-1), M)
def F_Pa_caughtByRow_b8 (n : Nat) (E : zE) (S : zS) : Nat × Int32 × Int32 × Int32 × Int32 × Int32 × zH → Option (Int32 × zH) := zfix (fun r8 s => F_Pa_caughtByRow_L8 n E S r8 s.1 s.2.1 s.2.2.1 s.2.2.2.1 s.2.2.2.2.1 s.2.2.2.2.2.1 s.2.2.2.2.2.2) n
def F_Pa_caughtByRow (n : Nat) (E : zE) (S : zS) (a0 : Nat) (x1 : Int32) (x2 : Int32) (M : zH) : Option (Int32 × zH) :=
  F_Pa_caughtByRow_b8 n E S (a0, x1, x2, 0, 0, 0, M)
theorem K_Pa_caughtByRow_L8 (n : Nat) (E : zE) (S : zS) (r8 : Nat × Int32 × Int32 × Int32 × Int32 × Int32 × zH → Option (Int32 × zH)) (a0 : Nat) (x1 : Int32) (x2 : Int32) (x3 : Int32) (x4 : Int32) (x5 : Int32) (M : zH) (r : Int32) (M' : zH) (hr8 : ∀ (a0 : Nat) (x1 : Int32) (x2 : Int32) (x3 : Int32) (x4 : Int32) (x5 : Int32) (M : zH), r8 (a0, x1, x2, x3, x4, x5, M) = some (r, M') → zG E Y_Pa_caughtByRow (some (.int r), S, M') 8 [(0, .ref a0), (1, .int x1), (2, .int x2), (3, .int x3), (4, .int x4), (5, .int x5)] [] S M 0 0) (h : F_Pa_caughtByRow_L8 n E S r8 a0 x1 x2 x3 x4 x5 M = some (r, M')) : zG E Y_Pa_caughtByRow (some (.int r), S, M') 8 [(0, .ref a0), (1, .int x1), (2, .int x2), (3, .int x3), (4, .int x4), (5, .int x5)] [] S M 0 0 := by
  unfold F_Pa_caughtByRow_L8 at h
  refine zi_iload 5 d_Pa_caughtByRow_8 rfl ?_
  refine zi_iload_n 1 d_Pa_caughtByRow_10 rfl ?_
  refine zi_icmp_ge (tgt := 82) d_Pa_caughtByRow_11 rfl (fun c_1 => ?_) (fun c_1 => ?_)
  · rw [if_pos c_1] at h
    refine zi_iload_n 3 d_Pa_caughtByRow_82 rfl ?_
    cases h
    exact zo_ret d_Pa_caughtByRow_83 (Nat.le_of_ble_eq_true rfl) (Nat.le_of_ble_eq_true rfl) rfl
  · rw [if_neg c_1] at h
    refine zi_iload_n 2 d_Pa_caughtByRow_14 rfl ?_
    refine zi_iconst 3 d_Pa_caughtByRow_15 rfl ?_
    refine zi_iload_n 1 d_Pa_caughtByRow_16 rfl ?_
    refine zi_iconst 1 d_Pa_caughtByRow_17 rfl ?_
    refine zi_isub d_Pa_caughtByRow_18 ?_
    refine zi_iload 5 d_Pa_caughtByRow_19 rfl ?_
    refine zi_isub d_Pa_caughtByRow_21 ?_
    refine zi_imul d_Pa_caughtByRow_22 ?_
    refine zi_ishr d_Pa_caughtByRow_23 ?_
    refine zi_bipush 7 d_Pa_caughtByRow_24 rfl ?_
    refine zi_iand d_Pa_caughtByRow_26 ?_
    refine zi_istore [(6, .int ((x2 >>> ((3 * ((x1 - 1) - x5)) &&& (31 : Int32))) &&& (7 : Int32))), (0, .ref a0), (1, .int x1), (2, .int x2), (3, .int x3), (4, .int x4), (5, .int x5)] d_Pa_caughtByRow_27 (by decide) rfl ?_
    refine zi_aload_n 1 d_Pa_caughtByRow_29 rfl ?_
    obtain ⟨b_2, eb_2, h⟩ := zbind h
    refine zo_getR 33 zkd_4 4 d_Pa_caughtByRow_30 eb_2 rfl tw_302 rfl ?_
    refine zi_iload 6 d_Pa_caughtByRow_33 rfl ?_
    refine zi_bipush 8 d_Pa_caughtByRow_35 rfl ?_
    refine zi_imul d_Pa_caughtByRow_37 ?_
    refine zi_iload 0 d_Pa_caughtByRow_38 rfl ?_
    refine zi_iadd d_Pa_caughtByRow_40 ?_
    obtain ⟨v_3, ev_3, h⟩ := zbind h
    refine zo_iald 42 d_Pa_caughtByRow_41 ev_3 rfl ?_
    refine zi_istore [(7, .int v_3), (6, .int ((x2 >>> ((3 * ((x1 - 1) - x5)) &&& (31 : Int32))) &&& (7 : Int32))), (0, .ref a0), (1, .int x1), (2, .int x2), (3, .int x3), (4, .int x4), (5, .int x5)] d_Pa_caughtByRow_42 (by decide) rfl ?_
    refine zi_iload 0 d_Pa_caughtByRow_44 rfl ?_
    refine zi_iconst (-1) d_Pa_caughtByRow_46 rfl ?_
    refine zi_icmp_eq (tgt := 60) d_Pa_caughtByRow_47 rfl (fun c_4 => ?_) (fun c_4 => ?_)
    · rw [if_pos c_4] at h
      refine zi_iconst (-1) d_Pa_caughtByRow_60 rfl ?_
      cases h
      exact zo_ret d_Pa_caughtByRow_61 (Nat.le_of_ble_eq_true rfl) (Nat.le_of_ble_eq_true rfl) rfl
    · rw [if_neg c_4] at h
      refine zi_iload 6 d_Pa_caughtByRow_50 rfl ?_
      refine zi_iconst 1 d_Pa_caughtByRow_52 rfl ?_
      refine zi_iload 1 d_Pa_caughtByRow_53 rfl ?_
      refine zi_ishl d_Pa_caughtByRow_55 ?_
      refine zi_iand d_Pa_caughtByRow_56 ?_
      refine zi_if_eq (tgt := 62) d_Pa_caughtByRow_57 rfl (fun c_5 => ?_) (fun c_5 => ?_)
      · rw [if_pos c_5] at h
        refine zi_iload 6 d_Pa_caughtByRow_62 rfl ?_
        refine zi_iconst 1 d_Pa_caughtByRow_64 rfl ?_
        refine zi_iload 1 d_Pa_caughtByRow_65 rfl ?_
        refine zi_ishl d_Pa_caughtByRow_67 ?_
        refine zi_ior d_Pa_caughtByRow_68 ?_
        refine zi_istore [(4, .int (x4 ||| ((1 : Int32) <<< (((x2 >>> ((3 * ((x1 - 1) - x5)) &&& (31 : Int32))) &&& (7 : Int32)) &&& (31 : Int32))))), (7, .int v_3), (6, .int ((x2 >>> ((3 * ((x1 - 1) - x5)) &&& (31 : Int32))) &&& (7 : Int32))), (0, .ref a0), (1, .int x1), (2, .int x2), (3, .int x3), (5, .int x5)] d_Pa_caughtByRow_69 (by decide) rfl ?_
        refine zi_iload_n 6 d_Pa_caughtByRow_71 rfl ?_
        refine zi_iload 1 d_Pa_caughtByRow_72 rfl ?_
        refine zi_iadd d_Pa_caughtByRow_74 ?_
        refine zi_istore_n [(3, .int (x3 + v_3)), (4, .int (x4 ||| ((1 : Int32) <<< (((x2 >>> ((3 * ((x1 - 1) - x5)) &&& (31 : Int32))) &&& (7 : Int32)) &&& (31 : Int32))))), (7, .int v_3), (6, .int ((x2 >>> ((3 * ((x1 - 1) - x5)) &&& (31 : Int32))) &&& (7 : Int32))), (0, .ref a0), (1, .int x1), (2, .int x2), (5, .int x5)] d_Pa_caughtByRow_75 (by decide) rfl ?_
        refine zi_iinc 7 (x5 + 1) [(5, .int (x5 + 1)), (3, .int (x3 + v_3)), (4, .int (x4 ||| ((1 : Int32) <<< (((x2 >>> ((3 * ((x1 - 1) - x5)) &&& (31 : Int32))) &&& (7 : Int32)) &&& (31 : Int32))))), (7, .int v_3), (6, .int ((x2 >>> ((3 * ((x1 - 1) - x5)) &&& (31 : Int32))) &&& (7 : Int32))), (0, .ref a0), (1, .int x1), (2, .int x2)] d_Pa_caughtByRow_76 rfl rfl (by decide) rfl ?_
        refine zi_goto (tgt := 8) d_Pa_caughtByRow_79 rfl ?_
        refine zi_lo [(0, .ref a0), (1, .int x1), (2, .int x2), (3, .int (x3 + v_3)), (4, .int (x4 ||| ((1 : Int32) <<< (((x2 >>> ((3 * ((x1 - 1) - x5)) &&& (31 : Int32))) &&& (7 : Int32)) &&& (31 : Int32))))), (5, .int (x5 + 1))] [5, 6, 7, 1, 2, 0] rfl ?_
        exact hr8 a0 x1 x2 (x3 + v_3) (x4 ||| ((1 : Int32) <<< (((x2 >>> ((3 * ((x1 - 1) - x5)) &&& (31 : Int32))) &&& (7 : Int32)) &&& (31 : Int32)))) (x5 + 1) M h
      · rw [if_neg c_5] at h
        refine zi_iconst (-1) d_Pa_caughtByRow_60 rfl ?_
        cases h
        exact zo_ret d_Pa_caughtByRow_61 (Nat.le_of_ble_eq_true rfl) (Nat.le_of_ble_eq_true rfl) rfl
theorem K_Pa_caughtByRow_b8 (n : Nat) (E : zE) (S : zS) (a0 : Nat) (x1 : Int32) (x2 : Int32) (x3 : Int32) (x4 : Int32) (x5 : Int32) (M : zH) (r : Int32) (M' : zH)  (h : F_Pa_caughtByRow_b8 n E S (a0, x1, x2, x3, x4, x5, M) = some (r, M')) : zG E Y_Pa_caughtByRow (some (.int r), S, M') 8 [(0, .ref a0), (1, .int x1), (2, .int x2), (3, .int x3), (4, .int x4), (5, .int x5)] [] S M 0 0 := by
  have key : ∀ (k : Nat) (a0 : Nat) (x1 : Int32) (x2 : Int32) (x3 : Int32) (x4 : Int32) (x5 : Int32) (M : zH), zfix (fun r8 s => F_Pa_caughtByRow_L8 n E S r8 s.1 s.2.1 s.2.2.1 s.2.2.2.1 s.2.2.2.2.1 s.2.2.2.2.2.1 s.2.2.2.2.2.2) k (a0, x1, x2, x3, x4, x5, M) = some (r, M') → zG E Y_Pa_caughtByRow (some (.int r), S, M') 8 [(0, .ref a0), (1, .int x1), (2, .int x2), (3, .int x3), (4, .int x4), (5, .int x5)] [] S M 0 0 := by
    intro k
    induction k with
    | zero => intro a0 x1 x2 x3 x4 x5 M h; cases h
    | succ k ih => intro a0 x1 x2 x3 x4 x5 M h; exact K_Pa_caughtByRow_L8 n E S _ a0 x1 x2 x3 x4 x5 M r M'  (fun a0 x1 x2 x3 x4 x5 M h => ih a0 x1 x2 x3 x4 x5 M h) h
  exact key n a0 x1 x2 x3 x4 x5 M h
theorem K_Pa_caughtByRow (n : Nat) (E : zE) (S : zS) (a0 : Nat) (x1 : Int32) (x2 : Int32) (M : zH) (r : Int32) (M' : zH)  (h : F_Pa_caughtByRow n E S a0 x1 x2 M = some (r, M')) : zG E Y_Pa_caughtByRow (some (.int r), S, M') 0 [(0, .ref a0), (1, .int x1), (2, .int x2)] [] S M 0 0 := by
  unfold F_Pa_caughtByRow at h
  refine zi_iconst 0 d_Pa_caughtByRow_0 rfl ?_
  refine zi_istore_n [(3, .int 0), (0, .ref a0), (1, .int x1), (2, .int x2)] d_Pa_caughtByRow_1 (by decide) rfl ?_
  refine zi_iconst 0 d_Pa_caughtByRow_2 rfl ?_
  refine zi_istore [(4, .int 0), (3, .int 0), (0, .ref a0), (1, .int x1), (2, .int x2)] d_Pa_caughtByRow_3 (by decide) rfl ?_
  refine zi_iconst 0 d_Pa_caughtByRow_5 rfl ?_
  refine zi_istore [(5, .int 0), (4, .int 0), (3, .int 0), (0, .ref a0), (1, .int x1), (2, .int x2)] d_Pa_caughtByRow_6 (by decide) rfl ?_
  refine zi_lo [(0, .ref a0), (1, .int x1), (2, .int x2), (3, .int 0), (4, .int 0), (5, .int 0)] [3, 4, 5, 2, 1, 0] rfl ?_
  exact K_Pa_caughtByRow_b8 n E S a0 x1 x2 0 0 0 M r M'  h
theorem C_Pa_caughtByRow (n : Nat) (E : zE) (S : zS) (a0 : Nat) (x1 : Int32) (x2 : Int32) (M : zH) (r : Int32) (M' : zH) (h : F_Pa_caughtByRow n E S a0 x1 x2 M = some (r, M')) : zC E Y_Pa_caughtByRow [.ref a0, .int x1, .int x2] S M (some (.int r), S, M') :=
  zC.of (Or.inl (show plainName "NightColander$Paper" = true by decide)) (Nat.le_of_ble_eq_true rfl) (trivial) (K_Pa_caughtByRow n E S a0 x1 x2 M r M' h)
theorem d_Pa_findFalls_0 : decode (yB Y_Pa_findFalls) 0 = .ok (.aload_n 0, 1) := by decide +kernel
theorem d_Pa_findFalls_1 : decode (yB Y_Pa_findFalls) 1 = .ok (.getfield 12, 3) := by decide +kernel
theorem d_Pa_findFalls_4 : decode (yB Y_Pa_findFalls) 4 = .ok (.aload_n 1, 1) := by decide +kernel
theorem d_Pa_findFalls_5 : decode (yB Y_Pa_findFalls) 5 = .ok (.invokevirtual 53, 3) := by decide +kernel
theorem d_Pa_findFalls_8 : decode (yB Y_Pa_findFalls) 8 = .ok (.iconst 0, 1) := by decide +kernel
theorem d_Pa_findFalls_9 : decode (yB Y_Pa_findFalls) 9 = .ok (.istore_n 3, 1) := by decide +kernel
theorem d_Pa_findFalls_10 : decode (yB Y_Pa_findFalls) 10 = .ok (.iload_n 3, 1) := by decide +kernel
theorem d_Pa_findFalls_11 : decode (yB Y_Pa_findFalls) 11 = .ok (.iload_n 2, 1) := by decide +kernel
theorem d_Pa_findFalls_12 : decode (yB Y_Pa_findFalls) 12 = .ok (.if_icmp .ge 64, 3) := by decide +kernel
theorem d_Pa_findFalls_15 : decode (yB Y_Pa_findFalls) 15 = .ok (.iload_n 3, 1) := by decide +kernel
theorem d_Pa_findFalls_16 : decode (yB Y_Pa_findFalls) 16 = .ok (.bipush 9, 2) := by decide +kernel
theorem d_Pa_findFalls_18 : decode (yB Y_Pa_findFalls) 18 = .ok (.if_icmp .ge 58, 3) := by decide +kernel
theorem d_Pa_findFalls_21 : decode (yB Y_Pa_findFalls) 21 = .ok (.iconst 0, 1) := by decide +kernel
theorem d_Pa_findFalls_22 : decode (yB Y_Pa_findFalls) 22 = .ok (.istore 4, 2) := by decide +kernel
theorem d_Pa_findFalls_24 : decode (yB Y_Pa_findFalls) 24 = .ok (.iload 4, 2) := by decide +kernel
theorem d_Pa_findFalls_26 : decode (yB Y_Pa_findFalls) 26 = .ok (.bipush 8, 2) := by decide +kernel
theorem d_Pa_findFalls_28 : decode (yB Y_Pa_findFalls) 28 = .ok (.if_icmp .ge 34, 3) := by decide +kernel
theorem d_Pa_findFalls_31 : decode (yB Y_Pa_findFalls) 31 = .ok (.aload_n 0, 1) := by decide +kernel
theorem d_Pa_findFalls_32 : decode (yB Y_Pa_findFalls) 32 = .ok (.getfield 22, 3) := by decide +kernel
theorem d_Pa_findFalls_35 : decode (yB Y_Pa_findFalls) 35 = .ok (.iload_n 3, 1) := by decide +kernel
theorem d_Pa_findFalls_36 : decode (yB Y_Pa_findFalls) 36 = .ok (.bipush 8, 2) := by decide +kernel
theorem d_Pa_findFalls_38 : decode (yB Y_Pa_findFalls) 38 = .ok (.imul, 1) := by decide +kernel
theorem d_Pa_findFalls_39 : decode (yB Y_Pa_findFalls) 39 = .ok (.iload 4, 2) := by decide +kernel
theorem d_Pa_findFalls_41 : decode (yB Y_Pa_findFalls) 41 = .ok (.iadd, 1) := by decide +kernel
theorem d_Pa_findFalls_42 : decode (yB Y_Pa_findFalls) 42 = .ok (.aload_n 0, 1) := by decide +kernel
theorem d_Pa_findFalls_43 : decode (yB Y_Pa_findFalls) 43 = .ok (.getfield 45, 3) := by decide +kernel
theorem d_Pa_findFalls_46 : decode (yB Y_Pa_findFalls) 46 = .ok (.aload_n 0, 1) := by decide +kernel
theorem d_Pa_findFalls_47 : decode (yB Y_Pa_findFalls) 47 = .ok (.getfield 12, 3) := by decide +kernel
theorem d_Pa_findFalls_50 : decode (yB Y_Pa_findFalls) 50 = .ok (.iload 4, 2) := by decide +kernel
theorem d_Pa_findFalls_52 : decode (yB Y_Pa_findFalls) 52 = .ok (.invokevirtual 57, 3) := by decide +kernel
theorem d_Pa_findFalls_55 : decode (yB Y_Pa_findFalls) 55 = .ok (.iastore, 1) := by decide +kernel
theorem d_Pa_findFalls_56 : decode (yB Y_Pa_findFalls) 56 = .ok (.iinc 4 1, 3) := by decide +kernel
theorem d_Pa_findFalls_59 : decode (yB Y_Pa_findFalls) 59 = .ok (.goto (-35), 3) := by decide +kernel
theorem d_Pa_findFalls_62 : decode (yB Y_Pa_findFalls) 62 = .ok (.aload_n 0, 1) := by decide +kernel
theorem d_Pa_findFalls_63 : decode (yB Y_Pa_findFalls) 63 = .ok (.getfield 12, 3) := by decide +kernel
theorem d_Pa_findFalls_66 : decode (yB Y_Pa_findFalls) 66 = .ok (.iconst 1, 1) := by decide +kernel
theorem d_Pa_findFalls_67 : decode (yB Y_Pa_findFalls) 67 = .ok (.invokevirtual 63, 3) := by decide +kernel
theorem d_Pa_findFalls_70 : decode (yB Y_Pa_findFalls) 70 = .ok (.iinc 3 1, 3) := by decide +kernel
theorem d_Pa_findFalls_73 : decode (yB Y_Pa_findFalls) 73 = .ok (.goto (-63), 3) := by decide +kernel
theorem d_Pa_findFalls_76 : decode (yB Y_Pa_findFalls) 76 = .ok (.return_, 1) := by decide +kernel
def F_Pa_findFalls_L24 (n : Nat) (E : zE) (S : zS) (r10 : Nat × Int32 × Int32 × zH → Option (zH)) (r24 : Nat × Int32 × Int32 × Int32 × zH → Option (zH)) (a0 : Nat) (x2 : Int32) (x3 : Int32) (x4 : Int32) (M : zH) : Option (zH) :=
  if 8 ≤ x4 then
    (zgR S a0 4 1).bind fun b_2 =>
    (zck S b_2 3).bind fun u_3 =>
    (F_Ni_turnAll n E S b_2 1 M).bind fun q_4 =>
    r10 (a0, x2, x3 + 1, q_4)
  else
    (zgR S a0 4 3).bind fun b_5 =>
    (zgR S a0 4 0).bind fun b_6 =>
    (zgR S a0 4 1).bind fun b_7 =>
    (zck S b_6 1).bind fun u_8 =>
    (F_Ju_threadsOn n E S b_6 b_7 x4 M).bind fun q_9 =>
    (zstI S q_9.2 b_5 ((x3 * 8) + x4) q_9.1).bind fun m_10 =>
    r24 (a0, x2, x3, x4 + 1, m_10)
def F_Pa_findFalls_b24 (n : Nat) (E : zE) (S : zS) (r10 : Nat × Int32 × Int32 × zH → Option (zH)) : Nat × Int32 × Int32 × Int32 × zH → Option (zH) := zfix (fun r24 s => F_Pa_findFalls_L24 n E S r10 r24 s.1 s.2.1 s.2.2.1 s.2.2.2.1 s.2.2.2.2) n
def F_Pa_findFalls_L10 (n : Nat) (E : zE) (S : zS) (r10 : Nat × Int32 × Int32 × zH → Option (zH)) (a0 : Nat) (x2 : Int32) (x3 : Int32) (M : zH) : Option (zH) :=
  if x2 ≤ x3 then
    some (M)
  else
    if 9 ≤ x3 then
      some (M)
    else
      F_Pa_findFalls_b24 n E S r10 (a0, x2, x3, 0, M)
def F_Pa_findFalls_b10 (n : Nat) (E : zE) (S : zS) : Nat × Int32 × Int32 × zH → Option (zH) := zfix (fun r10 s => F_Pa_findFalls_L10 n E S r10 s.1 s.2.1 s.2.2.1 s.2.2.2) n
def F_Pa_findFalls (n : Nat) (E : zE) (S : zS) (a0 : Nat) (a1 : Nat) (x2 : Int32) (M : zH) : Option (zH) :=
  (zgR S a0 4 1).bind fun b_13 =>
  (zck S b_13 3).bind fun u_14 =>
  (F_Ni_copyFrom n E S b_13 a1 M).bind fun q_15 =>
  F_Pa_findFalls_b10 n E S (a0, x2, 0, q_15)
theorem K_Pa_findFalls_L24 (n : Nat) (E : zE) (S : zS) (r10 : Nat × Int32 × Int32 × zH → Option (zH)) (r24 : Nat × Int32 × Int32 × Int32 × zH → Option (zH)) (a0 : Nat) (x2 : Int32) (x3 : Int32) (x4 : Int32) (M : zH) (M' : zH) (hr10 : ∀ (a0 : Nat) (x2 : Int32) (x3 : Int32) (M : zH), r10 (a0, x2, x3, M) = some M' → zG E Y_Pa_findFalls (none, S, M') 10 [(0, .ref a0), (2, .int x2), (3, .int x3)] [] S M 0 0) (hr24 : ∀ (a0 : Nat) (x2 : Int32) (x3 : Int32) (x4 : Int32) (M : zH), r24 (a0, x2, x3, x4, M) = some M' → zG E Y_Pa_findFalls (none, S, M') 24 [(0, .ref a0), (2, .int x2), (3, .int x3), (4, .int x4)] [] S M 0 0) (h : F_Pa_findFalls_L24 n E S r10 r24 a0 x2 x3 x4 M = some M') : zG E Y_Pa_findFalls (none, S, M') 24 [(0, .ref a0), (2, .int x2), (3, .int x3), (4, .int x4)] [] S M 0 0 := by
  unfold F_Pa_findFalls_L24 at h
  refine zi_iload 3 d_Pa_findFalls_24 rfl ?_
  refine zi_bipush 8 d_Pa_findFalls_26 rfl ?_
  refine zi_icmp_ge (tgt := 62) d_Pa_findFalls_28 rfl (fun c_1 => ?_) (fun c_1 => ?_)
  · rw [if_pos c_1] at h
    refine zi_aload_n 0 d_Pa_findFalls_62 rfl ?_
    obtain ⟨b_2, eb_2, h⟩ := zbind h
    refine zo_getR 66 zkd_4 1 d_Pa_findFalls_63 eb_2 rfl tw_299 rfl ?_
    refine zi_iconst 1 d_Pa_findFalls_66 rfl ?_
    obtain ⟨u_3, eu_3, h⟩ := zbind h
    obtain ⟨q_4, eq_4, h⟩ := zbind h
    refine zo_virt (k' := 0) (n' := 0) 70 [.int 1] [] [] zkd_3 (zck_s eu_3) (C_Ni_turnAll n E S b_2 1 M q_4 eq_4) d_Pa_findFalls_67 tw_927 tw_984 tw_925 tw_926 tw_2 dd_Ni_turnAll ⟨Nat.le_of_ble_eq_true rfl, Nat.le_of_ble_eq_true rfl, Nat.le_of_ble_eq_true rfl, Nat.le_of_ble_eq_true rfl⟩ (Nat.le_of_ble_eq_true rfl) rfl rfl rfl rfl ?_
    refine zi_iinc 2 (x3 + 1) [(3, .int (x3 + 1)), (0, .ref a0), (2, .int x2), (4, .int x4)] d_Pa_findFalls_70 rfl rfl (by decide) rfl ?_
    refine zi_goto (tgt := 10) d_Pa_findFalls_73 rfl ?_
    refine zi_lo [(0, .ref a0), (2, .int x2), (3, .int (x3 + 1))] [1, 2, 0] rfl ?_
    exact hr10 a0 x2 (x3 + 1) q_4 h
  · rw [if_neg c_1] at h
    refine zi_aload_n 0 d_Pa_findFalls_31 rfl ?_
    obtain ⟨b_5, eb_5, h⟩ := zbind h
    refine zo_getR 35 zkd_4 3 d_Pa_findFalls_32 eb_5 rfl tw_301 rfl ?_
    refine zi_iload_n 2 d_Pa_findFalls_35 rfl ?_
    refine zi_bipush 8 d_Pa_findFalls_36 rfl ?_
    refine zi_imul d_Pa_findFalls_38 ?_
    refine zi_iload 3 d_Pa_findFalls_39 rfl ?_
    refine zi_iadd d_Pa_findFalls_41 ?_
    refine zi_aload_n 0 d_Pa_findFalls_42 rfl ?_
    obtain ⟨b_6, eb_6, h⟩ := zbind h
    refine zo_getR 46 zkd_4 0 d_Pa_findFalls_43 eb_6 rfl tw_298 rfl ?_
    refine zi_aload_n 0 d_Pa_findFalls_46 rfl ?_
    obtain ⟨b_7, eb_7, h⟩ := zbind h
    refine zo_getR 50 zkd_4 1 d_Pa_findFalls_47 eb_7 rfl tw_299 rfl ?_
    refine zi_iload 3 d_Pa_findFalls_50 rfl ?_
    obtain ⟨u_8, eu_8, h⟩ := zbind h
    obtain ⟨q_9, eq_9, h⟩ := zbind h
    refine zo_virt (k' := 0) (n' := 0) 55 [.ref b_7, .int x4] [.int ((x3 * 8) + x4), .ref b_5] [.int q_9.1, .int ((x3 * 8) + x4), .ref b_5] zkd_1 (zck_s eu_8) (C_Ju_threadsOn n E S b_6 b_7 x4 M q_9.1 q_9.2 eq_9) d_Pa_findFalls_52 tw_512 tw_983 tw_510 tw_511 tw_8 dd_Ju_threadsOn ⟨Nat.le_of_ble_eq_true rfl, Nat.le_of_ble_eq_true rfl, Nat.le_of_ble_eq_true rfl, Nat.le_of_ble_eq_true rfl⟩ (Nat.le_of_ble_eq_true rfl) rfl rfl rfl rfl ?_
    obtain ⟨m_10, em_10, h⟩ := zbind h
    refine zo_iast 56 d_Pa_findFalls_55 em_10 rfl ?_
    refine zi_iinc 3 (x4 + 1) [(4, .int (x4 + 1)), (0, .ref a0), (2, .int x2), (3, .int x3)] d_Pa_findFalls_56 rfl rfl (by decide) rfl ?_
    refine zi_goto (tgt := 24) d_Pa_findFalls_59 rfl ?_
    refine zi_lo [(0, .ref a0), (2, .int x2), (3, .int x3), (4, .int (x4 + 1))] [1, 2, 3, 0] rfl ?_
    exact hr24 a0 x2 x3 (x4 + 1) m_10 h
theorem K_Pa_findFalls_b24 (n : Nat) (E : zE) (S : zS) (r10 : Nat × Int32 × Int32 × zH → Option (zH)) (a0 : Nat) (x2 : Int32) (x3 : Int32) (x4 : Int32) (M : zH) (M' : zH) (hr10 : ∀ (a0 : Nat) (x2 : Int32) (x3 : Int32) (M : zH), r10 (a0, x2, x3, M) = some M' → zG E Y_Pa_findFalls (none, S, M') 10 [(0, .ref a0), (2, .int x2), (3, .int x3)] [] S M 0 0) (h : F_Pa_findFalls_b24 n E S r10 (a0, x2, x3, x4, M) = some M') : zG E Y_Pa_findFalls (none, S, M') 24 [(0, .ref a0), (2, .int x2), (3, .int x3), (4, .int x4)] [] S M 0 0 := by
  have key : ∀ (k : Nat) (a0 : Nat) (x2 : Int32) (x3 : Int32) (x4 : Int32) (M : zH), zfix (fun r24 s => F_Pa_findFalls_L24 n E S r10 r24 s.1 s.2.1 s.2.2.1 s.2.2.2.1 s.2.2.2.2) k (a0, x2, x3, x4, M) = some M' → zG E Y_Pa_findFalls (none, S, M') 24 [(0, .ref a0), (2, .int x2), (3, .int x3), (4, .int x4)] [] S M 0 0 := by
    intro k
    induction k with
    | zero => intro a0 x2 x3 x4 M h; cases h
    | succ k ih => intro a0 x2 x3 x4 M h; exact K_Pa_findFalls_L24 n E S r10 _ a0 x2 x3 x4 M M' hr10 (fun a0 x2 x3 x4 M h => ih a0 x2 x3 x4 M h) h
  exact key n a0 x2 x3 x4 M h
theorem K_Pa_findFalls_L10 (n : Nat) (E : zE) (S : zS) (r10 : Nat × Int32 × Int32 × zH → Option (zH)) (a0 : Nat) (x2 : Int32) (x3 : Int32) (M : zH) (M' : zH) (hr10 : ∀ (a0 : Nat) (x2 : Int32) (x3 : Int32) (M : zH), r10 (a0, x2, x3, M) = some M' → zG E Y_Pa_findFalls (none, S, M') 10 [(0, .ref a0), (2, .int x2), (3, .int x3)] [] S M 0 0) (h : F_Pa_findFalls_L10 n E S r10 a0 x2 x3 M = some M') : zG E Y_Pa_findFalls (none, S, M') 10 [(0, .ref a0), (2, .int x2), (3, .int x3)] [] S M 0 0 := by
  unfold F_Pa_findFalls_L10 at h
  refine zi_iload_n 2 d_Pa_findFalls_10 rfl ?_
  refine zi_iload_n 1 d_Pa_findFalls_11 rfl ?_
  refine zi_icmp_ge (tgt := 76) d_Pa_findFalls_12 rfl (fun c_11 => ?_) (fun c_11 => ?_)
  · rw [if_pos c_11] at h
    cases h
    exact zo_ret d_Pa_findFalls_76 (Nat.le_of_ble_eq_true rfl) (Nat.le_of_ble_eq_true rfl) rfl
  · rw [if_neg c_11] at h
    refine zi_iload_n 2 d_Pa_findFalls_15 rfl ?_
    refine zi_bipush 9 d_Pa_findFalls_16 rfl ?_
    refine zi_icmp_ge (tgt := 76) d_Pa_findFalls_18 rfl (fun c_12 => ?_) (fun c_12 => ?_)
    · rw [if_pos c_12] at h
      cases h
      exact zo_ret d_Pa_findFalls_76 (Nat.le_of_ble_eq_true rfl) (Nat.le_of_ble_eq_true rfl) rfl
    · rw [if_neg c_12] at h
      refine zi_iconst 0 d_Pa_findFalls_21 rfl ?_
      refine zi_istore [(4, .int 0), (0, .ref a0), (2, .int x2), (3, .int x3)] d_Pa_findFalls_22 (by decide) rfl ?_
      refine zi_lo [(0, .ref a0), (2, .int x2), (3, .int x3), (4, .int 0)] [1, 2, 3, 0] rfl ?_
      exact K_Pa_findFalls_b24 n E S r10 a0 x2 x3 0 M M' hr10 h
theorem K_Pa_findFalls_b10 (n : Nat) (E : zE) (S : zS) (a0 : Nat) (x2 : Int32) (x3 : Int32) (M : zH) (M' : zH)  (h : F_Pa_findFalls_b10 n E S (a0, x2, x3, M) = some M') : zG E Y_Pa_findFalls (none, S, M') 10 [(0, .ref a0), (2, .int x2), (3, .int x3)] [] S M 0 0 := by
  have key : ∀ (k : Nat) (a0 : Nat) (x2 : Int32) (x3 : Int32) (M : zH), zfix (fun r10 s => F_Pa_findFalls_L10 n E S r10 s.1 s.2.1 s.2.2.1 s.2.2.2) k (a0, x2, x3, M) = some M' → zG E Y_Pa_findFalls (none, S, M') 10 [(0, .ref a0), (2, .int x2), (3, .int x3)] [] S M 0 0 := by
    intro k
    induction k with
    | zero => intro a0 x2 x3 M h; cases h
    | succ k ih => intro a0 x2 x3 M h; exact K_Pa_findFalls_L10 n E S _ a0 x2 x3 M M'  (fun a0 x2 x3 M h => ih a0 x2 x3 M h) h
  exact key n a0 x2 x3 M h
theorem K_Pa_findFalls (n : Nat) (E : zE) (S : zS) (a0 : Nat) (a1 : Nat) (x2 : Int32) (M : zH) (M' : zH)  (h : F_Pa_findFalls n E S a0 a1 x2 M = some M') : zG E Y_Pa_findFalls (none, S, M') 0 [(0, .ref a0), (1, .ref a1), (2, .int x2)] [] S M 0 0 := by
  unfold F_Pa_findFalls at h
  refine zi_aload_n 0 d_Pa_findFalls_0 rfl ?_
  obtain ⟨b_13, eb_13, h⟩ := zbind h
  refine zo_getR 4 zkd_4 1 d_Pa_findFalls_1 eb_13 rfl tw_299 rfl ?_
  refine zi_aload_n 1 d_Pa_findFalls_4 rfl ?_
  obtain ⟨u_14, eu_14, h⟩ := zbind h
  obtain ⟨q_15, eq_15, h⟩ := zbind h
  refine zo_virt (k' := 0) (n' := 0) 8 [.ref a1] [] [] zkd_3 (zck_s eu_14) (C_Ni_copyFrom n E S b_13 a1 M q_15 eq_15) d_Pa_findFalls_5 tw_865 tw_982 tw_863 tw_864 tw_2 dd_Ni_copyFrom ⟨Nat.le_of_ble_eq_true rfl, Nat.le_of_ble_eq_true rfl, Nat.le_of_ble_eq_true rfl, Nat.le_of_ble_eq_true rfl⟩ (Nat.le_of_ble_eq_true rfl) rfl rfl rfl rfl ?_
  refine zi_iconst 0 d_Pa_findFalls_8 rfl ?_
  refine zi_istore_n [(3, .int 0), (0, .ref a0), (1, .ref a1), (2, .int x2)] d_Pa_findFalls_9 (by decide) rfl ?_
  refine zi_lo [(0, .ref a0), (2, .int x2), (3, .int 0)] [1, 3, 0] rfl ?_
  exact K_Pa_findFalls_b10 n E S a0 x2 0 q_15 M'  h
theorem C_Pa_findFalls (n : Nat) (E : zE) (S : zS) (a0 : Nat) (a1 : Nat) (x2 : Int32) (M : zH) (M' : zH) (h : F_Pa_findFalls n E S a0 a1 x2 M = some M') : zC E Y_Pa_findFalls [.ref a0, .ref a1, .int x2] S M (none, S, M') :=
  zC.of (Or.inl (show plainName "NightColander$Paper" = true by decide)) (Nat.le_of_ble_eq_true rfl) (trivial) (K_Pa_findFalls n E S a0 a1 x2 M M' h)
