/-! METHODS (printed by gen/build.py): Mo_peas Mo_four Mo_feed Mo_end Mo_fault Mo_isDigit Mo_isSmall Mo_next Mo_begin Mo_beginText Mo_must Mo_endText Mo_isSign Mo_isWord Mo_binds Mo_inner Mo_isCompared Mo_push -/
theorem d_Mo_peas_0 : decode (yB Y_Mo_peas) 0 = .ok (.aload_n 0, 1) := by decide +kernel
theorem d_Mo_peas_1 : decode (yB Y_Mo_peas) 1 = .ok (.iconst 0, 1) := by decide +kernel
theorem d_Mo_peas_2 : decode (yB Y_Mo_peas) 2 = .ok (.putfield 156, 3) := by decide +kernel
theorem d_Mo_peas_5 : decode (yB Y_Mo_peas) 5 = .ok (.aload_n 0, 1) := by decide +kernel
theorem d_Mo_peas_6 : decode (yB Y_Mo_peas) 6 = .ok (.getfield 247, 3) := by decide +kernel
theorem d_Mo_peas_9 : decode (yB Y_Mo_peas) 9 = .ok (.ireturn, 1) := by decide +kernel
def F_Mo_peas (n : Nat) (E : zE) (S : zS) (a0 : Nat) (M : zH) : Option (Int32 × zH) :=
  (zpI S M a0 11 0 0).bind fun m_1 =>
  (zgI S m_1 a0 11 11).bind fun v_2 =>
  some (v_2, m_1)
theorem K_Mo_peas (n : Nat) (E : zE) (S : zS) (a0 : Nat) (M : zH) (r : Int32) (M' : zH)  (h : F_Mo_peas n E S a0 M = some (r, M')) : zG E Y_Mo_peas (some (.int r), S, M') 0 [(0, .ref a0)] [] S M 0 0 := by
  unfold F_Mo_peas at h
  refine zi_aload_n 0 d_Mo_peas_0 rfl ?_
  refine zi_iconst 0 d_Mo_peas_1 rfl ?_
  obtain ⟨m_1, em_1, h⟩ := zbind h
  refine zo_putI 5 zkd_11 0 d_Mo_peas_2 em_1 rfl rfl rfl tw_1229 rfl ?_
  refine zi_aload_n 0 d_Mo_peas_5 rfl ?_
  obtain ⟨v_2, ev_2, h⟩ := zbind h
  refine zo_getI 9 zkd_11 11 d_Mo_peas_6 ev_2 rfl tw_1240 rfl ?_
  cases h
  exact zo_ret d_Mo_peas_9 (Nat.le_of_ble_eq_true rfl) (Nat.le_of_ble_eq_true rfl) rfl
theorem C_Mo_peas (n : Nat) (E : zE) (S : zS) (a0 : Nat) (M : zH) (r : Int32) (M' : zH) (h : F_Mo_peas n E S a0 M = some (r, M')) : zC E Y_Mo_peas [.ref a0] S M (some (.int r), S, M') :=
  zC.of (Or.inl (show plainName "NightColanderModel" = true by decide)) (Nat.le_of_ble_eq_true rfl) (trivial) (K_Mo_peas n E S a0 M r M' h)
theorem d_Mo_four_0 : decode (yB Y_Mo_four) 0 = .ok (.bipush 24, 2) := by decide +kernel
theorem d_Mo_four_2 : decode (yB Y_Mo_four) 2 = .ok (.istore_n 2, 1) := by decide +kernel
theorem d_Mo_four_3 : decode (yB Y_Mo_four) 3 = .ok (.iload_n 2, 1) := by decide +kernel
theorem d_Mo_four_4 : decode (yB Y_Mo_four) 4 = .ok (.ifCond .lt 35, 3) := by decide +kernel
theorem d_Mo_four_7 : decode (yB Y_Mo_four) 7 = .ok (.aload_n 0, 1) := by decide +kernel
theorem d_Mo_four_8 : decode (yB Y_Mo_four) 8 = .ok (.getfield 35, 3) := by decide +kernel
theorem d_Mo_four_11 : decode (yB Y_Mo_four) 11 = .ok (.aload_n 0, 1) := by decide +kernel
theorem d_Mo_four_12 : decode (yB Y_Mo_four) 12 = .ok (.getfield 244, 3) := by decide +kernel
theorem d_Mo_four_15 : decode (yB Y_Mo_four) 15 = .ok (.iload_n 1, 1) := by decide +kernel
theorem d_Mo_four_16 : decode (yB Y_Mo_four) 16 = .ok (.iload_n 2, 1) := by decide +kernel
theorem d_Mo_four_17 : decode (yB Y_Mo_four) 17 = .ok (.ishr, 1) := by decide +kernel
theorem d_Mo_four_18 : decode (yB Y_Mo_four) 18 = .ok (.sipush 255, 3) := by decide +kernel
theorem d_Mo_four_21 : decode (yB Y_Mo_four) 21 = .ok (.iand, 1) := by decide +kernel
theorem d_Mo_four_22 : decode (yB Y_Mo_four) 22 = .ok (.iastore, 1) := by decide +kernel
theorem d_Mo_four_23 : decode (yB Y_Mo_four) 23 = .ok (.aload_n 0, 1) := by decide +kernel
theorem d_Mo_four_24 : decode (yB Y_Mo_four) 24 = .ok (.dup, 1) := by decide +kernel
theorem d_Mo_four_25 : decode (yB Y_Mo_four) 25 = .ok (.getfield 244, 3) := by decide +kernel
theorem d_Mo_four_28 : decode (yB Y_Mo_four) 28 = .ok (.iconst 1, 1) := by decide +kernel
theorem d_Mo_four_29 : decode (yB Y_Mo_four) 29 = .ok (.iadd, 1) := by decide +kernel
theorem d_Mo_four_30 : decode (yB Y_Mo_four) 30 = .ok (.putfield 244, 3) := by decide +kernel
theorem d_Mo_four_33 : decode (yB Y_Mo_four) 33 = .ok (.iinc 2 (-8), 3) := by decide +kernel
theorem d_Mo_four_36 : decode (yB Y_Mo_four) 36 = .ok (.goto (-33), 3) := by decide +kernel
theorem d_Mo_four_39 : decode (yB Y_Mo_four) 39 = .ok (.return_, 1) := by decide +kernel
def F_Mo_four_L3 (n : Nat) (E : zE) (S : zS) (r3 : Nat × Int32 × Int32 × zH → Option (zH)) (a0 : Nat) (x1 : Int32) (x2 : Int32) (M : zH) : Option (zH) :=
  if x2 < 0 then
    some (M)
  else
    (zgR S a0 11 12).bind fun b_2 =>
    (zgI S M a0 11 13).bind fun v_3 =>
    (zstI S M b_2 v_3 ((x1 >>> (x2 &&& (31 : Int32))) &&& (255 : Int32))).bind fun m_4 =>
    (zgI S m_4 a0 11 13).bind fun v_5 =>
    (zpI S m_4 a0 11 13 (v_5 + 1)).bind fun m_6 =>
    r3 (a0, x1, x2 + (-8), m_6)
def F_Mo_four_b3 (n : Nat) (E : zE) (S : zS) : Nat × Int32 × Int32 × zH → Option (zH) := zfix (fun r3 s => F_Mo_four_L3 n E S r3 s.1 s.2.1 s.2.2.1 s.2.2.2) n
def F_Mo_four (n : Nat) (E : zE) (S : zS) (a0 : Nat) (x1 : Int32) (M : zH) : Option (zH) :=
  F_Mo_four_b3 n E S (a0, x1, 24, M)
theorem K_Mo_four_L3 (n : Nat) (E : zE) (S : zS) (r3 : Nat × Int32 × Int32 × zH → Option (zH)) (a0 : Nat) (x1 : Int32) (x2 : Int32) (M : zH) (M' : zH) (hr3 : ∀ (a0 : Nat) (x1 : Int32) (x2 : Int32) (M : zH), r3 (a0, x1, x2, M) = some M' → zG E Y_Mo_four (none, S, M') 3 [(0, .ref a0), (1, .int x1), (2, .int x2)] [] S M 0 0) (h : F_Mo_four_L3 n E S r3 a0 x1 x2 M = some M') : zG E Y_Mo_four (none, S, M') 3 [(0, .ref a0), (1, .int x1), (2, .int x2)] [] S M 0 0 := by
  unfold F_Mo_four_L3 at h
  refine zi_iload_n 2 d_Mo_four_3 rfl ?_
  refine zi_if_lt (tgt := 39) d_Mo_four_4 rfl (fun c_1 => ?_) (fun c_1 => ?_)
  · rw [if_pos c_1] at h
    cases h
    exact zo_ret d_Mo_four_39 (Nat.le_of_ble_eq_true rfl) (Nat.le_of_ble_eq_true rfl) rfl
  · rw [if_neg c_1] at h
    refine zi_aload_n 0 d_Mo_four_7 rfl ?_
    obtain ⟨b_2, eb_2, h⟩ := zbind h
    refine zo_getR 11 zkd_11 12 d_Mo_four_8 eb_2 rfl tw_1241 rfl ?_
    refine zi_aload_n 0 d_Mo_four_11 rfl ?_
    obtain ⟨v_3, ev_3, h⟩ := zbind h
    refine zo_getI 15 zkd_11 13 d_Mo_four_12 ev_3 rfl tw_1242 rfl ?_
    refine zi_iload_n 1 d_Mo_four_15 rfl ?_
    refine zi_iload_n 2 d_Mo_four_16 rfl ?_
    refine zi_ishr d_Mo_four_17 ?_
    refine zi_sipush 255 d_Mo_four_18 rfl ?_
    refine zi_iand d_Mo_four_21 ?_
    obtain ⟨m_4, em_4, h⟩ := zbind h
    refine zo_iast 23 d_Mo_four_22 em_4 rfl ?_
    refine zi_aload_n 0 d_Mo_four_23 rfl ?_
    refine zi_dup d_Mo_four_24 rfl ?_
    obtain ⟨v_5, ev_5, h⟩ := zbind h
    refine zo_getI 28 zkd_11 13 d_Mo_four_25 ev_5 rfl tw_1242 rfl ?_
    refine zi_iconst 1 d_Mo_four_28 rfl ?_
    refine zi_iadd d_Mo_four_29 ?_
    obtain ⟨m_6, em_6, h⟩ := zbind h
    refine zo_putI 33 zkd_11 13 d_Mo_four_30 em_6 rfl rfl rfl tw_1242 rfl ?_
    refine zi_iinc 2 (x2 + (-8)) [(2, .int (x2 + (-8))), (0, .ref a0), (1, .int x1)] d_Mo_four_33 rfl rfl (by decide) rfl ?_
    refine zi_goto (tgt := 3) d_Mo_four_36 rfl ?_
    refine zi_lo [(0, .ref a0), (1, .int x1), (2, .int (x2 + (-8)))] [1, 2, 0] rfl ?_
    exact hr3 a0 x1 (x2 + (-8)) m_6 h
theorem K_Mo_four_b3 (n : Nat) (E : zE) (S : zS) (a0 : Nat) (x1 : Int32) (x2 : Int32) (M : zH) (M' : zH)  (h : F_Mo_four_b3 n E S (a0, x1, x2, M) = some M') : zG E Y_Mo_four (none, S, M') 3 [(0, .ref a0), (1, .int x1), (2, .int x2)] [] S M 0 0 := by
  have key : ∀ (k : Nat) (a0 : Nat) (x1 : Int32) (x2 : Int32) (M : zH), zfix (fun r3 s => F_Mo_four_L3 n E S r3 s.1 s.2.1 s.2.2.1 s.2.2.2) k (a0, x1, x2, M) = some M' → zG E Y_Mo_four (none, S, M') 3 [(0, .ref a0), (1, .int x1), (2, .int x2)] [] S M 0 0 := by
    intro k
    induction k with
    | zero => intro a0 x1 x2 M h; cases h
    | succ k ih => intro a0 x1 x2 M h; exact K_Mo_four_L3 n E S _ a0 x1 x2 M M'  (fun a0 x1 x2 M h => ih a0 x1 x2 M h) h
  exact key n a0 x1 x2 M h
theorem K_Mo_four (n : Nat) (E : zE) (S : zS) (a0 : Nat) (x1 : Int32) (M : zH) (M' : zH)  (h : F_Mo_four n E S a0 x1 M = some M') : zG E Y_Mo_four (none, S, M') 0 [(0, .ref a0), (1, .int x1)] [] S M 0 0 := by
  unfold F_Mo_four at h
  refine zi_bipush 24 d_Mo_four_0 rfl ?_
  refine zi_istore_n [(2, .int 24), (0, .ref a0), (1, .int x1)] d_Mo_four_2 (by decide) rfl ?_
  refine zi_lo [(0, .ref a0), (1, .int x1), (2, .int 24)] [1, 2, 0] rfl ?_
  exact K_Mo_four_b3 n E S a0 x1 24 M M'  h
theorem C_Mo_four (n : Nat) (E : zE) (S : zS) (a0 : Nat) (x1 : Int32) (M : zH) (M' : zH) (h : F_Mo_four n E S a0 x1 M = some M') : zC E Y_Mo_four [.ref a0, .int x1] S M (none, S, M') :=
  zC.of (Or.inl (show plainName "NightColanderModel" = true by decide)) (Nat.le_of_ble_eq_true rfl) (trivial) (K_Mo_four n E S a0 x1 M M' h)
theorem d_Mo_feed_0 : decode (yB Y_Mo_feed) 0 = .ok (.aload_n 0, 1) := by decide +kernel
theorem d_Mo_feed_1 : decode (yB Y_Mo_feed) 1 = .ok (.iconst 0, 1) := by decide +kernel
theorem d_Mo_feed_2 : decode (yB Y_Mo_feed) 2 = .ok (.putfield 156, 3) := by decide +kernel
theorem d_Mo_feed_5 : decode (yB Y_Mo_feed) 5 = .ok (.aload_n 0, 1) := by decide +kernel
theorem d_Mo_feed_6 : decode (yB Y_Mo_feed) 6 = .ok (.getfield 244, 3) := by decide +kernel
theorem d_Mo_feed_9 : decode (yB Y_Mo_feed) 9 = .ok (.bipush 20, 2) := by decide +kernel
theorem d_Mo_feed_11 : decode (yB Y_Mo_feed) 11 = .ok (.iadd, 1) := by decide +kernel
theorem d_Mo_feed_12 : decode (yB Y_Mo_feed) 12 = .ok (.sipush 400, 3) := by decide +kernel
theorem d_Mo_feed_15 : decode (yB Y_Mo_feed) 15 = .ok (.if_icmp .le 5, 3) := by decide +kernel
theorem d_Mo_feed_18 : decode (yB Y_Mo_feed) 18 = .ok (.iconst (-1), 1) := by decide +kernel
theorem d_Mo_feed_19 : decode (yB Y_Mo_feed) 19 = .ok (.ireturn, 1) := by decide +kernel
theorem d_Mo_feed_20 : decode (yB Y_Mo_feed) 20 = .ok (.aload_n 0, 1) := by decide +kernel
theorem d_Mo_feed_21 : decode (yB Y_Mo_feed) 21 = .ok (.iload_n 1, 1) := by decide +kernel
theorem d_Mo_feed_22 : decode (yB Y_Mo_feed) 22 = .ok (.invokevirtual 250, 3) := by decide +kernel
theorem d_Mo_feed_25 : decode (yB Y_Mo_feed) 25 = .ok (.aload_n 0, 1) := by decide +kernel
theorem d_Mo_feed_26 : decode (yB Y_Mo_feed) 26 = .ok (.iload_n 2, 1) := by decide +kernel
theorem d_Mo_feed_27 : decode (yB Y_Mo_feed) 27 = .ok (.invokevirtual 250, 3) := by decide +kernel
theorem d_Mo_feed_30 : decode (yB Y_Mo_feed) 30 = .ok (.aload_n 0, 1) := by decide +kernel
theorem d_Mo_feed_31 : decode (yB Y_Mo_feed) 31 = .ok (.iload_n 3, 1) := by decide +kernel
theorem d_Mo_feed_32 : decode (yB Y_Mo_feed) 32 = .ok (.invokevirtual 250, 3) := by decide +kernel
theorem d_Mo_feed_35 : decode (yB Y_Mo_feed) 35 = .ok (.aload_n 0, 1) := by decide +kernel
theorem d_Mo_feed_36 : decode (yB Y_Mo_feed) 36 = .ok (.iload 4, 2) := by decide +kernel
theorem d_Mo_feed_38 : decode (yB Y_Mo_feed) 38 = .ok (.invokevirtual 250, 3) := by decide +kernel
theorem d_Mo_feed_41 : decode (yB Y_Mo_feed) 41 = .ok (.aload_n 0, 1) := by decide +kernel
theorem d_Mo_feed_42 : decode (yB Y_Mo_feed) 42 = .ok (.iload 5, 2) := by decide +kernel
theorem d_Mo_feed_44 : decode (yB Y_Mo_feed) 44 = .ok (.invokevirtual 250, 3) := by decide +kernel
theorem d_Mo_feed_47 : decode (yB Y_Mo_feed) 47 = .ok (.aload_n 0, 1) := by decide +kernel
theorem d_Mo_feed_48 : decode (yB Y_Mo_feed) 48 = .ok (.getfield 244, 3) := by decide +kernel
theorem d_Mo_feed_51 : decode (yB Y_Mo_feed) 51 = .ok (.ireturn, 1) := by decide +kernel
def F_Mo_feed (n : Nat) (E : zE) (S : zS) (a0 : Nat) (x1 : Int32) (x2 : Int32) (x3 : Int32) (x4 : Int32) (x5 : Int32) (M : zH) : Option (Int32 × zH) :=
  (zpI S M a0 11 0 0).bind fun m_1 =>
  (zgI S m_1 a0 11 13).bind fun v_2 =>
  if (v_2 + 20) ≤ 400 then
    (F_Mo_four n E S a0 x1 m_1).bind fun q_4 =>
    (F_Mo_four n E S a0 x2 q_4).bind fun q_5 =>
    (F_Mo_four n E S a0 x3 q_5).bind fun q_6 =>
    (F_Mo_four n E S a0 x4 q_6).bind fun q_7 =>
    (F_Mo_four n E S a0 x5 q_7).bind fun q_8 =>
    (zgI S q_8 a0 11 13).bind fun v_9 =>
    some (v_9, q_8)
  else
    some ((-1), m_1)
theorem K_Mo_feed (n : Nat) (E : zE) (S : zS) (a0 : Nat) (x1 : Int32) (x2 : Int32) (x3 : Int32) (x4 : Int32) (x5 : Int32) (M : zH) (r : Int32) (M' : zH)  (h : F_Mo_feed n E S a0 x1 x2 x3 x4 x5 M = some (r, M')) : zG E Y_Mo_feed (some (.int r), S, M') 0 [(0, .ref a0), (1, .int x1), (2, .int x2), (3, .int x3), (4, .int x4), (5, .int x5)] [] S M 0 0 := by
  unfold F_Mo_feed at h
  refine zi_aload_n 0 d_Mo_feed_0 rfl ?_
  refine zi_iconst 0 d_Mo_feed_1 rfl ?_
  obtain ⟨m_1, em_1, h⟩ := zbind h
  refine zo_putI 5 zkd_11 0 d_Mo_feed_2 em_1 rfl rfl rfl tw_1229 rfl ?_
  refine zi_aload_n 0 d_Mo_feed_5 rfl ?_
  obtain ⟨v_2, ev_2, h⟩ := zbind h
  refine zo_getI 9 zkd_11 13 d_Mo_feed_6 ev_2 rfl tw_1242 rfl ?_
  refine zi_bipush 20 d_Mo_feed_9 rfl ?_
  refine zi_iadd d_Mo_feed_11 ?_
  refine zi_sipush 400 d_Mo_feed_12 rfl ?_
  refine zi_icmp_le (tgt := 20) d_Mo_feed_15 rfl (fun c_3 => ?_) (fun c_3 => ?_)
  · rw [if_pos c_3] at h
    refine zi_aload_n 0 d_Mo_feed_20 rfl ?_
    refine zi_iload_n 1 d_Mo_feed_21 rfl ?_
    obtain ⟨q_4, eq_4, h⟩ := zbind h
    refine zo_virt (k' := 0) (n' := 0) 25 [.int x1] [] [] zkd_11 (zgI_s ev_2).1 (C_Mo_four n E S a0 x1 m_1 q_4 eq_4) d_Mo_feed_22 tw_1553 tw_1550 tw_1552 ts_53 tw_13 dd_Mo_four ⟨Nat.le_of_ble_eq_true rfl, Nat.le_of_ble_eq_true rfl, Nat.le_of_ble_eq_true rfl, Nat.le_of_ble_eq_true rfl⟩ (Nat.le_of_ble_eq_true rfl) rfl rfl rfl rfl ?_
    refine zi_aload_n 0 d_Mo_feed_25 rfl ?_
    refine zi_iload_n 2 d_Mo_feed_26 rfl ?_
    obtain ⟨q_5, eq_5, h⟩ := zbind h
    refine zo_virt (k' := 0) (n' := 0) 30 [.int x2] [] [] zkd_11 (zgI_s ev_2).1 (C_Mo_four n E S a0 x2 q_4 q_5 eq_5) d_Mo_feed_27 tw_1553 tw_1550 tw_1552 ts_53 tw_13 dd_Mo_four ⟨Nat.le_of_ble_eq_true rfl, Nat.le_of_ble_eq_true rfl, Nat.le_of_ble_eq_true rfl, Nat.le_of_ble_eq_true rfl⟩ (Nat.le_of_ble_eq_true rfl) rfl rfl rfl rfl ?_
    refine zi_aload_n 0 d_Mo_feed_30 rfl ?_
    refine zi_iload_n 3 d_Mo_feed_31 rfl ?_
    obtain ⟨q_6, eq_6, h⟩ := zbind h
    refine zo_virt (k' := 0) (n' := 0) 35 [.int x3] [] [] zkd_11 (zgI_s ev_2).1 (C_Mo_four n E S a0 x3 q_5 q_6 eq_6) d_Mo_feed_32 tw_1553 tw_1550 tw_1552 ts_53 tw_13 dd_Mo_four ⟨Nat.le_of_ble_eq_true rfl, Nat.le_of_ble_eq_true rfl, Nat.le_of_ble_eq_true rfl, Nat.le_of_ble_eq_true rfl⟩ (Nat.le_of_ble_eq_true rfl) rfl rfl rfl rfl ?_
    refine zi_aload_n 0 d_Mo_feed_35 rfl ?_
    refine zi_iload 4 d_Mo_feed_36 rfl ?_
    obtain ⟨q_7, eq_7, h⟩ := zbind h
    refine zo_virt (k' := 0) (n' := 0) 41 [.int x4] [] [] zkd_11 (zgI_s ev_2).1 (C_Mo_four n E S a0 x4 q_6 q_7 eq_7) d_Mo_feed_38 tw_1553 tw_1550 tw_1552 ts_53 tw_13 dd_Mo_four ⟨Nat.le_of_ble_eq_true rfl, Nat.le_of_ble_eq_true rfl, Nat.le_of_ble_eq_true rfl, Nat.le_of_ble_eq_true rfl⟩ (Nat.le_of_ble_eq_true rfl) rfl rfl rfl rfl ?_
    refine zi_aload_n 0 d_Mo_feed_41 rfl ?_
    refine zi_iload 5 d_Mo_feed_42 rfl ?_
    obtain ⟨q_8, eq_8, h⟩ := zbind h
    refine zo_virt (k' := 0) (n' := 0) 47 [.int x5] [] [] zkd_11 (zgI_s ev_2).1 (C_Mo_four n E S a0 x5 q_7 q_8 eq_8) d_Mo_feed_44 tw_1553 tw_1550 tw_1552 ts_53 tw_13 dd_Mo_four ⟨Nat.le_of_ble_eq_true rfl, Nat.le_of_ble_eq_true rfl, Nat.le_of_ble_eq_true rfl, Nat.le_of_ble_eq_true rfl⟩ (Nat.le_of_ble_eq_true rfl) rfl rfl rfl rfl ?_
    refine zi_aload_n 0 d_Mo_feed_47 rfl ?_
    obtain ⟨v_9, ev_9, h⟩ := zbind h
    refine zo_getI 51 zkd_11 13 d_Mo_feed_48 ev_9 rfl tw_1242 rfl ?_
    cases h
    exact zo_ret d_Mo_feed_51 (Nat.le_of_ble_eq_true rfl) (Nat.le_of_ble_eq_true rfl) rfl
  · rw [if_neg c_3] at h
    refine zi_iconst (-1) d_Mo_feed_18 rfl ?_
    cases h
    exact zo_ret d_Mo_feed_19 (Nat.le_of_ble_eq_true rfl) (Nat.le_of_ble_eq_true rfl) rfl
theorem C_Mo_feed (n : Nat) (E : zE) (S : zS) (a0 : Nat) (x1 : Int32) (x2 : Int32) (x3 : Int32) (x4 : Int32) (x5 : Int32) (M : zH) (r : Int32) (M' : zH) (h : F_Mo_feed n E S a0 x1 x2 x3 x4 x5 M = some (r, M')) : zC E Y_Mo_feed [.ref a0, .int x1, .int x2, .int x3, .int x4, .int x5] S M (some (.int r), S, M') :=
  zC.of (Or.inl (show plainName "NightColanderModel" = true by decide)) (Nat.le_of_ble_eq_true rfl) (trivial) (K_Mo_feed n E S a0 x1 x2 x3 x4 x5 M r M' h)
theorem d_Mo_end_0 : decode (yB Y_Mo_end) 0 = .ok (.aload_n 0, 1) := by decide +kernel
theorem d_Mo_end_1 : decode (yB Y_Mo_end) 1 = .ok (.iconst 0, 1) := by decide +kernel
theorem d_Mo_end_2 : decode (yB Y_Mo_end) 2 = .ok (.putfield 156, 3) := by decide +kernel
theorem d_Mo_end_5 : decode (yB Y_Mo_end) 5 = .ok (.iload_n 1, 1) := by decide +kernel
theorem d_Mo_end_6 : decode (yB Y_Mo_end) 6 = .ok (.ifCond .lt 11, 3) := by decide +kernel
theorem d_Mo_end_9 : decode (yB Y_Mo_end) 9 = .ok (.iload_n 1, 1) := by decide +kernel
theorem d_Mo_end_10 : decode (yB Y_Mo_end) 10 = .ok (.aload_n 0, 1) := by decide +kernel
theorem d_Mo_end_11 : decode (yB Y_Mo_end) 11 = .ok (.getfield 244, 3) := by decide +kernel
theorem d_Mo_end_14 : decode (yB Y_Mo_end) 14 = .ok (.if_icmp .le 5, 3) := by decide +kernel
theorem d_Mo_end_17 : decode (yB Y_Mo_end) 17 = .ok (.iconst (-1), 1) := by decide +kernel
theorem d_Mo_end_18 : decode (yB Y_Mo_end) 18 = .ok (.ireturn, 1) := by decide +kernel
theorem d_Mo_end_19 : decode (yB Y_Mo_end) 19 = .ok (.aload_n 0, 1) := by decide +kernel
theorem d_Mo_end_20 : decode (yB Y_Mo_end) 20 = .ok (.iload_n 1, 1) := by decide +kernel
theorem d_Mo_end_21 : decode (yB Y_Mo_end) 21 = .ok (.putfield 244, 3) := by decide +kernel
theorem d_Mo_end_24 : decode (yB Y_Mo_end) 24 = .ok (.iload_n 1, 1) := by decide +kernel
theorem d_Mo_end_25 : decode (yB Y_Mo_end) 25 = .ok (.ireturn, 1) := by decide +kernel
def F_Mo_end (n : Nat) (E : zE) (S : zS) (a0 : Nat) (x1 : Int32) (M : zH) : Option (Int32 × zH) :=
  (zpI S M a0 11 0 0).bind fun m_1 =>
  if x1 < 0 then
    some ((-1), m_1)
  else
    (zgI S m_1 a0 11 13).bind fun v_3 =>
    if x1 ≤ v_3 then
      (zpI S m_1 a0 11 13 x1).bind fun m_5 =>
      some (x1, m_5)
    else
      some ((-1), m_1)
theorem K_Mo_end (n : Nat) (E : zE) (S : zS) (a0 : Nat) (x1 : Int32) (M : zH) (r : Int32) (M' : zH)  (h : F_Mo_end n E S a0 x1 M = some (r, M')) : zG E Y_Mo_end (some (.int r), S, M') 0 [(0, .ref a0), (1, .int x1)] [] S M 0 0 := by
  unfold F_Mo_end at h
  refine zi_aload_n 0 d_Mo_end_0 rfl ?_
  refine zi_iconst 0 d_Mo_end_1 rfl ?_
  obtain ⟨m_1, em_1, h⟩ := zbind h
  refine zo_putI 5 zkd_11 0 d_Mo_end_2 em_1 rfl rfl rfl tw_1229 rfl ?_
  refine zi_iload_n 1 d_Mo_end_5 rfl ?_
  refine zi_if_lt (tgt := 17) d_Mo_end_6 rfl (fun c_2 => ?_) (fun c_2 => ?_)
  · rw [if_pos c_2] at h
    refine zi_iconst (-1) d_Mo_end_17 rfl ?_
    cases h
    exact zo_ret d_Mo_end_18 (Nat.le_of_ble_eq_true rfl) (Nat.le_of_ble_eq_true rfl) rfl
  · rw [if_neg c_2] at h
    refine zi_iload_n 1 d_Mo_end_9 rfl ?_
    refine zi_aload_n 0 d_Mo_end_10 rfl ?_
    obtain ⟨v_3, ev_3, h⟩ := zbind h
    refine zo_getI 14 zkd_11 13 d_Mo_end_11 ev_3 rfl tw_1242 rfl ?_
    refine zi_icmp_le (tgt := 19) d_Mo_end_14 rfl (fun c_4 => ?_) (fun c_4 => ?_)
    · rw [if_pos c_4] at h
      refine zi_aload_n 0 d_Mo_end_19 rfl ?_
      refine zi_iload_n 1 d_Mo_end_20 rfl ?_
      obtain ⟨m_5, em_5, h⟩ := zbind h
      refine zo_putI 24 zkd_11 13 d_Mo_end_21 em_5 rfl rfl rfl tw_1242 rfl ?_
      refine zi_iload_n 1 d_Mo_end_24 rfl ?_
      cases h
      exact zo_ret d_Mo_end_25 (Nat.le_of_ble_eq_true rfl) (Nat.le_of_ble_eq_true rfl) rfl
    · rw [if_neg c_4] at h
      refine zi_iconst (-1) d_Mo_end_17 rfl ?_
      cases h
      exact zo_ret d_Mo_end_18 (Nat.le_of_ble_eq_true rfl) (Nat.le_of_ble_eq_true rfl) rfl
theorem C_Mo_end (n : Nat) (E : zE) (S : zS) (a0 : Nat) (x1 : Int32) (M : zH) (r : Int32) (M' : zH) (h : F_Mo_end n E S a0 x1 M = some (r, M')) : zC E Y_Mo_end [.ref a0, .int x1] S M (some (.int r), S, M') :=
  zC.of (Or.inl (show plainName "NightColanderModel" = true by decide)) (Nat.le_of_ble_eq_true rfl) (trivial) (K_Mo_end n E S a0 x1 M r M' h)
theorem d_Mo_fault_0 : decode (yB Y_Mo_fault) 0 = .ok (.aload_n 0, 1) := by decide +kernel
theorem d_Mo_fault_1 : decode (yB Y_Mo_fault) 1 = .ok (.iconst 0, 1) := by decide +kernel
theorem d_Mo_fault_2 : decode (yB Y_Mo_fault) 2 = .ok (.putfield 156, 3) := by decide +kernel
theorem d_Mo_fault_5 : decode (yB Y_Mo_fault) 5 = .ok (.aload_n 0, 1) := by decide +kernel
theorem d_Mo_fault_6 : decode (yB Y_Mo_fault) 6 = .ok (.getfield 38, 3) := by decide +kernel
theorem d_Mo_fault_9 : decode (yB Y_Mo_fault) 9 = .ok (.ireturn, 1) := by decide +kernel
def F_Mo_fault (n : Nat) (E : zE) (S : zS) (a0 : Nat) (M : zH) : Option (Int32 × zH) :=
  (zpI S M a0 11 0 0).bind fun m_1 =>
  (zgI S m_1 a0 11 18).bind fun v_2 =>
  some (v_2, m_1)
theorem K_Mo_fault (n : Nat) (E : zE) (S : zS) (a0 : Nat) (M : zH) (r : Int32) (M' : zH)  (h : F_Mo_fault n E S a0 M = some (r, M')) : zG E Y_Mo_fault (some (.int r), S, M') 0 [(0, .ref a0)] [] S M 0 0 := by
  unfold F_Mo_fault at h
  refine zi_aload_n 0 d_Mo_fault_0 rfl ?_
  refine zi_iconst 0 d_Mo_fault_1 rfl ?_
  obtain ⟨m_1, em_1, h⟩ := zbind h
  refine zo_putI 5 zkd_11 0 d_Mo_fault_2 em_1 rfl rfl rfl tw_1229 rfl ?_
  refine zi_aload_n 0 d_Mo_fault_5 rfl ?_
  obtain ⟨v_2, ev_2, h⟩ := zbind h
  refine zo_getI 9 zkd_11 18 d_Mo_fault_6 ev_2 rfl tw_1247 rfl ?_
  cases h
  exact zo_ret d_Mo_fault_9 (Nat.le_of_ble_eq_true rfl) (Nat.le_of_ble_eq_true rfl) rfl
theorem C_Mo_fault (n : Nat) (E : zE) (S : zS) (a0 : Nat) (M : zH) (r : Int32) (M' : zH) (h : F_Mo_fault n E S a0 M = some (r, M')) : zC E Y_Mo_fault [.ref a0] S M (some (.int r), S, M') :=
  zC.of (Or.inl (show plainName "NightColanderModel" = true by decide)) (Nat.le_of_ble_eq_true rfl) (trivial) (K_Mo_fault n E S a0 M r M' h)
theorem d_Mo_isDigit_0 : decode (yB Y_Mo_isDigit) 0 = .ok (.iload_n 0, 1) := by decide +kernel
theorem d_Mo_isDigit_1 : decode (yB Y_Mo_isDigit) 1 = .ok (.bipush 48, 2) := by decide +kernel
theorem d_Mo_isDigit_3 : decode (yB Y_Mo_isDigit) 3 = .ok (.if_icmp .lt 13, 3) := by decide +kernel
theorem d_Mo_isDigit_6 : decode (yB Y_Mo_isDigit) 6 = .ok (.iload_n 0, 1) := by decide +kernel
theorem d_Mo_isDigit_7 : decode (yB Y_Mo_isDigit) 7 = .ok (.bipush 57, 2) := by decide +kernel
theorem d_Mo_isDigit_9 : decode (yB Y_Mo_isDigit) 9 = .ok (.if_icmp .gt 7, 3) := by decide +kernel
theorem d_Mo_isDigit_12 : decode (yB Y_Mo_isDigit) 12 = .ok (.iconst 1, 1) := by decide +kernel
theorem d_Mo_isDigit_13 : decode (yB Y_Mo_isDigit) 13 = .ok (.goto 4, 3) := by decide +kernel
theorem d_Mo_isDigit_16 : decode (yB Y_Mo_isDigit) 16 = .ok (.iconst 0, 1) := by decide +kernel
theorem d_Mo_isDigit_17 : decode (yB Y_Mo_isDigit) 17 = .ok (.ireturn, 1) := by decide +kernel
def F_Mo_isDigit (n : Nat) (E : zE) (S : zS) (x0 : Int32) (M : zH) : Option (Bool × zH) :=
  if x0 < 48 then
    some (false, M)
  else
    if 57 < x0 then
      some (false, M)
    else
      some (true, M)
theorem K_Mo_isDigit (n : Nat) (E : zE) (S : zS) (x0 : Int32) (M : zH) (r : Bool) (M' : zH)  (h : F_Mo_isDigit n E S x0 M = some (r, M')) : zG E Y_Mo_isDigit (some (.int (bI r)), S, M') 0 [(0, .int x0)] [] S M 0 0 := by
  unfold F_Mo_isDigit at h
  refine zi_iload_n 0 d_Mo_isDigit_0 rfl ?_
  refine zi_bipush 48 d_Mo_isDigit_1 rfl ?_
  refine zi_icmp_lt (tgt := 16) d_Mo_isDigit_3 rfl (fun c_1 => ?_) (fun c_1 => ?_)
  · rw [if_pos c_1] at h
    refine zi_iconst 0 d_Mo_isDigit_16 rfl ?_
    cases h
    exact zo_retB d_Mo_isDigit_17 (Nat.le_of_ble_eq_true rfl) (Nat.le_of_ble_eq_true rfl) rfl
  · rw [if_neg c_1] at h
    refine zi_iload_n 0 d_Mo_isDigit_6 rfl ?_
    refine zi_bipush 57 d_Mo_isDigit_7 rfl ?_
    refine zi_icmp_gt (tgt := 16) d_Mo_isDigit_9 rfl (fun c_2 => ?_) (fun c_2 => ?_)
    · rw [if_pos c_2] at h
      refine zi_iconst 0 d_Mo_isDigit_16 rfl ?_
      cases h
      exact zo_retB d_Mo_isDigit_17 (Nat.le_of_ble_eq_true rfl) (Nat.le_of_ble_eq_true rfl) rfl
    · rw [if_neg c_2] at h
      refine zi_iconst 1 d_Mo_isDigit_12 rfl ?_
      refine zi_goto (tgt := 17) d_Mo_isDigit_13 rfl ?_
      cases h
      exact zo_retB d_Mo_isDigit_17 (Nat.le_of_ble_eq_true rfl) (Nat.le_of_ble_eq_true rfl) rfl
theorem C_Mo_isDigit (n : Nat) (E : zE) (S : zS) (x0 : Int32) (M : zH) (r : Bool) (M' : zH) (h : F_Mo_isDigit n E S x0 M = some (r, M')) : zC E Y_Mo_isDigit [.int x0] S M (some (.int (bI r)), S, M') :=
  zC.of (Or.inl (show plainName "NightColanderModel" = true by decide)) (Nat.le_of_ble_eq_true rfl) (bI_nar r) (K_Mo_isDigit n E S x0 M r M' h)
theorem d_Mo_isSmall_0 : decode (yB Y_Mo_isSmall) 0 = .ok (.iload_n 0, 1) := by decide +kernel
theorem d_Mo_isSmall_1 : decode (yB Y_Mo_isSmall) 1 = .ok (.bipush 97, 2) := by decide +kernel
theorem d_Mo_isSmall_3 : decode (yB Y_Mo_isSmall) 3 = .ok (.if_icmp .lt 13, 3) := by decide +kernel
theorem d_Mo_isSmall_6 : decode (yB Y_Mo_isSmall) 6 = .ok (.iload_n 0, 1) := by decide +kernel
theorem d_Mo_isSmall_7 : decode (yB Y_Mo_isSmall) 7 = .ok (.bipush 122, 2) := by decide +kernel
theorem d_Mo_isSmall_9 : decode (yB Y_Mo_isSmall) 9 = .ok (.if_icmp .gt 7, 3) := by decide +kernel
theorem d_Mo_isSmall_12 : decode (yB Y_Mo_isSmall) 12 = .ok (.iconst 1, 1) := by decide +kernel
theorem d_Mo_isSmall_13 : decode (yB Y_Mo_isSmall) 13 = .ok (.goto 4, 3) := by decide +kernel
theorem d_Mo_isSmall_16 : decode (yB Y_Mo_isSmall) 16 = .ok (.iconst 0, 1) := by decide +kernel
theorem d_Mo_isSmall_17 : decode (yB Y_Mo_isSmall) 17 = .ok (.ireturn, 1) := by decide +kernel
def F_Mo_isSmall (n : Nat) (E : zE) (S : zS) (x0 : Int32) (M : zH) : Option (Bool × zH) :=
  if x0 < 97 then
    some (false, M)
  else
    if 122 < x0 then
      some (false, M)
    else
      some (true, M)
theorem K_Mo_isSmall (n : Nat) (E : zE) (S : zS) (x0 : Int32) (M : zH) (r : Bool) (M' : zH)  (h : F_Mo_isSmall n E S x0 M = some (r, M')) : zG E Y_Mo_isSmall (some (.int (bI r)), S, M') 0 [(0, .int x0)] [] S M 0 0 := by
  unfold F_Mo_isSmall at h
  refine zi_iload_n 0 d_Mo_isSmall_0 rfl ?_
  refine zi_bipush 97 d_Mo_isSmall_1 rfl ?_
  refine zi_icmp_lt (tgt := 16) d_Mo_isSmall_3 rfl (fun c_1 => ?_) (fun c_1 => ?_)
  · rw [if_pos c_1] at h
    refine zi_iconst 0 d_Mo_isSmall_16 rfl ?_
    cases h
    exact zo_retB d_Mo_isSmall_17 (Nat.le_of_ble_eq_true rfl) (Nat.le_of_ble_eq_true rfl) rfl
  · rw [if_neg c_1] at h
    refine zi_iload_n 0 d_Mo_isSmall_6 rfl ?_
    refine zi_bipush 122 d_Mo_isSmall_7 rfl ?_
    refine zi_icmp_gt (tgt := 16) d_Mo_isSmall_9 rfl (fun c_2 => ?_) (fun c_2 => ?_)
    · rw [if_pos c_2] at h
      refine zi_iconst 0 d_Mo_isSmall_16 rfl ?_
      cases h
      exact zo_retB d_Mo_isSmall_17 (Nat.le_of_ble_eq_true rfl) (Nat.le_of_ble_eq_true rfl) rfl
    · rw [if_neg c_2] at h
      refine zi_iconst 1 d_Mo_isSmall_12 rfl ?_
      refine zi_goto (tgt := 17) d_Mo_isSmall_13 rfl ?_
      cases h
      exact zo_retB d_Mo_isSmall_17 (Nat.le_of_ble_eq_true rfl) (Nat.le_of_ble_eq_true rfl) rfl
theorem C_Mo_isSmall (n : Nat) (E : zE) (S : zS) (x0 : Int32) (M : zH) (r : Bool) (M' : zH) (h : F_Mo_isSmall n E S x0 M = some (r, M')) : zC E Y_Mo_isSmall [.int x0] S M (some (.int (bI r)), S, M') :=
  zC.of (Or.inl (show plainName "NightColanderModel" = true by decide)) (Nat.le_of_ble_eq_true rfl) (bI_nar r) (K_Mo_isSmall n E S x0 M r M' h)
theorem d_Mo_next_0 : decode (yB Y_Mo_next) 0 = .ok (.aload_n 0, 1) := by decide +kernel
theorem d_Mo_next_1 : decode (yB Y_Mo_next) 1 = .ok (.aload_n 0, 1) := by decide +kernel
theorem d_Mo_next_2 : decode (yB Y_Mo_next) 2 = .ok (.getfield 253, 3) := by decide +kernel
theorem d_Mo_next_5 : decode (yB Y_Mo_next) 5 = .ok (.putfield 263, 3) := by decide +kernel
theorem d_Mo_next_8 : decode (yB Y_Mo_next) 8 = .ok (.aload_n 0, 1) := by decide +kernel
theorem d_Mo_next_9 : decode (yB Y_Mo_next) 9 = .ok (.getfield 263, 3) := by decide +kernel
theorem d_Mo_next_12 : decode (yB Y_Mo_next) 12 = .ok (.aload_n 0, 1) := by decide +kernel
theorem d_Mo_next_13 : decode (yB Y_Mo_next) 13 = .ok (.getfield 244, 3) := by decide +kernel
theorem d_Mo_next_16 : decode (yB Y_Mo_next) 16 = .ok (.if_icmp .ge 30, 3) := by decide +kernel
theorem d_Mo_next_19 : decode (yB Y_Mo_next) 19 = .ok (.aload_n 0, 1) := by decide +kernel
theorem d_Mo_next_20 : decode (yB Y_Mo_next) 20 = .ok (.getfield 35, 3) := by decide +kernel
theorem d_Mo_next_23 : decode (yB Y_Mo_next) 23 = .ok (.aload_n 0, 1) := by decide +kernel
theorem d_Mo_next_24 : decode (yB Y_Mo_next) 24 = .ok (.getfield 263, 3) := by decide +kernel
theorem d_Mo_next_27 : decode (yB Y_Mo_next) 27 = .ok (.iaload, 1) := by decide +kernel
theorem d_Mo_next_28 : decode (yB Y_Mo_next) 28 = .ok (.bipush 32, 2) := by decide +kernel
theorem d_Mo_next_30 : decode (yB Y_Mo_next) 30 = .ok (.if_icmp .ne 16, 3) := by decide +kernel
theorem d_Mo_next_33 : decode (yB Y_Mo_next) 33 = .ok (.aload_n 0, 1) := by decide +kernel
theorem d_Mo_next_34 : decode (yB Y_Mo_next) 34 = .ok (.dup, 1) := by decide +kernel
theorem d_Mo_next_35 : decode (yB Y_Mo_next) 35 = .ok (.getfield 263, 3) := by decide +kernel
theorem d_Mo_next_38 : decode (yB Y_Mo_next) 38 = .ok (.iconst 1, 1) := by decide +kernel
theorem d_Mo_next_39 : decode (yB Y_Mo_next) 39 = .ok (.iadd, 1) := by decide +kernel
theorem d_Mo_next_40 : decode (yB Y_Mo_next) 40 = .ok (.putfield 263, 3) := by decide +kernel
theorem d_Mo_next_43 : decode (yB Y_Mo_next) 43 = .ok (.goto (-35), 3) := by decide +kernel
theorem d_Mo_next_46 : decode (yB Y_Mo_next) 46 = .ok (.aload_n 0, 1) := by decide +kernel
theorem d_Mo_next_47 : decode (yB Y_Mo_next) 47 = .ok (.aload_n 0, 1) := by decide +kernel
theorem d_Mo_next_48 : decode (yB Y_Mo_next) 48 = .ok (.getfield 263, 3) := by decide +kernel
theorem d_Mo_next_51 : decode (yB Y_Mo_next) 51 = .ok (.putfield 253, 3) := by decide +kernel
theorem d_Mo_next_54 : decode (yB Y_Mo_next) 54 = .ok (.aload_n 0, 1) := by decide +kernel
theorem d_Mo_next_55 : decode (yB Y_Mo_next) 55 = .ok (.lconst 0, 1) := by decide +kernel
theorem d_Mo_next_56 : decode (yB Y_Mo_next) 56 = .ok (.putfield 266, 3) := by decide +kernel
theorem d_Mo_next_59 : decode (yB Y_Mo_next) 59 = .ok (.aload_n 0, 1) := by decide +kernel
theorem d_Mo_next_60 : decode (yB Y_Mo_next) 60 = .ok (.aload_n 0, 1) := by decide +kernel
theorem d_Mo_next_61 : decode (yB Y_Mo_next) 61 = .ok (.getfield 263, 3) := by decide +kernel
theorem d_Mo_next_64 : decode (yB Y_Mo_next) 64 = .ok (.aload_n 0, 1) := by decide +kernel
theorem d_Mo_next_65 : decode (yB Y_Mo_next) 65 = .ok (.getfield 244, 3) := by decide +kernel
theorem d_Mo_next_68 : decode (yB Y_Mo_next) 68 = .ok (.if_icmp .ne 7, 3) := by decide +kernel
theorem d_Mo_next_71 : decode (yB Y_Mo_next) 71 = .ok (.iconst 0, 1) := by decide +kernel
theorem d_Mo_next_72 : decode (yB Y_Mo_next) 72 = .ok (.goto 42, 3) := by decide +kernel
theorem d_Mo_next_75 : decode (yB Y_Mo_next) 75 = .ok (.aload_n 0, 1) := by decide +kernel
theorem d_Mo_next_76 : decode (yB Y_Mo_next) 76 = .ok (.getfield 35, 3) := by decide +kernel
theorem d_Mo_next_79 : decode (yB Y_Mo_next) 79 = .ok (.aload_n 0, 1) := by decide +kernel
theorem d_Mo_next_80 : decode (yB Y_Mo_next) 80 = .ok (.getfield 263, 3) := by decide +kernel
theorem d_Mo_next_83 : decode (yB Y_Mo_next) 83 = .ok (.iaload, 1) := by decide +kernel
theorem d_Mo_next_84 : decode (yB Y_Mo_next) 84 = .ok (.invokestatic 270, 3) := by decide +kernel
theorem d_Mo_next_87 : decode (yB Y_Mo_next) 87 = .ok (.ifCond .eq 7, 3) := by decide +kernel
theorem d_Mo_next_90 : decode (yB Y_Mo_next) 90 = .ok (.iconst 1, 1) := by decide +kernel
theorem d_Mo_next_91 : decode (yB Y_Mo_next) 91 = .ok (.goto 23, 3) := by decide +kernel
theorem d_Mo_next_94 : decode (yB Y_Mo_next) 94 = .ok (.aload_n 0, 1) := by decide +kernel
theorem d_Mo_next_95 : decode (yB Y_Mo_next) 95 = .ok (.getfield 35, 3) := by decide +kernel
theorem d_Mo_next_98 : decode (yB Y_Mo_next) 98 = .ok (.aload_n 0, 1) := by decide +kernel
theorem d_Mo_next_99 : decode (yB Y_Mo_next) 99 = .ok (.getfield 263, 3) := by decide +kernel
theorem d_Mo_next_102 : decode (yB Y_Mo_next) 102 = .ok (.iaload, 1) := by decide +kernel
theorem d_Mo_next_103 : decode (yB Y_Mo_next) 103 = .ok (.invokestatic 273, 3) := by decide +kernel
theorem d_Mo_next_106 : decode (yB Y_Mo_next) 106 = .ok (.ifCond .eq 7, 3) := by decide +kernel
theorem d_Mo_next_109 : decode (yB Y_Mo_next) 109 = .ok (.iconst 2, 1) := by decide +kernel
theorem d_Mo_next_110 : decode (yB Y_Mo_next) 110 = .ok (.goto 4, 3) := by decide +kernel
theorem d_Mo_next_113 : decode (yB Y_Mo_next) 113 = .ok (.iconst 3, 1) := by decide +kernel
theorem d_Mo_next_114 : decode (yB Y_Mo_next) 114 = .ok (.putfield 276, 3) := by decide +kernel
theorem d_Mo_next_117 : decode (yB Y_Mo_next) 117 = .ok (.aload_n 0, 1) := by decide +kernel
theorem d_Mo_next_118 : decode (yB Y_Mo_next) 118 = .ok (.getfield 276, 3) := by decide +kernel
theorem d_Mo_next_121 : decode (yB Y_Mo_next) 121 = .ok (.iconst 3, 1) := by decide +kernel
theorem d_Mo_next_122 : decode (yB Y_Mo_next) 122 = .ok (.if_icmp .ne 27, 3) := by decide +kernel
theorem d_Mo_next_125 : decode (yB Y_Mo_next) 125 = .ok (.aload_n 0, 1) := by decide +kernel
theorem d_Mo_next_126 : decode (yB Y_Mo_next) 126 = .ok (.aload_n 0, 1) := by decide +kernel
theorem d_Mo_next_127 : decode (yB Y_Mo_next) 127 = .ok (.getfield 35, 3) := by decide +kernel
theorem d_Mo_next_130 : decode (yB Y_Mo_next) 130 = .ok (.aload_n 0, 1) := by decide +kernel
theorem d_Mo_next_131 : decode (yB Y_Mo_next) 131 = .ok (.getfield 263, 3) := by decide +kernel
theorem d_Mo_next_134 : decode (yB Y_Mo_next) 134 = .ok (.iaload, 1) := by decide +kernel
theorem d_Mo_next_135 : decode (yB Y_Mo_next) 135 = .ok (.i2l, 1) := by decide +kernel
theorem d_Mo_next_136 : decode (yB Y_Mo_next) 136 = .ok (.putfield 266, 3) := by decide +kernel
theorem d_Mo_next_139 : decode (yB Y_Mo_next) 139 = .ok (.aload_n 0, 1) := by decide +kernel
theorem d_Mo_next_140 : decode (yB Y_Mo_next) 140 = .ok (.dup, 1) := by decide +kernel
theorem d_Mo_next_141 : decode (yB Y_Mo_next) 141 = .ok (.getfield 253, 3) := by decide +kernel
theorem d_Mo_next_144 : decode (yB Y_Mo_next) 144 = .ok (.iconst 1, 1) := by decide +kernel
theorem d_Mo_next_145 : decode (yB Y_Mo_next) 145 = .ok (.iadd, 1) := by decide +kernel
theorem d_Mo_next_146 : decode (yB Y_Mo_next) 146 = .ok (.putfield 253, 3) := by decide +kernel
theorem d_Mo_next_149 : decode (yB Y_Mo_next) 149 = .ok (.aload_n 0, 1) := by decide +kernel
theorem d_Mo_next_150 : decode (yB Y_Mo_next) 150 = .ok (.getfield 276, 3) := by decide +kernel
theorem d_Mo_next_153 : decode (yB Y_Mo_next) 153 = .ok (.iconst 1, 1) := by decide +kernel
theorem d_Mo_next_154 : decode (yB Y_Mo_next) 154 = .ok (.if_icmp .ne 89, 3) := by decide +kernel
theorem d_Mo_next_157 : decode (yB Y_Mo_next) 157 = .ok (.aload_n 0, 1) := by decide +kernel
theorem d_Mo_next_158 : decode (yB Y_Mo_next) 158 = .ok (.getfield 253, 3) := by decide +kernel
theorem d_Mo_next_161 : decode (yB Y_Mo_next) 161 = .ok (.aload_n 0, 1) := by decide +kernel
theorem d_Mo_next_162 : decode (yB Y_Mo_next) 162 = .ok (.getfield 244, 3) := by decide +kernel
theorem d_Mo_next_165 : decode (yB Y_Mo_next) 165 = .ok (.if_icmp .ge 78, 3) := by decide +kernel
theorem d_Mo_next_168 : decode (yB Y_Mo_next) 168 = .ok (.aload_n 0, 1) := by decide +kernel
theorem d_Mo_next_169 : decode (yB Y_Mo_next) 169 = .ok (.getfield 35, 3) := by decide +kernel
theorem d_Mo_next_172 : decode (yB Y_Mo_next) 172 = .ok (.aload_n 0, 1) := by decide +kernel
theorem d_Mo_next_173 : decode (yB Y_Mo_next) 173 = .ok (.getfield 253, 3) := by decide +kernel
theorem d_Mo_next_176 : decode (yB Y_Mo_next) 176 = .ok (.iaload, 1) := by decide +kernel
theorem d_Mo_next_177 : decode (yB Y_Mo_next) 177 = .ok (.invokestatic 270, 3) := by decide +kernel
theorem d_Mo_next_180 : decode (yB Y_Mo_next) 180 = .ok (.ifCond .eq 63, 3) := by decide +kernel
theorem d_Mo_next_183 : decode (yB Y_Mo_next) 183 = .ok (.aload_n 0, 1) := by decide +kernel
theorem d_Mo_next_184 : decode (yB Y_Mo_next) 184 = .ok (.aload_n 0, 1) := by decide +kernel
theorem d_Mo_next_185 : decode (yB Y_Mo_next) 185 = .ok (.getfield 253, 3) := by decide +kernel
theorem d_Mo_next_188 : decode (yB Y_Mo_next) 188 = .ok (.aload_n 0, 1) := by decide +kernel
theorem d_Mo_next_189 : decode (yB Y_Mo_next) 189 = .ok (.getfield 263, 3) := by decide +kernel
theorem d_Mo_next_192 : decode (yB Y_Mo_next) 192 = .ok (.isub, 1) := by decide +kernel
theorem d_Mo_next_193 : decode (yB Y_Mo_next) 193 = .ok (.bipush 10, 2) := by decide +kernel
theorem d_Mo_next_195 : decode (yB Y_Mo_next) 195 = .ok (.if_icmp .ge 29, 3) := by decide +kernel
theorem d_Mo_next_198 : decode (yB Y_Mo_next) 198 = .ok (.aload_n 0, 1) := by decide +kernel
theorem d_Mo_next_199 : decode (yB Y_Mo_next) 199 = .ok (.getfield 266, 3) := by decide +kernel
theorem d_Mo_next_202 : decode (yB Y_Mo_next) 202 = .ok (.ldc2_w 279, 3) := by decide +kernel
theorem d_Mo_next_205 : decode (yB Y_Mo_next) 205 = .ok (.lmul, 1) := by decide +kernel
theorem d_Mo_next_206 : decode (yB Y_Mo_next) 206 = .ok (.aload_n 0, 1) := by decide +kernel
theorem d_Mo_next_207 : decode (yB Y_Mo_next) 207 = .ok (.getfield 35, 3) := by decide +kernel
theorem d_Mo_next_210 : decode (yB Y_Mo_next) 210 = .ok (.aload_n 0, 1) := by decide +kernel
theorem d_Mo_next_211 : decode (yB Y_Mo_next) 211 = .ok (.getfield 253, 3) := by decide +kernel
theorem d_Mo_next_214 : decode (yB Y_Mo_next) 214 = .ok (.iaload, 1) := by decide +kernel
theorem d_Mo_next_215 : decode (yB Y_Mo_next) 215 = .ok (.i2l, 1) := by decide +kernel
theorem d_Mo_next_216 : decode (yB Y_Mo_next) 216 = .ok (.ladd, 1) := by decide +kernel
theorem d_Mo_next_217 : decode (yB Y_Mo_next) 217 = .ok (.ldc2_w 281, 3) := by decide +kernel
theorem d_Mo_next_220 : decode (yB Y_Mo_next) 220 = .ok (.lsub, 1) := by decide +kernel
theorem d_Mo_next_221 : decode (yB Y_Mo_next) 221 = .ok (.goto 6, 3) := by decide +kernel
theorem d_Mo_next_224 : decode (yB Y_Mo_next) 224 = .ok (.ldc2_w 228, 3) := by decide +kernel
theorem d_Mo_next_227 : decode (yB Y_Mo_next) 227 = .ok (.putfield 266, 3) := by decide +kernel
theorem d_Mo_next_230 : decode (yB Y_Mo_next) 230 = .ok (.aload_n 0, 1) := by decide +kernel
theorem d_Mo_next_231 : decode (yB Y_Mo_next) 231 = .ok (.dup, 1) := by decide +kernel
theorem d_Mo_next_232 : decode (yB Y_Mo_next) 232 = .ok (.getfield 253, 3) := by decide +kernel
theorem d_Mo_next_235 : decode (yB Y_Mo_next) 235 = .ok (.iconst 1, 1) := by decide +kernel
theorem d_Mo_next_236 : decode (yB Y_Mo_next) 236 = .ok (.iadd, 1) := by decide +kernel
theorem d_Mo_next_237 : decode (yB Y_Mo_next) 237 = .ok (.putfield 253, 3) := by decide +kernel
theorem d_Mo_next_240 : decode (yB Y_Mo_next) 240 = .ok (.goto (-91), 3) := by decide +kernel
theorem d_Mo_next_243 : decode (yB Y_Mo_next) 243 = .ok (.aload_n 0, 1) := by decide +kernel
theorem d_Mo_next_244 : decode (yB Y_Mo_next) 244 = .ok (.getfield 276, 3) := by decide +kernel
theorem d_Mo_next_247 : decode (yB Y_Mo_next) 247 = .ok (.iconst 2, 1) := by decide +kernel
theorem d_Mo_next_248 : decode (yB Y_Mo_next) 248 = .ok (.if_icmp .ne 87, 3) := by decide +kernel
theorem d_Mo_next_251 : decode (yB Y_Mo_next) 251 = .ok (.aload_n 0, 1) := by decide +kernel
theorem d_Mo_next_252 : decode (yB Y_Mo_next) 252 = .ok (.getfield 253, 3) := by decide +kernel
theorem d_Mo_next_255 : decode (yB Y_Mo_next) 255 = .ok (.aload_n 0, 1) := by decide +kernel
theorem d_Mo_next_256 : decode (yB Y_Mo_next) 256 = .ok (.getfield 244, 3) := by decide +kernel
theorem d_Mo_next_259 : decode (yB Y_Mo_next) 259 = .ok (.if_icmp .ge 76, 3) := by decide +kernel
theorem d_Mo_next_262 : decode (yB Y_Mo_next) 262 = .ok (.aload_n 0, 1) := by decide +kernel
theorem d_Mo_next_263 : decode (yB Y_Mo_next) 263 = .ok (.getfield 35, 3) := by decide +kernel
theorem d_Mo_next_266 : decode (yB Y_Mo_next) 266 = .ok (.aload_n 0, 1) := by decide +kernel
theorem d_Mo_next_267 : decode (yB Y_Mo_next) 267 = .ok (.getfield 253, 3) := by decide +kernel
theorem d_Mo_next_270 : decode (yB Y_Mo_next) 270 = .ok (.iaload, 1) := by decide +kernel
theorem d_Mo_next_271 : decode (yB Y_Mo_next) 271 = .ok (.invokestatic 273, 3) := by decide +kernel
theorem d_Mo_next_274 : decode (yB Y_Mo_next) 274 = .ok (.ifCond .eq 61, 3) := by decide +kernel
theorem d_Mo_next_277 : decode (yB Y_Mo_next) 277 = .ok (.aload_n 0, 1) := by decide +kernel
theorem d_Mo_next_278 : decode (yB Y_Mo_next) 278 = .ok (.aload_n 0, 1) := by decide +kernel
theorem d_Mo_next_279 : decode (yB Y_Mo_next) 279 = .ok (.getfield 266, 3) := by decide +kernel
theorem d_Mo_next_282 : decode (yB Y_Mo_next) 282 = .ok (.ldc2_w 283, 3) := by decide +kernel
theorem d_Mo_next_285 : decode (yB Y_Mo_next) 285 = .ok (.lcmp, 1) := by decide +kernel
theorem d_Mo_next_286 : decode (yB Y_Mo_next) 286 = .ok (.ifCond .le 10, 3) := by decide +kernel
theorem d_Mo_next_289 : decode (yB Y_Mo_next) 289 = .ok (.aload_n 0, 1) := by decide +kernel
theorem d_Mo_next_290 : decode (yB Y_Mo_next) 290 = .ok (.getfield 266, 3) := by decide +kernel
theorem d_Mo_next_293 : decode (yB Y_Mo_next) 293 = .ok (.goto 26, 3) := by decide +kernel
theorem d_Mo_next_296 : decode (yB Y_Mo_next) 296 = .ok (.aload_n 0, 1) := by decide +kernel
theorem d_Mo_next_297 : decode (yB Y_Mo_next) 297 = .ok (.getfield 266, 3) := by decide +kernel
theorem d_Mo_next_300 : decode (yB Y_Mo_next) 300 = .ok (.ldc2_w 239, 3) := by decide +kernel
theorem d_Mo_next_303 : decode (yB Y_Mo_next) 303 = .ok (.lmul, 1) := by decide +kernel
theorem d_Mo_next_304 : decode (yB Y_Mo_next) 304 = .ok (.aload_n 0, 1) := by decide +kernel
theorem d_Mo_next_305 : decode (yB Y_Mo_next) 305 = .ok (.getfield 35, 3) := by decide +kernel
theorem d_Mo_next_308 : decode (yB Y_Mo_next) 308 = .ok (.aload_n 0, 1) := by decide +kernel
theorem d_Mo_next_309 : decode (yB Y_Mo_next) 309 = .ok (.getfield 253, 3) := by decide +kernel
theorem d_Mo_next_312 : decode (yB Y_Mo_next) 312 = .ok (.iaload, 1) := by decide +kernel
theorem d_Mo_next_313 : decode (yB Y_Mo_next) 313 = .ok (.i2l, 1) := by decide +kernel
theorem d_Mo_next_314 : decode (yB Y_Mo_next) 314 = .ok (.ladd, 1) := by decide +kernel
theorem d_Mo_next_315 : decode (yB Y_Mo_next) 315 = .ok (.ldc2_w 285, 3) := by decide +kernel
theorem d_Mo_next_318 : decode (yB Y_Mo_next) 318 = .ok (.lsub, 1) := by decide +kernel
theorem d_Mo_next_319 : decode (yB Y_Mo_next) 319 = .ok (.putfield 266, 3) := by decide +kernel
theorem d_Mo_next_322 : decode (yB Y_Mo_next) 322 = .ok (.aload_n 0, 1) := by decide +kernel
theorem d_Mo_next_323 : decode (yB Y_Mo_next) 323 = .ok (.dup, 1) := by decide +kernel
theorem d_Mo_next_324 : decode (yB Y_Mo_next) 324 = .ok (.getfield 253, 3) := by decide +kernel
theorem d_Mo_next_327 : decode (yB Y_Mo_next) 327 = .ok (.iconst 1, 1) := by decide +kernel
theorem d_Mo_next_328 : decode (yB Y_Mo_next) 328 = .ok (.iadd, 1) := by decide +kernel
theorem d_Mo_next_329 : decode (yB Y_Mo_next) 329 = .ok (.putfield 253, 3) := by decide +kernel
theorem d_Mo_next_332 : decode (yB Y_Mo_next) 332 = .ok (.goto (-89), 3) := by decide +kernel
theorem d_Mo_next_335 : decode (yB Y_Mo_next) 335 = .ok (.return_, 1) := by decide +kernel
def F_Mo_next_b227 (n : Nat) (E : zE) (S : zS) (r149 : Nat × zH → Option (zH)) (a0 : Nat) (t0 : Int64) (u1 : Nat) (M : zH) : Option (zH) :=
  (zpJ S M u1 11 17 t0).bind fun m_1 =>
  (zgI S m_1 a0 11 15).bind fun v_2 =>
  (zpI S m_1 a0 11 15 (v_2 + 1)).bind fun m_3 =>
  r149 (a0, m_3)
def F_Mo_next_b319 (n : Nat) (E : zE) (S : zS) (r243 : Nat × zH → Option (zH)) (a0 : Nat) (t0 : Int64) (u1 : Nat) (M : zH) : Option (zH) :=
  (zpJ S M u1 11 17 t0).bind fun m_4 =>
  (zgI S m_4 a0 11 15).bind fun v_5 =>
  (zpI S m_4 a0 11 15 (v_5 + 1)).bind fun m_6 =>
  r243 (a0, m_6)
def F_Mo_next_L243 (n : Nat) (E : zE) (S : zS) (r243 : Nat × zH → Option (zH)) (a0 : Nat) (M : zH) : Option (zH) :=
  (zgI S M a0 11 16).bind fun v_7 =>
  if v_7 = 2 then
    (zgI S M a0 11 15).bind fun v_9 =>
    (zgI S M a0 11 13).bind fun v_10 =>
    if v_10 ≤ v_9 then
      some (M)
    else
      (zgR S a0 11 12).bind fun b_12 =>
      (zgI S M a0 11 15).bind fun v_13 =>
      (zldI S M b_12 v_13).bind fun v_14 =>
      (F_Mo_isDigit n E S v_14 M).bind fun q_15 =>
      if q_15.1 = true then
        (zgJ S q_15.2 a0 11 17).bind fun v_17 =>
        if v_17 ≤ 1000000 then
          (zgJ S q_15.2 a0 11 17).bind fun v_19 =>
          (zgI S q_15.2 a0 11 15).bind fun v_20 =>
          (zldI S q_15.2 b_12 v_20).bind fun v_21 =>
          F_Mo_next_b319 n E S r243 a0 (((v_19 * 10) + v_21.toInt64) - 48) a0 q_15.2
        else
          (zgJ S q_15.2 a0 11 17).bind fun v_22 =>
          F_Mo_next_b319 n E S r243 a0 v_22 a0 q_15.2
      else
        some (q_15.2)
  else
    some (M)
def F_Mo_next_b243 (n : Nat) (E : zE) (S : zS) : Nat × zH → Option (zH) := zfix (fun r243 s => F_Mo_next_L243 n E S r243 s.1 s.2) n
def F_Mo_next_L149 (n : Nat) (E : zE) (S : zS) (r149 : Nat × zH → Option (zH)) (a0 : Nat) (M : zH) : Option (zH) :=
  (zgI S M a0 11 16).bind fun v_23 =>
  if v_23 = 1 then
    (zgI S M a0 11 15).bind fun v_25 =>
    (zgI S M a0 11 13).bind fun v_26 =>
    if v_26 ≤ v_25 then
      F_Mo_next_b243 n E S (a0, M)
    else
      (zgR S a0 11 12).bind fun b_28 =>
      (zgI S M a0 11 15).bind fun v_29 =>
      (zldI S M b_28 v_29).bind fun v_30 =>
      (F_Mo_isSmall n E S v_30 M).bind fun q_31 =>
      if q_31.1 = true then
        (zgI S q_31.2 a0 11 15).bind fun v_33 =>
        (zgI S q_31.2 a0 11 14).bind fun v_34 =>
        if 10 ≤ (v_33 - v_34) then
          F_Mo_next_b227 n E S r149 a0 (-1) a0 q_31.2
        else
          (zgJ S q_31.2 a0 11 17).bind fun v_36 =>
          (zgI S q_31.2 a0 11 15).bind fun v_37 =>
          (zldI S q_31.2 b_28 v_37).bind fun v_38 =>
          F_Mo_next_b227 n E S r149 a0 (((v_36 * 32) + v_38.toInt64) - 96) a0 q_31.2
      else
        F_Mo_next_b243 n E S (a0, q_31.2)
  else
    F_Mo_next_b243 n E S (a0, M)
def F_Mo_next_b149 (n : Nat) (E : zE) (S : zS) : Nat × zH → Option (zH) := zfix (fun r149 s => F_Mo_next_L149 n E S r149 s.1 s.2) n
def F_Mo_next_b114 (n : Nat) (E : zE) (S : zS) (a0 : Nat) (s0 : Int32) (u1 : Nat) (M : zH) : Option (zH) :=
  (zpI S M u1 11 16 s0).bind fun m_39 =>
  (zgI S m_39 a0 11 16).bind fun v_40 =>
  if v_40 = 3 then
    (zgR S a0 11 12).bind fun b_42 =>
    (zgI S m_39 a0 11 14).bind fun v_43 =>
    (zldI S m_39 b_42 v_43).bind fun v_44 =>
    (zpJ S m_39 a0 11 17 v_44.toInt64).bind fun m_45 =>
    (zgI S m_45 a0 11 15).bind fun v_46 =>
    (zpI S m_45 a0 11 15 (v_46 + 1)).bind fun m_47 =>
    F_Mo_next_b149 n E S (a0, m_47)
  else
    F_Mo_next_b149 n E S (a0, m_39)
def F_Mo_next_b46 (n : Nat) (E : zE) (S : zS) (a0 : Nat) (M : zH) : Option (zH) :=
  (zgI S M a0 11 14).bind fun v_48 =>
  (zpI S M a0 11 15 v_48).bind fun m_49 =>
  (zpJ S m_49 a0 11 17 0).bind fun m_50 =>
  (zgI S m_50 a0 11 14).bind fun v_51 =>
  (zgI S m_50 a0 11 13).bind fun v_52 =>
  if v_51 = v_52 then
    F_Mo_next_b114 n E S a0 0 a0 m_50
  else
    (zgR S a0 11 12).bind fun b_54 =>
    (zgI S m_50 a0 11 14).bind fun v_55 =>
    (zldI S m_50 b_54 v_55).bind fun v_56 =>
    (F_Mo_isSmall n E S v_56 m_50).bind fun q_57 =>
    if q_57.1 = true then
      F_Mo_next_b114 n E S a0 1 a0 q_57.2
    else
      (zgI S q_57.2 a0 11 14).bind fun v_59 =>
      (zldI S q_57.2 b_54 v_59).bind fun v_60 =>
      (F_Mo_isDigit n E S v_60 q_57.2).bind fun q_61 =>
      if q_61.1 = true then
        F_Mo_next_b114 n E S a0 2 a0 q_61.2
      else
        F_Mo_next_b114 n E S a0 3 a0 q_61.2
def F_Mo_next_L8 (n : Nat) (E : zE) (S : zS) (r8 : Nat × zH → Option (zH)) (a0 : Nat) (M : zH) : Option (zH) :=
  (zgI S M a0 11 14).bind fun v_63 =>
  (zgI S M a0 11 13).bind fun v_64 =>
  if v_64 ≤ v_63 then
    F_Mo_next_b46 n E S a0 M
  else
    (zgR S a0 11 12).bind fun b_66 =>
    (zgI S M a0 11 14).bind fun v_67 =>
    (zldI S M b_66 v_67).bind fun v_68 =>
    if v_68 = 32 then
      (zgI S M a0 11 14).bind fun v_70 =>
      (zpI S M a0 11 14 (v_70 + 1)).bind fun m_71 =>
      r8 (a0, m_71)
    else
      F_Mo_next_b46 n E S a0 M
def F_Mo_next_b8 (n : Nat) (E : zE) (S : zS) : Nat × zH → Option (zH) := zfix (fun r8 s => F_Mo_next_L8 n E S r8 s.1 s.2) n
def F_Mo_next (n : Nat) (E : zE) (S : zS) (a0 : Nat) (M : zH) : Option (zH) :=
  (zgI S M a0 11 15).bind fun v_72 =>
  (zpI S M a0 11 14 v_72).bind fun m_73 =>
  F_Mo_next_b8 n E S (a0, m_73)
theorem K_Mo_next_b227 (n : Nat) (E : zE) (S : zS) (r149 : Nat × zH → Option (zH)) (a0 : Nat) (t0 : Int64) (u1 : Nat) (M : zH) (M' : zH) (hr149 : ∀ (a0 : Nat) (M : zH), r149 (a0, M) = some M' → zG E Y_Mo_next (none, S, M') 149 [(0, .ref a0)] [] S M 0 0) (h : F_Mo_next_b227 n E S r149 a0 t0 u1 M = some M') : zG E Y_Mo_next (none, S, M') 227 [(0, .ref a0)] [.long t0, .ref u1] S M 0 0 := by
  unfold F_Mo_next_b227 at h
  obtain ⟨m_1, em_1, h⟩ := zbind h
  refine zo_putJ 230 zkd_11 17 d_Mo_next_227 em_1 rfl rfl rfl tw_1246 rfl ?_
  refine zi_aload_n 0 d_Mo_next_230 rfl ?_
  refine zi_dup d_Mo_next_231 rfl ?_
  obtain ⟨v_2, ev_2, h⟩ := zbind h
  refine zo_getI 235 zkd_11 15 d_Mo_next_232 ev_2 rfl tw_1244 rfl ?_
  refine zi_iconst 1 d_Mo_next_235 rfl ?_
  refine zi_iadd d_Mo_next_236 ?_
  obtain ⟨m_3, em_3, h⟩ := zbind h
  refine zo_putI 240 zkd_11 15 d_Mo_next_237 em_3 rfl rfl rfl tw_1244 rfl ?_
  refine zi_goto (tgt := 149) d_Mo_next_240 rfl ?_
  refine zi_lo [(0, .ref a0)] [0] rfl ?_
  exact hr149 a0 m_3 h
theorem K_Mo_next_b319 (n : Nat) (E : zE) (S : zS) (r243 : Nat × zH → Option (zH)) (a0 : Nat) (t0 : Int64) (u1 : Nat) (M : zH) (M' : zH) (hr243 : ∀ (a0 : Nat) (M : zH), r243 (a0, M) = some M' → zG E Y_Mo_next (none, S, M') 243 [(0, .ref a0)] [] S M 0 0) (h : F_Mo_next_b319 n E S r243 a0 t0 u1 M = some M') : zG E Y_Mo_next (none, S, M') 319 [(0, .ref a0)] [.long t0, .ref u1] S M 0 0 := by
  unfold F_Mo_next_b319 at h
  obtain ⟨m_4, em_4, h⟩ := zbind h
  refine zo_putJ 322 zkd_11 17 d_Mo_next_319 em_4 rfl rfl rfl tw_1246 rfl ?_
  refine zi_aload_n 0 d_Mo_next_322 rfl ?_
  refine zi_dup d_Mo_next_323 rfl ?_
  obtain ⟨v_5, ev_5, h⟩ := zbind h
  refine zo_getI 327 zkd_11 15 d_Mo_next_324 ev_5 rfl tw_1244 rfl ?_
  refine zi_iconst 1 d_Mo_next_327 rfl ?_
  refine zi_iadd d_Mo_next_328 ?_
  obtain ⟨m_6, em_6, h⟩ := zbind h
  refine zo_putI 332 zkd_11 15 d_Mo_next_329 em_6 rfl rfl rfl tw_1244 rfl ?_
  refine zi_goto (tgt := 243) d_Mo_next_332 rfl ?_
  refine zi_lo [(0, .ref a0)] [0] rfl ?_
  exact hr243 a0 m_6 h
theorem K_Mo_next_L243 (n : Nat) (E : zE) (S : zS) (r243 : Nat × zH → Option (zH)) (a0 : Nat) (M : zH) (M' : zH) (hr243 : ∀ (a0 : Nat) (M : zH), r243 (a0, M) = some M' → zG E Y_Mo_next (none, S, M') 243 [(0, .ref a0)] [] S M 0 0) (h : F_Mo_next_L243 n E S r243 a0 M = some M') : zG E Y_Mo_next (none, S, M') 243 [(0, .ref a0)] [] S M 0 0 := by
  unfold F_Mo_next_L243 at h
  refine zi_aload_n 0 d_Mo_next_243 rfl ?_
  obtain ⟨v_7, ev_7, h⟩ := zbind h
  refine zo_getI 247 zkd_11 16 d_Mo_next_244 ev_7 rfl tw_1245 rfl ?_
  refine zi_iconst 2 d_Mo_next_247 rfl ?_
  refine zi_icmp_ne (tgt := 335) d_Mo_next_248 rfl (fun c_8 => ?_) (fun c_8 => ?_)
  · rw [if_neg c_8] at h
    cases h
    exact zo_ret d_Mo_next_335 (Nat.le_of_ble_eq_true rfl) (Nat.le_of_ble_eq_true rfl) rfl
  · rw [if_pos c_8] at h
    refine zi_aload_n 0 d_Mo_next_251 rfl ?_
    obtain ⟨v_9, ev_9, h⟩ := zbind h
    refine zo_getI 255 zkd_11 15 d_Mo_next_252 ev_9 rfl tw_1244 rfl ?_
    refine zi_aload_n 0 d_Mo_next_255 rfl ?_
    obtain ⟨v_10, ev_10, h⟩ := zbind h
    refine zo_getI 259 zkd_11 13 d_Mo_next_256 ev_10 rfl tw_1242 rfl ?_
    refine zi_icmp_ge (tgt := 335) d_Mo_next_259 rfl (fun c_11 => ?_) (fun c_11 => ?_)
    · rw [if_pos c_11] at h
      cases h
      exact zo_ret d_Mo_next_335 (Nat.le_of_ble_eq_true rfl) (Nat.le_of_ble_eq_true rfl) rfl
    · rw [if_neg c_11] at h
      refine zi_aload_n 0 d_Mo_next_262 rfl ?_
      obtain ⟨b_12, eb_12, h⟩ := zbind h
      refine zo_getR 266 zkd_11 12 d_Mo_next_263 eb_12 rfl tw_1241 rfl ?_
      refine zi_aload_n 0 d_Mo_next_266 rfl ?_
      obtain ⟨v_13, ev_13, h⟩ := zbind h
      refine zo_getI 270 zkd_11 15 d_Mo_next_267 ev_13 rfl tw_1244 rfl ?_
      obtain ⟨v_14, ev_14, h⟩ := zbind h
      refine zo_iald 271 d_Mo_next_270 ev_14 rfl ?_
      obtain ⟨q_15, eq_15, h⟩ := zbind h
      refine zo_stat (k' := 0) (n' := 0) 274 [.int v_14] [] [.int (bI q_15.1)] (C_Mo_isDigit n E S v_14 M q_15.1 q_15.2 eq_15) d_Mo_next_271 tw_1583 tw_1581 tw_1582 tw_13 dd_Mo_isDigit ⟨Nat.le_of_ble_eq_true rfl, Nat.le_of_ble_eq_true rfl, Nat.le_of_ble_eq_true rfl, Nat.le_of_ble_eq_true rfl⟩ (Nat.le_of_ble_eq_true rfl) rfl rfl rfl rfl ?_
      refine zo_ifeqB d_Mo_next_274 rfl 277 rfl (fun c_16 => ?_) (fun c_16 => ?_)
      · rw [if_neg c_16] at h
        cases h
        exact zo_ret d_Mo_next_335 (Nat.le_of_ble_eq_true rfl) (Nat.le_of_ble_eq_true rfl) rfl
      · rw [if_pos c_16] at h
        refine zi_aload_n 0 d_Mo_next_277 rfl ?_
        refine zi_aload_n 0 d_Mo_next_278 rfl ?_
        obtain ⟨v_17, ev_17, h⟩ := zbind h
        refine zo_getJ 282 zkd_11 17 d_Mo_next_279 ev_17 rfl tw_1246 rfl ?_
        refine zi_ldc2 d_Mo_next_282 tw_1586 ?_
        refine zo_lc_le d_Mo_next_285 d_Mo_next_286 rfl 289 rfl (fun c_18 => ?_) (fun c_18 => ?_)
        · rw [if_pos c_18] at h
          refine zi_aload_n 0 d_Mo_next_296 rfl ?_
          obtain ⟨v_19, ev_19, h⟩ := zbind h
          refine zo_getJ 300 zkd_11 17 d_Mo_next_297 ev_19 rfl tw_1246 rfl ?_
          refine zi_ldc2 d_Mo_next_300 tw_1537 ?_
          refine zi_lmul d_Mo_next_303 ?_
          refine zi_aload_n 0 d_Mo_next_304 rfl ?_
          refine zo_getR 308 zkd_11 12 d_Mo_next_305 eb_12 rfl tw_1241 rfl ?_
          refine zi_aload_n 0 d_Mo_next_308 rfl ?_
          obtain ⟨v_20, ev_20, h⟩ := zbind h
          refine zo_getI 312 zkd_11 15 d_Mo_next_309 ev_20 rfl tw_1244 rfl ?_
          obtain ⟨v_21, ev_21, h⟩ := zbind h
          refine zo_iald 313 d_Mo_next_312 ev_21 rfl ?_
          refine zi_i2l d_Mo_next_313 ?_
          refine zi_ladd d_Mo_next_314 ?_
          refine zi_ldc2 d_Mo_next_315 tw_1587 ?_
          refine zi_lsub d_Mo_next_318 ?_
          refine zi_lo [(0, .ref a0)] [0] rfl ?_
          exact K_Mo_next_b319 n E S r243 a0 (((v_19 * 10) + v_21.toInt64) - 48) a0 q_15.2 M' hr243 h
        · rw [if_neg c_18] at h
          refine zi_aload_n 0 d_Mo_next_289 rfl ?_
          obtain ⟨v_22, ev_22, h⟩ := zbind h
          refine zo_getJ 293 zkd_11 17 d_Mo_next_290 ev_22 rfl tw_1246 rfl ?_
          refine zi_goto (tgt := 319) d_Mo_next_293 rfl ?_
          refine zi_lo [(0, .ref a0)] [0] rfl ?_
          exact K_Mo_next_b319 n E S r243 a0 v_22 a0 q_15.2 M' hr243 h
theorem K_Mo_next_b243 (n : Nat) (E : zE) (S : zS) (a0 : Nat) (M : zH) (M' : zH)  (h : F_Mo_next_b243 n E S (a0, M) = some M') : zG E Y_Mo_next (none, S, M') 243 [(0, .ref a0)] [] S M 0 0 := by
  have key : ∀ (k : Nat) (a0 : Nat) (M : zH), zfix (fun r243 s => F_Mo_next_L243 n E S r243 s.1 s.2) k (a0, M) = some M' → zG E Y_Mo_next (none, S, M') 243 [(0, .ref a0)] [] S M 0 0 := by
    intro k
    induction k with
    | zero => intro a0 M h; cases h
    | succ k ih => intro a0 M h; exact K_Mo_next_L243 n E S _ a0 M M'  (fun a0 M h => ih a0 M h) h
  exact key n a0 M h
theorem K_Mo_next_L149 (n : Nat) (E : zE) (S : zS) (r149 : Nat × zH → Option (zH)) (a0 : Nat) (M : zH) (M' : zH) (hr149 : ∀ (a0 : Nat) (M : zH), r149 (a0, M) = some M' → zG E Y_Mo_next (none, S, M') 149 [(0, .ref a0)] [] S M 0 0) (h : F_Mo_next_L149 n E S r149 a0 M = some M') : zG E Y_Mo_next (none, S, M') 149 [(0, .ref a0)] [] S M 0 0 := by
  unfold F_Mo_next_L149 at h
  refine zi_aload_n 0 d_Mo_next_149 rfl ?_
  obtain ⟨v_23, ev_23, h⟩ := zbind h
  refine zo_getI 153 zkd_11 16 d_Mo_next_150 ev_23 rfl tw_1245 rfl ?_
  refine zi_iconst 1 d_Mo_next_153 rfl ?_
  refine zi_icmp_ne (tgt := 243) d_Mo_next_154 rfl (fun c_24 => ?_) (fun c_24 => ?_)
  · rw [if_neg c_24] at h
    refine zi_lo [(0, .ref a0)] [0] rfl ?_
    exact K_Mo_next_b243 n E S a0 M M'  h
  · rw [if_pos c_24] at h
    refine zi_aload_n 0 d_Mo_next_157 rfl ?_
    obtain ⟨v_25, ev_25, h⟩ := zbind h
    refine zo_getI 161 zkd_11 15 d_Mo_next_158 ev_25 rfl tw_1244 rfl ?_
    refine zi_aload_n 0 d_Mo_next_161 rfl ?_
    obtain ⟨v_26, ev_26, h⟩ := zbind h
    refine zo_getI 165 zkd_11 13 d_Mo_next_162 ev_26 rfl tw_1242 rfl ?_
    refine zi_icmp_ge (tgt := 243) d_Mo_next_165 rfl (fun c_27 => ?_) (fun c_27 => ?_)
    · rw [if_pos c_27] at h
      refine zi_lo [(0, .ref a0)] [0] rfl ?_
      exact K_Mo_next_b243 n E S a0 M M'  h
    · rw [if_neg c_27] at h
      refine zi_aload_n 0 d_Mo_next_168 rfl ?_
      obtain ⟨b_28, eb_28, h⟩ := zbind h
      refine zo_getR 172 zkd_11 12 d_Mo_next_169 eb_28 rfl tw_1241 rfl ?_
      refine zi_aload_n 0 d_Mo_next_172 rfl ?_
      obtain ⟨v_29, ev_29, h⟩ := zbind h
      refine zo_getI 176 zkd_11 15 d_Mo_next_173 ev_29 rfl tw_1244 rfl ?_
      obtain ⟨v_30, ev_30, h⟩ := zbind h
      refine zo_iald 177 d_Mo_next_176 ev_30 rfl ?_
      obtain ⟨q_31, eq_31, h⟩ := zbind h
      refine zo_stat (k' := 0) (n' := 0) 180 [.int v_30] [] [.int (bI q_31.1)] (C_Mo_isSmall n E S v_30 M q_31.1 q_31.2 eq_31) d_Mo_next_177 tw_1580 tw_1578 tw_1579 tw_13 dd_Mo_isSmall ⟨Nat.le_of_ble_eq_true rfl, Nat.le_of_ble_eq_true rfl, Nat.le_of_ble_eq_true rfl, Nat.le_of_ble_eq_true rfl⟩ (Nat.le_of_ble_eq_true rfl) rfl rfl rfl rfl ?_
      refine zo_ifeqB d_Mo_next_180 rfl 183 rfl (fun c_32 => ?_) (fun c_32 => ?_)
      · rw [if_neg c_32] at h
        refine zi_lo [(0, .ref a0)] [0] rfl ?_
        exact K_Mo_next_b243 n E S a0 q_31.2 M'  h
      · rw [if_pos c_32] at h
        refine zi_aload_n 0 d_Mo_next_183 rfl ?_
        refine zi_aload_n 0 d_Mo_next_184 rfl ?_
        obtain ⟨v_33, ev_33, h⟩ := zbind h
        refine zo_getI 188 zkd_11 15 d_Mo_next_185 ev_33 rfl tw_1244 rfl ?_
        refine zi_aload_n 0 d_Mo_next_188 rfl ?_
        obtain ⟨v_34, ev_34, h⟩ := zbind h
        refine zo_getI 192 zkd_11 14 d_Mo_next_189 ev_34 rfl tw_1243 rfl ?_
        refine zi_isub d_Mo_next_192 ?_
        refine zi_bipush 10 d_Mo_next_193 rfl ?_
        refine zi_icmp_ge (tgt := 224) d_Mo_next_195 rfl (fun c_35 => ?_) (fun c_35 => ?_)
        · rw [if_pos c_35] at h
          refine zi_ldc2 d_Mo_next_224 tw_1447 ?_
          refine zi_lo [(0, .ref a0)] [0] rfl ?_
          exact K_Mo_next_b227 n E S r149 a0 (-1) a0 q_31.2 M' hr149 h
        · rw [if_neg c_35] at h
          refine zi_aload_n 0 d_Mo_next_198 rfl ?_
          obtain ⟨v_36, ev_36, h⟩ := zbind h
          refine zo_getJ 202 zkd_11 17 d_Mo_next_199 ev_36 rfl tw_1246 rfl ?_
          refine zi_ldc2 d_Mo_next_202 tw_1584 ?_
          refine zi_lmul d_Mo_next_205 ?_
          refine zi_aload_n 0 d_Mo_next_206 rfl ?_
          refine zo_getR 210 zkd_11 12 d_Mo_next_207 eb_28 rfl tw_1241 rfl ?_
          refine zi_aload_n 0 d_Mo_next_210 rfl ?_
          obtain ⟨v_37, ev_37, h⟩ := zbind h
          refine zo_getI 214 zkd_11 15 d_Mo_next_211 ev_37 rfl tw_1244 rfl ?_
          obtain ⟨v_38, ev_38, h⟩ := zbind h
          refine zo_iald 215 d_Mo_next_214 ev_38 rfl ?_
          refine zi_i2l d_Mo_next_215 ?_
          refine zi_ladd d_Mo_next_216 ?_
          refine zi_ldc2 d_Mo_next_217 tw_1585 ?_
          refine zi_lsub d_Mo_next_220 ?_
          refine zi_goto (tgt := 227) d_Mo_next_221 rfl ?_
          refine zi_lo [(0, .ref a0)] [0] rfl ?_
          exact K_Mo_next_b227 n E S r149 a0 (((v_36 * 32) + v_38.toInt64) - 96) a0 q_31.2 M' hr149 h
theorem K_Mo_next_b149 (n : Nat) (E : zE) (S : zS) (a0 : Nat) (M : zH) (M' : zH)  (h : F_Mo_next_b149 n E S (a0, M) = some M') : zG E Y_Mo_next (none, S, M') 149 [(0, .ref a0)] [] S M 0 0 := by
  have key : ∀ (k : Nat) (a0 : Nat) (M : zH), zfix (fun r149 s => F_Mo_next_L149 n E S r149 s.1 s.2) k (a0, M) = some M' → zG E Y_Mo_next (none, S, M') 149 [(0, .ref a0)] [] S M 0 0 := by
    intro k
    induction k with
    | zero => intro a0 M h; cases h
    | succ k ih => intro a0 M h; exact K_Mo_next_L149 n E S _ a0 M M'  (fun a0 M h => ih a0 M h) h
  exact key n a0 M h
theorem K_Mo_next_b114 (n : Nat) (E : zE) (S : zS) (a0 : Nat) (s0 : Int32) (u1 : Nat) (M : zH) (M' : zH)  (h : F_Mo_next_b114 n E S a0 s0 u1 M = some M') : zG E Y_Mo_next (none, S, M') 114 [(0, .ref a0)] [.int s0, .ref u1] S M 0 0 := by
  unfold F_Mo_next_b114 at h
  obtain ⟨m_39, em_39, h⟩ := zbind h
  refine zo_putI 117 zkd_11 16 d_Mo_next_114 em_39 rfl rfl rfl tw_1245 rfl ?_
  refine zi_aload_n 0 d_Mo_next_117 rfl ?_
  obtain ⟨v_40, ev_40, h⟩ := zbind h
  refine zo_getI 121 zkd_11 16 d_Mo_next_118 ev_40 rfl tw_1245 rfl ?_
  refine zi_iconst 3 d_Mo_next_121 rfl ?_
  refine zi_icmp_ne (tgt := 149) d_Mo_next_122 rfl (fun c_41 => ?_) (fun c_41 => ?_)
  · rw [if_neg c_41] at h
    refine zi_lo [(0, .ref a0)] [0] rfl ?_
    exact K_Mo_next_b149 n E S a0 m_39 M'  h
  · rw [if_pos c_41] at h
    refine zi_aload_n 0 d_Mo_next_125 rfl ?_
    refine zi_aload_n 0 d_Mo_next_126 rfl ?_
    obtain ⟨b_42, eb_42, h⟩ := zbind h
    refine zo_getR 130 zkd_11 12 d_Mo_next_127 eb_42 rfl tw_1241 rfl ?_
    refine zi_aload_n 0 d_Mo_next_130 rfl ?_
    obtain ⟨v_43, ev_43, h⟩ := zbind h
    refine zo_getI 134 zkd_11 14 d_Mo_next_131 ev_43 rfl tw_1243 rfl ?_
    obtain ⟨v_44, ev_44, h⟩ := zbind h
    refine zo_iald 135 d_Mo_next_134 ev_44 rfl ?_
    refine zi_i2l d_Mo_next_135 ?_
    obtain ⟨m_45, em_45, h⟩ := zbind h
    refine zo_putJ 139 zkd_11 17 d_Mo_next_136 em_45 rfl rfl rfl tw_1246 rfl ?_
    refine zi_aload_n 0 d_Mo_next_139 rfl ?_
    refine zi_dup d_Mo_next_140 rfl ?_
    obtain ⟨v_46, ev_46, h⟩ := zbind h
    refine zo_getI 144 zkd_11 15 d_Mo_next_141 ev_46 rfl tw_1244 rfl ?_
    refine zi_iconst 1 d_Mo_next_144 rfl ?_
    refine zi_iadd d_Mo_next_145 ?_
    obtain ⟨m_47, em_47, h⟩ := zbind h
    refine zo_putI 149 zkd_11 15 d_Mo_next_146 em_47 rfl rfl rfl tw_1244 rfl ?_
    refine zi_lo [(0, .ref a0)] [0] rfl ?_
    exact K_Mo_next_b149 n E S a0 m_47 M'  h
theorem K_Mo_next_b46 (n : Nat) (E : zE) (S : zS) (a0 : Nat) (M : zH) (M' : zH)  (h : F_Mo_next_b46 n E S a0 M = some M') : zG E Y_Mo_next (none, S, M') 46 [(0, .ref a0)] [] S M 0 0 := by
  unfold F_Mo_next_b46 at h
  refine zi_aload_n 0 d_Mo_next_46 rfl ?_
  refine zi_aload_n 0 d_Mo_next_47 rfl ?_
  obtain ⟨v_48, ev_48, h⟩ := zbind h
  refine zo_getI 51 zkd_11 14 d_Mo_next_48 ev_48 rfl tw_1243 rfl ?_
  obtain ⟨m_49, em_49, h⟩ := zbind h
  refine zo_putI 54 zkd_11 15 d_Mo_next_51 em_49 rfl rfl rfl tw_1244 rfl ?_
  refine zi_aload_n 0 d_Mo_next_54 rfl ?_
  refine zi_lconst 0 d_Mo_next_55 rfl ?_
  obtain ⟨m_50, em_50, h⟩ := zbind h
  refine zo_putJ 59 zkd_11 17 d_Mo_next_56 em_50 rfl rfl rfl tw_1246 rfl ?_
  refine zi_aload_n 0 d_Mo_next_59 rfl ?_
  refine zi_aload_n 0 d_Mo_next_60 rfl ?_
  obtain ⟨v_51, ev_51, h⟩ := zbind h
  refine zo_getI 64 zkd_11 14 d_Mo_next_61 ev_51 rfl tw_1243 rfl ?_
  refine zi_aload_n 0 d_Mo_next_64 rfl ?_
  obtain ⟨v_52, ev_52, h⟩ := zbind h
  refine zo_getI 68 zkd_11 13 d_Mo_next_65 ev_52 rfl tw_1242 rfl ?_
  refine zi_icmp_ne (tgt := 75) d_Mo_next_68 rfl (fun c_53 => ?_) (fun c_53 => ?_)
  · rw [if_neg c_53] at h
    refine zi_aload_n 0 d_Mo_next_75 rfl ?_
    obtain ⟨b_54, eb_54, h⟩ := zbind h
    refine zo_getR 79 zkd_11 12 d_Mo_next_76 eb_54 rfl tw_1241 rfl ?_
    refine zi_aload_n 0 d_Mo_next_79 rfl ?_
    obtain ⟨v_55, ev_55, h⟩ := zbind h
    refine zo_getI 83 zkd_11 14 d_Mo_next_80 ev_55 rfl tw_1243 rfl ?_
    obtain ⟨v_56, ev_56, h⟩ := zbind h
    refine zo_iald 84 d_Mo_next_83 ev_56 rfl ?_
    obtain ⟨q_57, eq_57, h⟩ := zbind h
    refine zo_stat (k' := 0) (n' := 0) 87 [.int v_56] [.ref a0] [.int (bI q_57.1), .ref a0] (C_Mo_isSmall n E S v_56 m_50 q_57.1 q_57.2 eq_57) d_Mo_next_84 tw_1580 tw_1578 tw_1579 tw_13 dd_Mo_isSmall ⟨Nat.le_of_ble_eq_true rfl, Nat.le_of_ble_eq_true rfl, Nat.le_of_ble_eq_true rfl, Nat.le_of_ble_eq_true rfl⟩ (Nat.le_of_ble_eq_true rfl) rfl rfl rfl rfl ?_
    refine zo_ifeqB d_Mo_next_87 rfl 90 rfl (fun c_58 => ?_) (fun c_58 => ?_)
    · rw [if_neg c_58] at h
      refine zi_aload_n 0 d_Mo_next_94 rfl ?_
      refine zo_getR 98 zkd_11 12 d_Mo_next_95 eb_54 rfl tw_1241 rfl ?_
      refine zi_aload_n 0 d_Mo_next_98 rfl ?_
      obtain ⟨v_59, ev_59, h⟩ := zbind h
      refine zo_getI 102 zkd_11 14 d_Mo_next_99 ev_59 rfl tw_1243 rfl ?_
      obtain ⟨v_60, ev_60, h⟩ := zbind h
      refine zo_iald 103 d_Mo_next_102 ev_60 rfl ?_
      obtain ⟨q_61, eq_61, h⟩ := zbind h
      refine zo_stat (k' := 0) (n' := 0) 106 [.int v_60] [.ref a0] [.int (bI q_61.1), .ref a0] (C_Mo_isDigit n E S v_60 q_57.2 q_61.1 q_61.2 eq_61) d_Mo_next_103 tw_1583 tw_1581 tw_1582 tw_13 dd_Mo_isDigit ⟨Nat.le_of_ble_eq_true rfl, Nat.le_of_ble_eq_true rfl, Nat.le_of_ble_eq_true rfl, Nat.le_of_ble_eq_true rfl⟩ (Nat.le_of_ble_eq_true rfl) rfl rfl rfl rfl ?_
      refine zo_ifeqB d_Mo_next_106 rfl 109 rfl (fun c_62 => ?_) (fun c_62 => ?_)
      · rw [if_neg c_62] at h
        refine zi_iconst 3 d_Mo_next_113 rfl ?_
        refine zi_lo [(0, .ref a0)] [0] rfl ?_
        exact K_Mo_next_b114 n E S a0 3 a0 q_61.2 M'  h
      · rw [if_pos c_62] at h
        refine zi_iconst 2 d_Mo_next_109 rfl ?_
        refine zi_goto (tgt := 114) d_Mo_next_110 rfl ?_
        refine zi_lo [(0, .ref a0)] [0] rfl ?_
        exact K_Mo_next_b114 n E S a0 2 a0 q_61.2 M'  h
    · rw [if_pos c_58] at h
      refine zi_iconst 1 d_Mo_next_90 rfl ?_
      refine zi_goto (tgt := 114) d_Mo_next_91 rfl ?_
      refine zi_lo [(0, .ref a0)] [0] rfl ?_
      exact K_Mo_next_b114 n E S a0 1 a0 q_57.2 M'  h
  · rw [if_pos c_53] at h
    refine zi_iconst 0 d_Mo_next_71 rfl ?_
    refine zi_goto (tgt := 114) d_Mo_next_72 rfl ?_
    refine zi_lo [(0, .ref a0)] [0] rfl ?_
    exact K_Mo_next_b114 n E S a0 0 a0 m_50 M'  h
theorem K_Mo_next_L8 (n : Nat) (E : zE) (S : zS) (r8 : Nat × zH → Option (zH)) (a0 : Nat) (M : zH) (M' : zH) (hr8 : ∀ (a0 : Nat) (M : zH), r8 (a0, M) = some M' → zG E Y_Mo_next (none, S, M') 8 [(0, .ref a0)] [] S M 0 0) (h : F_Mo_next_L8 n E S r8 a0 M = some M') : zG E Y_Mo_next (none, S, M') 8 [(0, .ref a0)] [] S M 0 0 := by
  unfold F_Mo_next_L8 at h
  refine zi_aload_n 0 d_Mo_next_8 rfl ?_
  obtain ⟨v_63, ev_63, h⟩ := zbind h
  refine zo_getI 12 zkd_11 14 d_Mo_next_9 ev_63 rfl tw_1243 rfl ?_
  refine zi_aload_n 0 d_Mo_next_12 rfl ?_
  obtain ⟨v_64, ev_64, h⟩ := zbind h
  refine zo_getI 16 zkd_11 13 d_Mo_next_13 ev_64 rfl tw_1242 rfl ?_
  refine zi_icmp_ge (tgt := 46) d_Mo_next_16 rfl (fun c_65 => ?_) (fun c_65 => ?_)
  · rw [if_pos c_65] at h
    refine zi_lo [(0, .ref a0)] [0] rfl ?_
    exact K_Mo_next_b46 n E S a0 M M'  h
  · rw [if_neg c_65] at h
    refine zi_aload_n 0 d_Mo_next_19 rfl ?_
    obtain ⟨b_66, eb_66, h⟩ := zbind h
    refine zo_getR 23 zkd_11 12 d_Mo_next_20 eb_66 rfl tw_1241 rfl ?_
    refine zi_aload_n 0 d_Mo_next_23 rfl ?_
    obtain ⟨v_67, ev_67, h⟩ := zbind h
    refine zo_getI 27 zkd_11 14 d_Mo_next_24 ev_67 rfl tw_1243 rfl ?_
    obtain ⟨v_68, ev_68, h⟩ := zbind h
    refine zo_iald 28 d_Mo_next_27 ev_68 rfl ?_
    refine zi_bipush 32 d_Mo_next_28 rfl ?_
    refine zi_icmp_ne (tgt := 46) d_Mo_next_30 rfl (fun c_69 => ?_) (fun c_69 => ?_)
    · rw [if_neg c_69] at h
      refine zi_lo [(0, .ref a0)] [0] rfl ?_
      exact K_Mo_next_b46 n E S a0 M M'  h
    · rw [if_pos c_69] at h
      refine zi_aload_n 0 d_Mo_next_33 rfl ?_
      refine zi_dup d_Mo_next_34 rfl ?_
      obtain ⟨v_70, ev_70, h⟩ := zbind h
      refine zo_getI 38 zkd_11 14 d_Mo_next_35 ev_70 rfl tw_1243 rfl ?_
      refine zi_iconst 1 d_Mo_next_38 rfl ?_
      refine zi_iadd d_Mo_next_39 ?_
      obtain ⟨m_71, em_71, h⟩ := zbind h
      refine zo_putI 43 zkd_11 14 d_Mo_next_40 em_71 rfl rfl rfl tw_1243 rfl ?_
      refine zi_goto (tgt := 8) d_Mo_next_43 rfl ?_
      refine zi_lo [(0, .ref a0)] [0] rfl ?_
      exact hr8 a0 m_71 h
theorem K_Mo_next_b8 (n : Nat) (E : zE) (S : zS) (a0 : Nat) (M : zH) (M' : zH)  (h : F_Mo_next_b8 n E S (a0, M) = some M') : zG E Y_Mo_next (none, S, M') 8 [(0, .ref a0)] [] S M 0 0 := by
  have key : ∀ (k : Nat) (a0 : Nat) (M : zH), zfix (fun r8 s => F_Mo_next_L8 n E S r8 s.1 s.2) k (a0, M) = some M' → zG E Y_Mo_next (none, S, M') 8 [(0, .ref a0)] [] S M 0 0 := by
    intro k
    induction k with
    | zero => intro a0 M h; cases h
    | succ k ih => intro a0 M h; exact K_Mo_next_L8 n E S _ a0 M M'  (fun a0 M h => ih a0 M h) h
  exact key n a0 M h
theorem K_Mo_next (n : Nat) (E : zE) (S : zS) (a0 : Nat) (M : zH) (M' : zH)  (h : F_Mo_next n E S a0 M = some M') : zG E Y_Mo_next (none, S, M') 0 [(0, .ref a0)] [] S M 0 0 := by
  unfold F_Mo_next at h
  refine zi_aload_n 0 d_Mo_next_0 rfl ?_
  refine zi_aload_n 0 d_Mo_next_1 rfl ?_
  obtain ⟨v_72, ev_72, h⟩ := zbind h
  refine zo_getI 5 zkd_11 15 d_Mo_next_2 ev_72 rfl tw_1244 rfl ?_
  obtain ⟨m_73, em_73, h⟩ := zbind h
  refine zo_putI 8 zkd_11 14 d_Mo_next_5 em_73 rfl rfl rfl tw_1243 rfl ?_
  refine zi_lo [(0, .ref a0)] [0] rfl ?_
  exact K_Mo_next_b8 n E S a0 m_73 M'  h
theorem C_Mo_next (n : Nat) (E : zE) (S : zS) (a0 : Nat) (M : zH) (M' : zH) (h : F_Mo_next n E S a0 M = some M') : zC E Y_Mo_next [.ref a0] S M (none, S, M') :=
  zC.of (Or.inl (show plainName "NightColanderModel" = true by decide)) (Nat.le_of_ble_eq_true rfl) (trivial) (K_Mo_next n E S a0 M M' h)
theorem d_Mo_begin_0 : decode (yB Y_Mo_begin) 0 = .ok (.aload_n 0, 1) := by decide +kernel
theorem d_Mo_begin_1 : decode (yB Y_Mo_begin) 1 = .ok (.iconst 0, 1) := by decide +kernel
theorem d_Mo_begin_2 : decode (yB Y_Mo_begin) 2 = .ok (.putfield 253, 3) := by decide +kernel
theorem d_Mo_begin_5 : decode (yB Y_Mo_begin) 5 = .ok (.aload_n 0, 1) := by decide +kernel
theorem d_Mo_begin_6 : decode (yB Y_Mo_begin) 6 = .ok (.iconst 0, 1) := by decide +kernel
theorem d_Mo_begin_7 : decode (yB Y_Mo_begin) 7 = .ok (.putfield 256, 3) := by decide +kernel
theorem d_Mo_begin_10 : decode (yB Y_Mo_begin) 10 = .ok (.aload_n 0, 1) := by decide +kernel
theorem d_Mo_begin_11 : decode (yB Y_Mo_begin) 11 = .ok (.iconst (-1), 1) := by decide +kernel
theorem d_Mo_begin_12 : decode (yB Y_Mo_begin) 12 = .ok (.putfield 38, 3) := by decide +kernel
theorem d_Mo_begin_15 : decode (yB Y_Mo_begin) 15 = .ok (.aload_n 0, 1) := by decide +kernel
theorem d_Mo_begin_16 : decode (yB Y_Mo_begin) 16 = .ok (.invokevirtual 260, 3) := by decide +kernel
theorem d_Mo_begin_19 : decode (yB Y_Mo_begin) 19 = .ok (.return_, 1) := by decide +kernel
def F_Mo_begin (n : Nat) (E : zE) (S : zS) (a0 : Nat) (M : zH) : Option (zH) :=
  (zpI S M a0 11 15 0).bind fun m_1 =>
  (zpZ S m_1 a0 11 19 0).bind fun m_2 =>
  (zpI S m_2 a0 11 18 (-1)).bind fun m_3 =>
  (zck S a0 11).bind fun u_4 =>
  (F_Mo_next n E S a0 m_3).bind fun q_5 =>
  some (q_5)
theorem K_Mo_begin (n : Nat) (E : zE) (S : zS) (a0 : Nat) (M : zH) (M' : zH)  (h : F_Mo_begin n E S a0 M = some M') : zG E Y_Mo_begin (none, S, M') 0 [(0, .ref a0)] [] S M 0 0 := by
  unfold F_Mo_begin at h
  refine zi_aload_n 0 d_Mo_begin_0 rfl ?_
  refine zi_iconst 0 d_Mo_begin_1 rfl ?_
  obtain ⟨m_1, em_1, h⟩ := zbind h
  refine zo_putI 5 zkd_11 15 d_Mo_begin_2 em_1 rfl rfl rfl tw_1244 rfl ?_
  refine zi_aload_n 0 d_Mo_begin_5 rfl ?_
  refine zi_iconst 0 d_Mo_begin_6 rfl ?_
  obtain ⟨m_2, em_2, h⟩ := zbind h
  refine zo_putZ 10 zkd_11 19 d_Mo_begin_7 em_2 rfl rfl rfl tw_1248 rfl ?_
  refine zi_aload_n 0 d_Mo_begin_10 rfl ?_
  refine zi_iconst (-1) d_Mo_begin_11 rfl ?_
  obtain ⟨m_3, em_3, h⟩ := zbind h
  refine zo_putI 15 zkd_11 18 d_Mo_begin_12 em_3 rfl rfl rfl tw_1247 rfl ?_
  refine zi_aload_n 0 d_Mo_begin_15 rfl ?_
  obtain ⟨u_4, eu_4, h⟩ := zbind h
  obtain ⟨q_5, eq_5, h⟩ := zbind h
  refine zo_virt (k' := 0) (n' := 0) 19 [] [] [] zkd_11 (zck_s eu_4) (C_Mo_next n E S a0 m_3 q_5 eq_5) d_Mo_begin_16 tw_1577 tw_1574 tw_1576 ts_56 tw_13 dd_Mo_next ⟨Nat.le_of_ble_eq_true rfl, Nat.le_of_ble_eq_true rfl, Nat.le_of_ble_eq_true rfl, Nat.le_of_ble_eq_true rfl⟩ (Nat.le_of_ble_eq_true rfl) rfl rfl rfl rfl ?_
  cases h
  exact zo_ret d_Mo_begin_19 (Nat.le_of_ble_eq_true rfl) (Nat.le_of_ble_eq_true rfl) rfl
theorem C_Mo_begin (n : Nat) (E : zE) (S : zS) (a0 : Nat) (M : zH) (M' : zH) (h : F_Mo_begin n E S a0 M = some M') : zC E Y_Mo_begin [.ref a0] S M (none, S, M') :=
  zC.of (Or.inl (show plainName "NightColanderModel" = true by decide)) (Nat.le_of_ble_eq_true rfl) (trivial) (K_Mo_begin n E S a0 M M' h)
theorem d_Mo_beginText_0 : decode (yB Y_Mo_beginText) 0 = .ok (.aload_n 0, 1) := by decide +kernel
theorem d_Mo_beginText_1 : decode (yB Y_Mo_beginText) 1 = .ok (.iload_n 1, 1) := by decide +kernel
theorem d_Mo_beginText_2 : decode (yB Y_Mo_beginText) 2 = .ok (.putfield 331, 3) := by decide +kernel
theorem d_Mo_beginText_5 : decode (yB Y_Mo_beginText) 5 = .ok (.aload_n 0, 1) := by decide +kernel
theorem d_Mo_beginText_6 : decode (yB Y_Mo_beginText) 6 = .ok (.invokevirtual 382, 3) := by decide +kernel
theorem d_Mo_beginText_9 : decode (yB Y_Mo_beginText) 9 = .ok (.aload_n 0, 1) := by decide +kernel
theorem d_Mo_beginText_10 : decode (yB Y_Mo_beginText) 10 = .ok (.iconst 0, 1) := by decide +kernel
theorem d_Mo_beginText_11 : decode (yB Y_Mo_beginText) 11 = .ok (.putfield 385, 3) := by decide +kernel
theorem d_Mo_beginText_14 : decode (yB Y_Mo_beginText) 14 = .ok (.aload_n 0, 1) := by decide +kernel
theorem d_Mo_beginText_15 : decode (yB Y_Mo_beginText) 15 = .ok (.iconst 0, 1) := by decide +kernel
theorem d_Mo_beginText_16 : decode (yB Y_Mo_beginText) 16 = .ok (.putfield 291, 3) := by decide +kernel
theorem d_Mo_beginText_19 : decode (yB Y_Mo_beginText) 19 = .ok (.aload_n 0, 1) := by decide +kernel
theorem d_Mo_beginText_20 : decode (yB Y_Mo_beginText) 20 = .ok (.iconst 0, 1) := by decide +kernel
theorem d_Mo_beginText_21 : decode (yB Y_Mo_beginText) 21 = .ok (.putfield 322, 3) := by decide +kernel
theorem d_Mo_beginText_24 : decode (yB Y_Mo_beginText) 24 = .ok (.return_, 1) := by decide +kernel
def F_Mo_beginText (n : Nat) (E : zE) (S : zS) (a0 : Nat) (x1 : Int32) (M : zH) : Option (zH) :=
  (zpZ S M a0 11 20 x1).bind fun m_1 =>
  (zck S a0 11).bind fun u_2 =>
  (F_Mo_begin n E S a0 m_1).bind fun q_3 =>
  (zpI S q_3 a0 11 21 0).bind fun m_4 =>
  (zpI S m_4 a0 11 23 0).bind fun m_5 =>
  (zpI S m_5 a0 11 26 0).bind fun m_6 =>
  some (m_6)
theorem K_Mo_beginText (n : Nat) (E : zE) (S : zS) (a0 : Nat) (x1 : Int32) (M : zH) (M' : zH)  (h : F_Mo_beginText n E S a0 x1 M = some M') : zG E Y_Mo_beginText (none, S, M') 0 [(0, .ref a0), (1, .int x1)] [] S M 0 0 := by
  unfold F_Mo_beginText at h
  refine zi_aload_n 0 d_Mo_beginText_0 rfl ?_
  refine zi_iload_n 1 d_Mo_beginText_1 rfl ?_
  obtain ⟨m_1, em_1, h⟩ := zbind h
  refine zo_putZ 5 zkd_11 20 d_Mo_beginText_2 em_1 rfl rfl rfl tw_1249 rfl ?_
  refine zi_aload_n 0 d_Mo_beginText_5 rfl ?_
  obtain ⟨u_2, eu_2, h⟩ := zbind h
  obtain ⟨q_3, eq_3, h⟩ := zbind h
  refine zo_virt (k' := 0) (n' := 0) 9 [] [] [] zkd_11 (zck_s eu_2) (C_Mo_begin n E S a0 m_1 q_3 eq_3) d_Mo_beginText_6 tw_1573 tw_1570 tw_1572 ts_55 tw_13 dd_Mo_begin ⟨Nat.le_of_ble_eq_true rfl, Nat.le_of_ble_eq_true rfl, Nat.le_of_ble_eq_true rfl, Nat.le_of_ble_eq_true rfl⟩ (Nat.le_of_ble_eq_true rfl) rfl rfl rfl rfl ?_
  refine zi_aload_n 0 d_Mo_beginText_9 rfl ?_
  refine zi_iconst 0 d_Mo_beginText_10 rfl ?_
  obtain ⟨m_4, em_4, h⟩ := zbind h
  refine zo_putI 14 zkd_11 21 d_Mo_beginText_11 em_4 rfl rfl rfl tw_1250 rfl ?_
  refine zi_aload_n 0 d_Mo_beginText_14 rfl ?_
  refine zi_iconst 0 d_Mo_beginText_15 rfl ?_
  obtain ⟨m_5, em_5, h⟩ := zbind h
  refine zo_putI 19 zkd_11 23 d_Mo_beginText_16 em_5 rfl rfl rfl tw_1252 rfl ?_
  refine zi_aload_n 0 d_Mo_beginText_19 rfl ?_
  refine zi_iconst 0 d_Mo_beginText_20 rfl ?_
  obtain ⟨m_6, em_6, h⟩ := zbind h
  refine zo_putI 24 zkd_11 26 d_Mo_beginText_21 em_6 rfl rfl rfl tw_1255 rfl ?_
  cases h
  exact zo_ret d_Mo_beginText_24 (Nat.le_of_ble_eq_true rfl) (Nat.le_of_ble_eq_true rfl) rfl
theorem C_Mo_beginText (n : Nat) (E : zE) (S : zS) (a0 : Nat) (x1 : Int32) (M : zH) (M' : zH) (h : F_Mo_beginText n E S a0 x1 M = some M') : zC E Y_Mo_beginText [.ref a0, .int x1] S M (none, S, M') :=
  zC.of (Or.inl (show plainName "NightColanderModel" = true by decide)) (Nat.le_of_ble_eq_true rfl) (trivial) (K_Mo_beginText n E S a0 x1 M M' h)
theorem d_Mo_must_0 : decode (yB Y_Mo_must) 0 = .ok (.aload_n 0, 1) := by decide +kernel
theorem d_Mo_must_1 : decode (yB Y_Mo_must) 1 = .ok (.getfield 256, 3) := by decide +kernel
theorem d_Mo_must_4 : decode (yB Y_Mo_must) 4 = .ok (.ifCond .ne 20, 3) := by decide +kernel
theorem d_Mo_must_7 : decode (yB Y_Mo_must) 7 = .ok (.iload_n 1, 1) := by decide +kernel
theorem d_Mo_must_8 : decode (yB Y_Mo_must) 8 = .ok (.ifCond .ne 16, 3) := by decide +kernel
theorem d_Mo_must_11 : decode (yB Y_Mo_must) 11 = .ok (.aload_n 0, 1) := by decide +kernel
theorem d_Mo_must_12 : decode (yB Y_Mo_must) 12 = .ok (.iconst 1, 1) := by decide +kernel
theorem d_Mo_must_13 : decode (yB Y_Mo_must) 13 = .ok (.putfield 256, 3) := by decide +kernel
theorem d_Mo_must_16 : decode (yB Y_Mo_must) 16 = .ok (.aload_n 0, 1) := by decide +kernel
theorem d_Mo_must_17 : decode (yB Y_Mo_must) 17 = .ok (.aload_n 0, 1) := by decide +kernel
theorem d_Mo_must_18 : decode (yB Y_Mo_must) 18 = .ok (.getfield 263, 3) := by decide +kernel
theorem d_Mo_must_21 : decode (yB Y_Mo_must) 21 = .ok (.putfield 38, 3) := by decide +kernel
theorem d_Mo_must_24 : decode (yB Y_Mo_must) 24 = .ok (.aload_n 0, 1) := by decide +kernel
theorem d_Mo_must_25 : decode (yB Y_Mo_must) 25 = .ok (.getfield 256, 3) := by decide +kernel
theorem d_Mo_must_28 : decode (yB Y_Mo_must) 28 = .ok (.ifCond .ne 7, 3) := by decide +kernel
theorem d_Mo_must_31 : decode (yB Y_Mo_must) 31 = .ok (.aload_n 0, 1) := by decide +kernel
theorem d_Mo_must_32 : decode (yB Y_Mo_must) 32 = .ok (.invokevirtual 260, 3) := by decide +kernel
theorem d_Mo_must_35 : decode (yB Y_Mo_must) 35 = .ok (.return_, 1) := by decide +kernel
def F_Mo_must_b24 (n : Nat) (E : zE) (S : zS) (a0 : Nat) (M : zH) : Option (zH) :=
  (zgI S M a0 11 19).bind fun v_1 =>
  if v_1 = 0 then
    (F_Mo_next n E S a0 M).bind fun q_3 =>
    some (q_3)
  else
    some (M)
def F_Mo_must (n : Nat) (E : zE) (S : zS) (a0 : Nat) (x1 : Int32) (M : zH) : Option (zH) :=
  (zgI S M a0 11 19).bind fun v_4 =>
  if v_4 = 0 then
    if x1 = 0 then
      (zpZ S M a0 11 19 1).bind fun m_7 =>
      (zgI S m_7 a0 11 14).bind fun v_8 =>
      (zpI S m_7 a0 11 18 v_8).bind fun m_9 =>
      F_Mo_must_b24 n E S a0 m_9
    else
      F_Mo_must_b24 n E S a0 M
  else
    F_Mo_must_b24 n E S a0 M
theorem K_Mo_must_b24 (n : Nat) (E : zE) (S : zS) (a0 : Nat) (M : zH) (M' : zH)  (h : F_Mo_must_b24 n E S a0 M = some M') : zG E Y_Mo_must (none, S, M') 24 [(0, .ref a0)] [] S M 0 0 := by
  unfold F_Mo_must_b24 at h
  refine zi_aload_n 0 d_Mo_must_24 rfl ?_
  obtain ⟨v_1, ev_1, h⟩ := zbind h
  refine zo_getI 28 zkd_11 19 d_Mo_must_25 ev_1 rfl tw_1248 rfl ?_
  refine zi_if_ne (tgt := 35) d_Mo_must_28 rfl (fun c_2 => ?_) (fun c_2 => ?_)
  · rw [if_neg c_2] at h
    cases h
    exact zo_ret d_Mo_must_35 (Nat.le_of_ble_eq_true rfl) (Nat.le_of_ble_eq_true rfl) rfl
  · rw [if_pos c_2] at h
    refine zi_aload_n 0 d_Mo_must_31 rfl ?_
    obtain ⟨q_3, eq_3, h⟩ := zbind h
    refine zo_virt (k' := 0) (n' := 0) 35 [] [] [] zkd_11 (zgI_s ev_1).1 (C_Mo_next n E S a0 M q_3 eq_3) d_Mo_must_32 tw_1577 tw_1574 tw_1576 ts_56 tw_13 dd_Mo_next ⟨Nat.le_of_ble_eq_true rfl, Nat.le_of_ble_eq_true rfl, Nat.le_of_ble_eq_true rfl, Nat.le_of_ble_eq_true rfl⟩ (Nat.le_of_ble_eq_true rfl) rfl rfl rfl rfl ?_
    cases h
    exact zo_ret d_Mo_must_35 (Nat.le_of_ble_eq_true rfl) (Nat.le_of_ble_eq_true rfl) rfl
theorem K_Mo_must (n : Nat) (E : zE) (S : zS) (a0 : Nat) (x1 : Int32) (M : zH) (M' : zH)  (h : F_Mo_must n E S a0 x1 M = some M') : zG E Y_Mo_must (none, S, M') 0 [(0, .ref a0), (1, .int x1)] [] S M 0 0 := by
  unfold F_Mo_must at h
  refine zi_aload_n 0 d_Mo_must_0 rfl ?_
  obtain ⟨v_4, ev_4, h⟩ := zbind h
  refine zo_getI 4 zkd_11 19 d_Mo_must_1 ev_4 rfl tw_1248 rfl ?_
  refine zi_if_ne (tgt := 24) d_Mo_must_4 rfl (fun c_5 => ?_) (fun c_5 => ?_)
  · rw [if_neg c_5] at h
    refine zi_lo [(0, .ref a0)] [0] rfl ?_
    exact K_Mo_must_b24 n E S a0 M M'  h
  · rw [if_pos c_5] at h
    refine zi_iload_n 1 d_Mo_must_7 rfl ?_
    refine zi_if_ne (tgt := 24) d_Mo_must_8 rfl (fun c_6 => ?_) (fun c_6 => ?_)
    · rw [if_neg c_6] at h
      refine zi_lo [(0, .ref a0)] [0] rfl ?_
      exact K_Mo_must_b24 n E S a0 M M'  h
    · rw [if_pos c_6] at h
      refine zi_aload_n 0 d_Mo_must_11 rfl ?_
      refine zi_iconst 1 d_Mo_must_12 rfl ?_
      obtain ⟨m_7, em_7, h⟩ := zbind h
      refine zo_putZ 16 zkd_11 19 d_Mo_must_13 em_7 rfl rfl rfl tw_1248 rfl ?_
      refine zi_aload_n 0 d_Mo_must_16 rfl ?_
      refine zi_aload_n 0 d_Mo_must_17 rfl ?_
      obtain ⟨v_8, ev_8, h⟩ := zbind h
      refine zo_getI 21 zkd_11 14 d_Mo_must_18 ev_8 rfl tw_1243 rfl ?_
      obtain ⟨m_9, em_9, h⟩ := zbind h
      refine zo_putI 24 zkd_11 18 d_Mo_must_21 em_9 rfl rfl rfl tw_1247 rfl ?_
      refine zi_lo [(0, .ref a0)] [0] rfl ?_
      exact K_Mo_must_b24 n E S a0 m_9 M'  h
theorem C_Mo_must (n : Nat) (E : zE) (S : zS) (a0 : Nat) (x1 : Int32) (M : zH) (M' : zH) (h : F_Mo_must n E S a0 x1 M = some M') : zC E Y_Mo_must [.ref a0, .int x1] S M (none, S, M') :=
  zC.of (Or.inl (show plainName "NightColanderModel" = true by decide)) (Nat.le_of_ble_eq_true rfl) (trivial) (K_Mo_must n E S a0 x1 M M' h)
theorem d_Mo_endText_0 : decode (yB Y_Mo_endText) 0 = .ok (.aload_n 0, 1) := by decide +kernel
theorem d_Mo_endText_1 : decode (yB Y_Mo_endText) 1 = .ok (.getfield 256, 3) := by decide +kernel
theorem d_Mo_endText_4 : decode (yB Y_Mo_endText) 4 = .ok (.ifCond .ne 15, 3) := by decide +kernel
theorem d_Mo_endText_7 : decode (yB Y_Mo_endText) 7 = .ok (.aload_n 0, 1) := by decide +kernel
theorem d_Mo_endText_8 : decode (yB Y_Mo_endText) 8 = .ok (.getfield 276, 3) := by decide +kernel
theorem d_Mo_endText_11 : decode (yB Y_Mo_endText) 11 = .ok (.ifCond .eq 8, 3) := by decide +kernel
theorem d_Mo_endText_14 : decode (yB Y_Mo_endText) 14 = .ok (.aload_n 0, 1) := by decide +kernel
theorem d_Mo_endText_15 : decode (yB Y_Mo_endText) 15 = .ok (.iconst 0, 1) := by decide +kernel
theorem d_Mo_endText_16 : decode (yB Y_Mo_endText) 16 = .ok (.invokevirtual 287, 3) := by decide +kernel
theorem d_Mo_endText_19 : decode (yB Y_Mo_endText) 19 = .ok (.aload_n 0, 1) := by decide +kernel
theorem d_Mo_endText_20 : decode (yB Y_Mo_endText) 20 = .ok (.iconst 0, 1) := by decide +kernel
theorem d_Mo_endText_21 : decode (yB Y_Mo_endText) 21 = .ok (.putfield 331, 3) := by decide +kernel
theorem d_Mo_endText_24 : decode (yB Y_Mo_endText) 24 = .ok (.aload_n 0, 1) := by decide +kernel
theorem d_Mo_endText_25 : decode (yB Y_Mo_endText) 25 = .ok (.iconst 0, 1) := by decide +kernel
theorem d_Mo_endText_26 : decode (yB Y_Mo_endText) 26 = .ok (.putfield 244, 3) := by decide +kernel
theorem d_Mo_endText_29 : decode (yB Y_Mo_endText) 29 = .ok (.return_, 1) := by decide +kernel
def F_Mo_endText_b19 (n : Nat) (E : zE) (S : zS) (a0 : Nat) (M : zH) : Option (zH) :=
  (zpZ S M a0 11 20 0).bind fun m_1 =>
  (zpI S m_1 a0 11 13 0).bind fun m_2 =>
  some (m_2)
def F_Mo_endText (n : Nat) (E : zE) (S : zS) (a0 : Nat) (M : zH) : Option (zH) :=
  (zgI S M a0 11 19).bind fun v_3 =>
  if v_3 = 0 then
    (zgI S M a0 11 16).bind fun v_5 =>
    if v_5 = 0 then
      F_Mo_endText_b19 n E S a0 M
    else
      (F_Mo_must n E S a0 0 M).bind fun q_7 =>
      F_Mo_endText_b19 n E S a0 q_7
  else
    F_Mo_endText_b19 n E S a0 M
theorem K_Mo_endText_b19 (n : Nat) (E : zE) (S : zS) (a0 : Nat) (M : zH) (M' : zH)  (h : F_Mo_endText_b19 n E S a0 M = some M') : zG E Y_Mo_endText (none, S, M') 19 [(0, .ref a0)] [] S M 0 0 := by
  unfold F_Mo_endText_b19 at h
  refine zi_aload_n 0 d_Mo_endText_19 rfl ?_
  refine zi_iconst 0 d_Mo_endText_20 rfl ?_
  obtain ⟨m_1, em_1, h⟩ := zbind h
  refine zo_putZ 24 zkd_11 20 d_Mo_endText_21 em_1 rfl rfl rfl tw_1249 rfl ?_
  refine zi_aload_n 0 d_Mo_endText_24 rfl ?_
  refine zi_iconst 0 d_Mo_endText_25 rfl ?_
  obtain ⟨m_2, em_2, h⟩ := zbind h
  refine zo_putI 29 zkd_11 13 d_Mo_endText_26 em_2 rfl rfl rfl tw_1242 rfl ?_
  cases h
  exact zo_ret d_Mo_endText_29 (Nat.le_of_ble_eq_true rfl) (Nat.le_of_ble_eq_true rfl) rfl
theorem K_Mo_endText (n : Nat) (E : zE) (S : zS) (a0 : Nat) (M : zH) (M' : zH)  (h : F_Mo_endText n E S a0 M = some M') : zG E Y_Mo_endText (none, S, M') 0 [(0, .ref a0)] [] S M 0 0 := by
  unfold F_Mo_endText at h
  refine zi_aload_n 0 d_Mo_endText_0 rfl ?_
  obtain ⟨v_3, ev_3, h⟩ := zbind h
  refine zo_getI 4 zkd_11 19 d_Mo_endText_1 ev_3 rfl tw_1248 rfl ?_
  refine zi_if_ne (tgt := 19) d_Mo_endText_4 rfl (fun c_4 => ?_) (fun c_4 => ?_)
  · rw [if_neg c_4] at h
    refine zi_lo [(0, .ref a0)] [0] rfl ?_
    exact K_Mo_endText_b19 n E S a0 M M'  h
  · rw [if_pos c_4] at h
    refine zi_aload_n 0 d_Mo_endText_7 rfl ?_
    obtain ⟨v_5, ev_5, h⟩ := zbind h
    refine zo_getI 11 zkd_11 16 d_Mo_endText_8 ev_5 rfl tw_1245 rfl ?_
    refine zi_if_eq (tgt := 19) d_Mo_endText_11 rfl (fun c_6 => ?_) (fun c_6 => ?_)
    · rw [if_pos c_6] at h
      refine zi_lo [(0, .ref a0)] [0] rfl ?_
      exact K_Mo_endText_b19 n E S a0 M M'  h
    · rw [if_neg c_6] at h
      refine zi_aload_n 0 d_Mo_endText_14 rfl ?_
      refine zi_iconst 0 d_Mo_endText_15 rfl ?_
      obtain ⟨q_7, eq_7, h⟩ := zbind h
      refine zo_virt (k' := 0) (n' := 0) 19 [.int 0] [] [] zkd_11 (zgI_s ev_3).1 (C_Mo_must n E S a0 0 M q_7 eq_7) d_Mo_endText_16 tw_1599 tw_1596 tw_1598 ts_59 tw_13 dd_Mo_must ⟨Nat.le_of_ble_eq_true rfl, Nat.le_of_ble_eq_true rfl, Nat.le_of_ble_eq_true rfl, Nat.le_of_ble_eq_true rfl⟩ (Nat.le_of_ble_eq_true rfl) rfl rfl rfl rfl ?_
      refine zi_lo [(0, .ref a0)] [0] rfl ?_
      exact K_Mo_endText_b19 n E S a0 q_7 M'  h
theorem C_Mo_endText (n : Nat) (E : zE) (S : zS) (a0 : Nat) (M : zH) (M' : zH) (h : F_Mo_endText n E S a0 M = some M') : zC E Y_Mo_endText [.ref a0] S M (none, S, M') :=
  zC.of (Or.inl (show plainName "NightColanderModel" = true by decide)) (Nat.le_of_ble_eq_true rfl) (trivial) (K_Mo_endText n E S a0 M M' h)
theorem d_Mo_isSign_0 : decode (yB Y_Mo_isSign) 0 = .ok (.aload_n 0, 1) := by decide +kernel
theorem d_Mo_isSign_1 : decode (yB Y_Mo_isSign) 1 = .ok (.getfield 276, 3) := by decide +kernel
theorem d_Mo_isSign_4 : decode (yB Y_Mo_isSign) 4 = .ok (.iconst 3, 1) := by decide +kernel
theorem d_Mo_isSign_5 : decode (yB Y_Mo_isSign) 5 = .ok (.if_icmp .ne 17, 3) := by decide +kernel
theorem d_Mo_isSign_8 : decode (yB Y_Mo_isSign) 8 = .ok (.aload_n 0, 1) := by decide +kernel
theorem d_Mo_isSign_9 : decode (yB Y_Mo_isSign) 9 = .ok (.getfield 266, 3) := by decide +kernel
theorem d_Mo_isSign_12 : decode (yB Y_Mo_isSign) 12 = .ok (.iload_n 1, 1) := by decide +kernel
theorem d_Mo_isSign_13 : decode (yB Y_Mo_isSign) 13 = .ok (.i2l, 1) := by decide +kernel
theorem d_Mo_isSign_14 : decode (yB Y_Mo_isSign) 14 = .ok (.lcmp, 1) := by decide +kernel
theorem d_Mo_isSign_15 : decode (yB Y_Mo_isSign) 15 = .ok (.ifCond .ne 7, 3) := by decide +kernel
theorem d_Mo_isSign_18 : decode (yB Y_Mo_isSign) 18 = .ok (.iconst 1, 1) := by decide +kernel
theorem d_Mo_isSign_19 : decode (yB Y_Mo_isSign) 19 = .ok (.goto 4, 3) := by decide +kernel
theorem d_Mo_isSign_22 : decode (yB Y_Mo_isSign) 22 = .ok (.iconst 0, 1) := by decide +kernel
theorem d_Mo_isSign_23 : decode (yB Y_Mo_isSign) 23 = .ok (.ireturn, 1) := by decide +kernel
def F_Mo_isSign (n : Nat) (E : zE) (S : zS) (a0 : Nat) (x1 : Int32) (M : zH) : Option (Bool × zH) :=
  (zgI S M a0 11 16).bind fun v_1 =>
  if v_1 = 3 then
    (zgJ S M a0 11 17).bind fun v_3 =>
    if v_3 = x1.toInt64 then
      some (true, M)
    else
      some (false, M)
  else
    some (false, M)
theorem K_Mo_isSign (n : Nat) (E : zE) (S : zS) (a0 : Nat) (x1 : Int32) (M : zH) (r : Bool) (M' : zH)  (h : F_Mo_isSign n E S a0 x1 M = some (r, M')) : zG E Y_Mo_isSign (some (.int (bI r)), S, M') 0 [(0, .ref a0), (1, .int x1)] [] S M 0 0 := by
  unfold F_Mo_isSign at h
  refine zi_aload_n 0 d_Mo_isSign_0 rfl ?_
  obtain ⟨v_1, ev_1, h⟩ := zbind h
  refine zo_getI 4 zkd_11 16 d_Mo_isSign_1 ev_1 rfl tw_1245 rfl ?_
  refine zi_iconst 3 d_Mo_isSign_4 rfl ?_
  refine zi_icmp_ne (tgt := 22) d_Mo_isSign_5 rfl (fun c_2 => ?_) (fun c_2 => ?_)
  · rw [if_neg c_2] at h
    refine zi_iconst 0 d_Mo_isSign_22 rfl ?_
    cases h
    exact zo_retB d_Mo_isSign_23 (Nat.le_of_ble_eq_true rfl) (Nat.le_of_ble_eq_true rfl) rfl
  · rw [if_pos c_2] at h
    refine zi_aload_n 0 d_Mo_isSign_8 rfl ?_
    obtain ⟨v_3, ev_3, h⟩ := zbind h
    refine zo_getJ 12 zkd_11 17 d_Mo_isSign_9 ev_3 rfl tw_1246 rfl ?_
    refine zi_iload_n 1 d_Mo_isSign_12 rfl ?_
    refine zi_i2l d_Mo_isSign_13 ?_
    refine zo_lc_ne d_Mo_isSign_14 d_Mo_isSign_15 rfl 18 rfl (fun c_4 => ?_) (fun c_4 => ?_)
    · rw [if_neg c_4] at h
      refine zi_iconst 0 d_Mo_isSign_22 rfl ?_
      cases h
      exact zo_retB d_Mo_isSign_23 (Nat.le_of_ble_eq_true rfl) (Nat.le_of_ble_eq_true rfl) rfl
    · rw [if_pos c_4] at h
      refine zi_iconst 1 d_Mo_isSign_18 rfl ?_
      refine zi_goto (tgt := 23) d_Mo_isSign_19 rfl ?_
      cases h
      exact zo_retB d_Mo_isSign_23 (Nat.le_of_ble_eq_true rfl) (Nat.le_of_ble_eq_true rfl) rfl
theorem C_Mo_isSign (n : Nat) (E : zE) (S : zS) (a0 : Nat) (x1 : Int32) (M : zH) (r : Bool) (M' : zH) (h : F_Mo_isSign n E S a0 x1 M = some (r, M')) : zC E Y_Mo_isSign [.ref a0, .int x1] S M (some (.int (bI r)), S, M') :=
  zC.of (Or.inl (show plainName "NightColanderModel" = true by decide)) (Nat.le_of_ble_eq_true rfl) (bI_nar r) (K_Mo_isSign n E S a0 x1 M r M' h)
theorem d_Mo_isWord_0 : decode (yB Y_Mo_isWord) 0 = .ok (.aload_n 0, 1) := by decide +kernel
theorem d_Mo_isWord_1 : decode (yB Y_Mo_isWord) 1 = .ok (.getfield 276, 3) := by decide +kernel
theorem d_Mo_isWord_4 : decode (yB Y_Mo_isWord) 4 = .ok (.iconst 1, 1) := by decide +kernel
theorem d_Mo_isWord_5 : decode (yB Y_Mo_isWord) 5 = .ok (.if_icmp .ne 16, 3) := by decide +kernel
theorem d_Mo_isWord_8 : decode (yB Y_Mo_isWord) 8 = .ok (.aload_n 0, 1) := by decide +kernel
theorem d_Mo_isWord_9 : decode (yB Y_Mo_isWord) 9 = .ok (.getfield 266, 3) := by decide +kernel
theorem d_Mo_isWord_12 : decode (yB Y_Mo_isWord) 12 = .ok (.lload_n 1, 1) := by decide +kernel
theorem d_Mo_isWord_13 : decode (yB Y_Mo_isWord) 13 = .ok (.lcmp, 1) := by decide +kernel
theorem d_Mo_isWord_14 : decode (yB Y_Mo_isWord) 14 = .ok (.ifCond .ne 7, 3) := by decide +kernel
theorem d_Mo_isWord_17 : decode (yB Y_Mo_isWord) 17 = .ok (.iconst 1, 1) := by decide +kernel
theorem d_Mo_isWord_18 : decode (yB Y_Mo_isWord) 18 = .ok (.goto 4, 3) := by decide +kernel
theorem d_Mo_isWord_21 : decode (yB Y_Mo_isWord) 21 = .ok (.iconst 0, 1) := by decide +kernel
theorem d_Mo_isWord_22 : decode (yB Y_Mo_isWord) 22 = .ok (.ireturn, 1) := by decide +kernel
def F_Mo_isWord (n : Nat) (E : zE) (S : zS) (a0 : Nat) (y1 : Int64) (M : zH) : Option (Bool × zH) :=
  (zgI S M a0 11 16).bind fun v_1 =>
  if v_1 = 1 then
    (zgJ S M a0 11 17).bind fun v_3 =>
    if v_3 = y1 then
      some (true, M)
    else
      some (false, M)
  else
    some (false, M)
theorem K_Mo_isWord (n : Nat) (E : zE) (S : zS) (a0 : Nat) (y1 : Int64) (M : zH) (r : Bool) (M' : zH)  (h : F_Mo_isWord n E S a0 y1 M = some (r, M')) : zG E Y_Mo_isWord (some (.int (bI r)), S, M') 0 [(0, .ref a0), (1, .long y1)] [] S M 0 0 := by
  unfold F_Mo_isWord at h
  refine zi_aload_n 0 d_Mo_isWord_0 rfl ?_
  obtain ⟨v_1, ev_1, h⟩ := zbind h
  refine zo_getI 4 zkd_11 16 d_Mo_isWord_1 ev_1 rfl tw_1245 rfl ?_
  refine zi_iconst 1 d_Mo_isWord_4 rfl ?_
  refine zi_icmp_ne (tgt := 21) d_Mo_isWord_5 rfl (fun c_2 => ?_) (fun c_2 => ?_)
  · rw [if_neg c_2] at h
    refine zi_iconst 0 d_Mo_isWord_21 rfl ?_
    cases h
    exact zo_retB d_Mo_isWord_22 (Nat.le_of_ble_eq_true rfl) (Nat.le_of_ble_eq_true rfl) rfl
  · rw [if_pos c_2] at h
    refine zi_aload_n 0 d_Mo_isWord_8 rfl ?_
    obtain ⟨v_3, ev_3, h⟩ := zbind h
    refine zo_getJ 12 zkd_11 17 d_Mo_isWord_9 ev_3 rfl tw_1246 rfl ?_
    refine zi_lload_n 1 d_Mo_isWord_12 rfl ?_
    refine zo_lc_ne d_Mo_isWord_13 d_Mo_isWord_14 rfl 17 rfl (fun c_4 => ?_) (fun c_4 => ?_)
    · rw [if_neg c_4] at h
      refine zi_iconst 0 d_Mo_isWord_21 rfl ?_
      cases h
      exact zo_retB d_Mo_isWord_22 (Nat.le_of_ble_eq_true rfl) (Nat.le_of_ble_eq_true rfl) rfl
    · rw [if_pos c_4] at h
      refine zi_iconst 1 d_Mo_isWord_17 rfl ?_
      refine zi_goto (tgt := 22) d_Mo_isWord_18 rfl ?_
      cases h
      exact zo_retB d_Mo_isWord_22 (Nat.le_of_ble_eq_true rfl) (Nat.le_of_ble_eq_true rfl) rfl
theorem C_Mo_isWord (n : Nat) (E : zE) (S : zS) (a0 : Nat) (y1 : Int64) (M : zH) (r : Bool) (M' : zH) (h : F_Mo_isWord n E S a0 y1 M = some (r, M')) : zC E Y_Mo_isWord [.ref a0, .long y1] S M (some (.int (bI r)), S, M') :=
  zC.of (Or.inl (show plainName "NightColanderModel" = true by decide)) (Nat.le_of_ble_eq_true rfl) (bI_nar r) (K_Mo_isWord n E S a0 y1 M r M' h)
theorem d_Mo_binds_0 : decode (yB Y_Mo_binds) 0 = .ok (.iload_n 0, 1) := by decide +kernel
theorem d_Mo_binds_1 : decode (yB Y_Mo_binds) 1 = .ok (.bipush 31, 2) := by decide +kernel
theorem d_Mo_binds_3 : decode (yB Y_Mo_binds) 3 = .ok (.if_icmp .lt 7, 3) := by decide +kernel
theorem d_Mo_binds_6 : decode (yB Y_Mo_binds) 6 = .ok (.iconst 0, 1) := by decide +kernel
theorem d_Mo_binds_7 : decode (yB Y_Mo_binds) 7 = .ok (.goto 55, 3) := by decide +kernel
theorem d_Mo_binds_10 : decode (yB Y_Mo_binds) 10 = .ok (.iload_n 0, 1) := by decide +kernel
theorem d_Mo_binds_11 : decode (yB Y_Mo_binds) 11 = .ok (.bipush 30, 2) := by decide +kernel
theorem d_Mo_binds_13 : decode (yB Y_Mo_binds) 13 = .ok (.if_icmp .ne 7, 3) := by decide +kernel
theorem d_Mo_binds_16 : decode (yB Y_Mo_binds) 16 = .ok (.iconst 1, 1) := by decide +kernel
theorem d_Mo_binds_17 : decode (yB Y_Mo_binds) 17 = .ok (.goto 45, 3) := by decide +kernel
theorem d_Mo_binds_20 : decode (yB Y_Mo_binds) 20 = .ok (.iload_n 0, 1) := by decide +kernel
theorem d_Mo_binds_21 : decode (yB Y_Mo_binds) 21 = .ok (.bipush 29, 2) := by decide +kernel
theorem d_Mo_binds_23 : decode (yB Y_Mo_binds) 23 = .ok (.if_icmp .ne 7, 3) := by decide +kernel
theorem d_Mo_binds_26 : decode (yB Y_Mo_binds) 26 = .ok (.iconst 2, 1) := by decide +kernel
theorem d_Mo_binds_27 : decode (yB Y_Mo_binds) 27 = .ok (.goto 35, 3) := by decide +kernel
theorem d_Mo_binds_30 : decode (yB Y_Mo_binds) 30 = .ok (.iload_n 0, 1) := by decide +kernel
theorem d_Mo_binds_31 : decode (yB Y_Mo_binds) 31 = .ok (.bipush 28, 2) := by decide +kernel
theorem d_Mo_binds_33 : decode (yB Y_Mo_binds) 33 = .ok (.if_icmp .ne 7, 3) := by decide +kernel
theorem d_Mo_binds_36 : decode (yB Y_Mo_binds) 36 = .ok (.iconst 3, 1) := by decide +kernel
theorem d_Mo_binds_37 : decode (yB Y_Mo_binds) 37 = .ok (.goto 25, 3) := by decide +kernel
theorem d_Mo_binds_40 : decode (yB Y_Mo_binds) 40 = .ok (.iload_n 0, 1) := by decide +kernel
theorem d_Mo_binds_41 : decode (yB Y_Mo_binds) 41 = .ok (.bipush 25, 2) := by decide +kernel
theorem d_Mo_binds_43 : decode (yB Y_Mo_binds) 43 = .ok (.if_icmp .lt 7, 3) := by decide +kernel
theorem d_Mo_binds_46 : decode (yB Y_Mo_binds) 46 = .ok (.iconst 4, 1) := by decide +kernel
theorem d_Mo_binds_47 : decode (yB Y_Mo_binds) 47 = .ok (.goto 15, 3) := by decide +kernel
theorem d_Mo_binds_50 : decode (yB Y_Mo_binds) 50 = .ok (.iload_n 0, 1) := by decide +kernel
theorem d_Mo_binds_51 : decode (yB Y_Mo_binds) 51 = .ok (.bipush 22, 2) := by decide +kernel
theorem d_Mo_binds_53 : decode (yB Y_Mo_binds) 53 = .ok (.if_icmp .lt 8, 3) := by decide +kernel
theorem d_Mo_binds_56 : decode (yB Y_Mo_binds) 56 = .ok (.bipush 6, 2) := by decide +kernel
theorem d_Mo_binds_58 : decode (yB Y_Mo_binds) 58 = .ok (.goto 4, 3) := by decide +kernel
theorem d_Mo_binds_61 : decode (yB Y_Mo_binds) 61 = .ok (.iconst 5, 1) := by decide +kernel
theorem d_Mo_binds_62 : decode (yB Y_Mo_binds) 62 = .ok (.ireturn, 1) := by decide +kernel
def F_Mo_binds (n : Nat) (E : zE) (S : zS) (x0 : Int32) (M : zH) : Option (Int32 × zH) :=
  if x0 < 31 then
    if x0 = 30 then
      some (1, M)
    else
      if x0 = 29 then
        some (2, M)
      else
        if x0 = 28 then
          some (3, M)
        else
          if x0 < 25 then
            if x0 < 22 then
              some (5, M)
            else
              some (6, M)
          else
            some (4, M)
  else
    some (0, M)
theorem K_Mo_binds (n : Nat) (E : zE) (S : zS) (x0 : Int32) (M : zH) (r : Int32) (M' : zH)  (h : F_Mo_binds n E S x0 M = some (r, M')) : zG E Y_Mo_binds (some (.int r), S, M') 0 [(0, .int x0)] [] S M 0 0 := by
  unfold F_Mo_binds at h
  refine zi_iload_n 0 d_Mo_binds_0 rfl ?_
  refine zi_bipush 31 d_Mo_binds_1 rfl ?_
  refine zi_icmp_lt (tgt := 10) d_Mo_binds_3 rfl (fun c_1 => ?_) (fun c_1 => ?_)
  · rw [if_pos c_1] at h
    refine zi_iload_n 0 d_Mo_binds_10 rfl ?_
    refine zi_bipush 30 d_Mo_binds_11 rfl ?_
    refine zi_icmp_ne (tgt := 20) d_Mo_binds_13 rfl (fun c_2 => ?_) (fun c_2 => ?_)
    · rw [if_neg c_2] at h
      refine zi_iload_n 0 d_Mo_binds_20 rfl ?_
      refine zi_bipush 29 d_Mo_binds_21 rfl ?_
      refine zi_icmp_ne (tgt := 30) d_Mo_binds_23 rfl (fun c_3 => ?_) (fun c_3 => ?_)
      · rw [if_neg c_3] at h
        refine zi_iload_n 0 d_Mo_binds_30 rfl ?_
        refine zi_bipush 28 d_Mo_binds_31 rfl ?_
        refine zi_icmp_ne (tgt := 40) d_Mo_binds_33 rfl (fun c_4 => ?_) (fun c_4 => ?_)
        · rw [if_neg c_4] at h
          refine zi_iload_n 0 d_Mo_binds_40 rfl ?_
          refine zi_bipush 25 d_Mo_binds_41 rfl ?_
          refine zi_icmp_lt (tgt := 50) d_Mo_binds_43 rfl (fun c_5 => ?_) (fun c_5 => ?_)
          · rw [if_pos c_5] at h
            refine zi_iload_n 0 d_Mo_binds_50 rfl ?_
            refine zi_bipush 22 d_Mo_binds_51 rfl ?_
            refine zi_icmp_lt (tgt := 61) d_Mo_binds_53 rfl (fun c_6 => ?_) (fun c_6 => ?_)
            · rw [if_pos c_6] at h
              refine zi_iconst 5 d_Mo_binds_61 rfl ?_
              cases h
              exact zo_ret d_Mo_binds_62 (Nat.le_of_ble_eq_true rfl) (Nat.le_of_ble_eq_true rfl) rfl
            · rw [if_neg c_6] at h
              refine zi_bipush 6 d_Mo_binds_56 rfl ?_
              refine zi_goto (tgt := 62) d_Mo_binds_58 rfl ?_
              cases h
              exact zo_ret d_Mo_binds_62 (Nat.le_of_ble_eq_true rfl) (Nat.le_of_ble_eq_true rfl) rfl
          · rw [if_neg c_5] at h
            refine zi_iconst 4 d_Mo_binds_46 rfl ?_
            refine zi_goto (tgt := 62) d_Mo_binds_47 rfl ?_
            cases h
            exact zo_ret d_Mo_binds_62 (Nat.le_of_ble_eq_true rfl) (Nat.le_of_ble_eq_true rfl) rfl
        · rw [if_pos c_4] at h
          refine zi_iconst 3 d_Mo_binds_36 rfl ?_
          refine zi_goto (tgt := 62) d_Mo_binds_37 rfl ?_
          cases h
          exact zo_ret d_Mo_binds_62 (Nat.le_of_ble_eq_true rfl) (Nat.le_of_ble_eq_true rfl) rfl
      · rw [if_pos c_3] at h
        refine zi_iconst 2 d_Mo_binds_26 rfl ?_
        refine zi_goto (tgt := 62) d_Mo_binds_27 rfl ?_
        cases h
        exact zo_ret d_Mo_binds_62 (Nat.le_of_ble_eq_true rfl) (Nat.le_of_ble_eq_true rfl) rfl
    · rw [if_pos c_2] at h
      refine zi_iconst 1 d_Mo_binds_16 rfl ?_
      refine zi_goto (tgt := 62) d_Mo_binds_17 rfl ?_
      cases h
      exact zo_ret d_Mo_binds_62 (Nat.le_of_ble_eq_true rfl) (Nat.le_of_ble_eq_true rfl) rfl
  · rw [if_neg c_1] at h
    refine zi_iconst 0 d_Mo_binds_6 rfl ?_
    refine zi_goto (tgt := 62) d_Mo_binds_7 rfl ?_
    cases h
    exact zo_ret d_Mo_binds_62 (Nat.le_of_ble_eq_true rfl) (Nat.le_of_ble_eq_true rfl) rfl
theorem C_Mo_binds (n : Nat) (E : zE) (S : zS) (x0 : Int32) (M : zH) (r : Int32) (M' : zH) (h : F_Mo_binds n E S x0 M = some (r, M')) : zC E Y_Mo_binds [.int x0] S M (some (.int r), S, M') :=
  zC.of (Or.inl (show plainName "NightColanderModel" = true by decide)) (Nat.le_of_ble_eq_true rfl) (trivial) (K_Mo_binds n E S x0 M r M' h)
theorem d_Mo_inner_0 : decode (yB Y_Mo_inner) 0 = .ok (.iconst (-1), 1) := by decide +kernel
theorem d_Mo_inner_1 : decode (yB Y_Mo_inner) 1 = .ok (.istore_n 1, 1) := by decide +kernel
theorem d_Mo_inner_2 : decode (yB Y_Mo_inner) 2 = .ok (.iconst 0, 1) := by decide +kernel
theorem d_Mo_inner_3 : decode (yB Y_Mo_inner) 3 = .ok (.istore_n 2, 1) := by decide +kernel
theorem d_Mo_inner_4 : decode (yB Y_Mo_inner) 4 = .ok (.iload_n 2, 1) := by decide +kernel
theorem d_Mo_inner_5 : decode (yB Y_Mo_inner) 5 = .ok (.aload_n 0, 1) := by decide +kernel
theorem d_Mo_inner_6 : decode (yB Y_Mo_inner) 6 = .ok (.getfield 294, 3) := by decide +kernel
theorem d_Mo_inner_9 : decode (yB Y_Mo_inner) 9 = .ok (.if_icmp .ge 31, 3) := by decide +kernel
theorem d_Mo_inner_12 : decode (yB Y_Mo_inner) 12 = .ok (.aload_n 0, 1) := by decide +kernel
theorem d_Mo_inner_13 : decode (yB Y_Mo_inner) 13 = .ok (.getfield 51, 3) := by decide +kernel
theorem d_Mo_inner_16 : decode (yB Y_Mo_inner) 16 = .ok (.iload_n 2, 1) := by decide +kernel
theorem d_Mo_inner_17 : decode (yB Y_Mo_inner) 17 = .ok (.iaload, 1) := by decide +kernel
theorem d_Mo_inner_18 : decode (yB Y_Mo_inner) 18 = .ok (.bipush 31, 2) := by decide +kernel
theorem d_Mo_inner_20 : decode (yB Y_Mo_inner) 20 = .ok (.if_icmp .lt 12, 3) := by decide +kernel
theorem d_Mo_inner_23 : decode (yB Y_Mo_inner) 23 = .ok (.aload_n 0, 1) := by decide +kernel
theorem d_Mo_inner_24 : decode (yB Y_Mo_inner) 24 = .ok (.getfield 51, 3) := by decide +kernel
theorem d_Mo_inner_27 : decode (yB Y_Mo_inner) 27 = .ok (.iload_n 2, 1) := by decide +kernel
theorem d_Mo_inner_28 : decode (yB Y_Mo_inner) 28 = .ok (.iaload, 1) := by decide +kernel
theorem d_Mo_inner_29 : decode (yB Y_Mo_inner) 29 = .ok (.goto 4, 3) := by decide +kernel
theorem d_Mo_inner_32 : decode (yB Y_Mo_inner) 32 = .ok (.iload_n 1, 1) := by decide +kernel
theorem d_Mo_inner_33 : decode (yB Y_Mo_inner) 33 = .ok (.istore_n 1, 1) := by decide +kernel
theorem d_Mo_inner_34 : decode (yB Y_Mo_inner) 34 = .ok (.iinc 2 1, 3) := by decide +kernel
theorem d_Mo_inner_37 : decode (yB Y_Mo_inner) 37 = .ok (.goto (-33), 3) := by decide +kernel
theorem d_Mo_inner_40 : decode (yB Y_Mo_inner) 40 = .ok (.iload_n 1, 1) := by decide +kernel
theorem d_Mo_inner_41 : decode (yB Y_Mo_inner) 41 = .ok (.ireturn, 1) := by decide +kernel
def F_Mo_inner_b33 (n : Nat) (E : zE) (S : zS) (r4 : Nat × Int32 × Int32 × zH → Option (Int32 × zH)) (a0 : Nat) (x2 : Int32) (s0 : Int32) (M : zH) : Option (Int32 × zH) :=
  r4 (a0, s0, x2 + 1, M)
def F_Mo_inner_L4 (n : Nat) (E : zE) (S : zS) (r4 : Nat × Int32 × Int32 × zH → Option (Int32 × zH)) (a0 : Nat) (x1 : Int32) (x2 : Int32) (M : zH) : Option (Int32 × zH) :=
  (zgI S M a0 11 29).bind fun v_1 =>
  if v_1 ≤ x2 then
    some (x1, M)
  else
    (zgR S a0 11 27).bind fun b_3 =>
    (zldI S M b_3 x2).bind fun v_4 =>
    if v_4 < 31 then
      F_Mo_inner_b33 n E S r4 a0 x2 x1 M
    else
      (zldI S M b_3 x2).bind fun v_6 =>
      F_Mo_inner_b33 n E S r4 a0 x2 v_6 M
def F_Mo_inner_b4 (n : Nat) (E : zE) (S : zS) : Nat × Int32 × Int32 × zH → Option (Int32 × zH) := zfix (fun r4 s => F_Mo_inner_L4 n E S r4 s.1 s.2.1 s.2.2.1 s.2.2.2) n
def F_Mo_inner (n : Nat) (E : zE) (S : zS) (a0 : Nat) (M : zH) : Option (Int32 × zH) :=
  F_Mo_inner_b4 n E S (a0, (-1), 0, M)
theorem K_Mo_inner_b33 (n : Nat) (E : zE) (S : zS) (r4 : Nat × Int32 × Int32 × zH → Option (Int32 × zH)) (a0 : Nat) (x2 : Int32) (s0 : Int32) (M : zH) (r : Int32) (M' : zH) (hr4 : ∀ (a0 : Nat) (x1 : Int32) (x2 : Int32) (M : zH), r4 (a0, x1, x2, M) = some (r, M') → zG E Y_Mo_inner (some (.int r), S, M') 4 [(0, .ref a0), (1, .int x1), (2, .int x2)] [] S M 0 0) (h : F_Mo_inner_b33 n E S r4 a0 x2 s0 M = some (r, M')) : zG E Y_Mo_inner (some (.int r), S, M') 33 [(0, .ref a0), (2, .int x2)] [.int s0] S M 0 0 := by
  unfold F_Mo_inner_b33 at h
  refine zi_istore_n [(1, .int s0), (0, .ref a0), (2, .int x2)] d_Mo_inner_33 (by decide) rfl ?_
  refine zi_iinc 2 (x2 + 1) [(2, .int (x2 + 1)), (1, .int s0), (0, .ref a0)] d_Mo_inner_34 rfl rfl (by decide) rfl ?_
  refine zi_goto (tgt := 4) d_Mo_inner_37 rfl ?_
  refine zi_lo [(0, .ref a0), (1, .int s0), (2, .int (x2 + 1))] [2, 1, 0] rfl ?_
  exact hr4 a0 s0 (x2 + 1) M h
theorem K_Mo_inner_L4 (n : Nat) (E : zE) (S : zS) (r4 : Nat × Int32 × Int32 × zH → Option (Int32 × zH)) (a0 : Nat) (x1 : Int32) (x2 : Int32) (M : zH) (r : Int32) (M' : zH) (hr4 : ∀ (a0 : Nat) (x1 : Int32) (x2 : Int32) (M : zH), r4 (a0, x1, x2, M) = some (r, M') → zG E Y_Mo_inner (some (.int r), S, M') 4 [(0, .ref a0), (1, .int x1), (2, .int x2)] [] S M 0 0) (h : F_Mo_inner_L4 n E S r4 a0 x1 x2 M = some (r, M')) : zG E Y_Mo_inner (some (.int r), S, M') 4 [(0, .ref a0), (1, .int x1), (2, .int x2)] [] S M 0 0 := by
  unfold F_Mo_inner_L4 at h
  refine zi_iload_n 2 d_Mo_inner_4 rfl ?_
  refine zi_aload_n 0 d_Mo_inner_5 rfl ?_
  obtain ⟨v_1, ev_1, h⟩ := zbind h
  refine zo_getI 9 zkd_11 29 d_Mo_inner_6 ev_1 rfl tw_1258 rfl ?_
  refine zi_icmp_ge (tgt := 40) d_Mo_inner_9 rfl (fun c_2 => ?_) (fun c_2 => ?_)
  · rw [if_pos c_2] at h
    refine zi_iload_n 1 d_Mo_inner_40 rfl ?_
    cases h
    exact zo_ret d_Mo_inner_41 (Nat.le_of_ble_eq_true rfl) (Nat.le_of_ble_eq_true rfl) rfl
  · rw [if_neg c_2] at h
    refine zi_aload_n 0 d_Mo_inner_12 rfl ?_
    obtain ⟨b_3, eb_3, h⟩ := zbind h
    refine zo_getR 16 zkd_11 27 d_Mo_inner_13 eb_3 rfl tw_1256 rfl ?_
    refine zi_iload_n 2 d_Mo_inner_16 rfl ?_
    obtain ⟨v_4, ev_4, h⟩ := zbind h
    refine zo_iald 18 d_Mo_inner_17 ev_4 rfl ?_
    refine zi_bipush 31 d_Mo_inner_18 rfl ?_
    refine zi_icmp_lt (tgt := 32) d_Mo_inner_20 rfl (fun c_5 => ?_) (fun c_5 => ?_)
    · rw [if_pos c_5] at h
      refine zi_iload_n 1 d_Mo_inner_32 rfl ?_
      refine zi_lo [(0, .ref a0), (2, .int x2)] [0, 2] rfl ?_
      exact K_Mo_inner_b33 n E S r4 a0 x2 x1 M r M' hr4 h
    · rw [if_neg c_5] at h
      refine zi_aload_n 0 d_Mo_inner_23 rfl ?_
      refine zo_getR 27 zkd_11 27 d_Mo_inner_24 eb_3 rfl tw_1256 rfl ?_
      refine zi_iload_n 2 d_Mo_inner_27 rfl ?_
      obtain ⟨v_6, ev_6, h⟩ := zbind h
      refine zo_iald 29 d_Mo_inner_28 ev_6 rfl ?_
      refine zi_goto (tgt := 33) d_Mo_inner_29 rfl ?_
      refine zi_lo [(0, .ref a0), (2, .int x2)] [0, 2] rfl ?_
      exact K_Mo_inner_b33 n E S r4 a0 x2 v_6 M r M' hr4 h
theorem K_Mo_inner_b4 (n : Nat) (E : zE) (S : zS) (a0 : Nat) (x1 : Int32) (x2 : Int32) (M : zH) (r : Int32) (M' : zH)  (h : F_Mo_inner_b4 n E S (a0, x1, x2, M) = some (r, M')) : zG E Y_Mo_inner (some (.int r), S, M') 4 [(0, .ref a0), (1, .int x1), (2, .int x2)] [] S M 0 0 := by
  have key : ∀ (k : Nat) (a0 : Nat) (x1 : Int32) (x2 : Int32) (M : zH), zfix (fun r4 s => F_Mo_inner_L4 n E S r4 s.1 s.2.1 s.2.2.1 s.2.2.2) k (a0, x1, x2, M) = some (r, M') → zG E Y_Mo_inner (some (.int r), S, M') 4 [(0, .ref a0), (1, .int x1), (2, .int x2)] [] S M 0 0 := by
    intro k
    induction k with
    | zero => intro a0 x1 x2 M h; cases h
    | succ k ih => intro a0 x1 x2 M h; exact K_Mo_inner_L4 n E S _ a0 x1 x2 M r M'  (fun a0 x1 x2 M h => ih a0 x1 x2 M h) h
  exact key n a0 x1 x2 M h
theorem K_Mo_inner (n : Nat) (E : zE) (S : zS) (a0 : Nat) (M : zH) (r : Int32) (M' : zH)  (h : F_Mo_inner n E S a0 M = some (r, M')) : zG E Y_Mo_inner (some (.int r), S, M') 0 [(0, .ref a0)] [] S M 0 0 := by
  unfold F_Mo_inner at h
  refine zi_iconst (-1) d_Mo_inner_0 rfl ?_
  refine zi_istore_n [(1, .int (-1)), (0, .ref a0)] d_Mo_inner_1 (by decide) rfl ?_
  refine zi_iconst 0 d_Mo_inner_2 rfl ?_
  refine zi_istore_n [(2, .int 0), (1, .int (-1)), (0, .ref a0)] d_Mo_inner_3 (by decide) rfl ?_
  refine zi_lo [(0, .ref a0), (1, .int (-1)), (2, .int 0)] [2, 1, 0] rfl ?_
  exact K_Mo_inner_b4 n E S a0 (-1) 0 M r M'  h
theorem C_Mo_inner (n : Nat) (E : zE) (S : zS) (a0 : Nat) (M : zH) (r : Int32) (M' : zH) (h : F_Mo_inner n E S a0 M = some (r, M')) : zC E Y_Mo_inner [.ref a0] S M (some (.int r), S, M') :=
  zC.of (Or.inl (show plainName "NightColanderModel" = true by decide)) (Nat.le_of_ble_eq_true rfl) (trivial) (K_Mo_inner n E S a0 M r M' h)
theorem d_Mo_isCompared_0 : decode (yB Y_Mo_isCompared) 0 = .ok (.aload_n 0, 1) := by decide +kernel
theorem d_Mo_isCompared_1 : decode (yB Y_Mo_isCompared) 1 = .ok (.getfield 294, 3) := by decide +kernel
theorem d_Mo_isCompared_4 : decode (yB Y_Mo_isCompared) 4 = .ok (.iconst 1, 1) := by decide +kernel
theorem d_Mo_isCompared_5 : decode (yB Y_Mo_isCompared) 5 = .ok (.isub, 1) := by decide +kernel
theorem d_Mo_isCompared_6 : decode (yB Y_Mo_isCompared) 6 = .ok (.istore_n 1, 1) := by decide +kernel
theorem d_Mo_isCompared_7 : decode (yB Y_Mo_isCompared) 7 = .ok (.iload_n 1, 1) := by decide +kernel
theorem d_Mo_isCompared_8 : decode (yB Y_Mo_isCompared) 8 = .ok (.ifCond .lt 28, 3) := by decide +kernel
theorem d_Mo_isCompared_11 : decode (yB Y_Mo_isCompared) 11 = .ok (.aload_n 0, 1) := by decide +kernel
theorem d_Mo_isCompared_12 : decode (yB Y_Mo_isCompared) 12 = .ok (.getfield 51, 3) := by decide +kernel
theorem d_Mo_isCompared_15 : decode (yB Y_Mo_isCompared) 15 = .ok (.iload_n 1, 1) := by decide +kernel
theorem d_Mo_isCompared_16 : decode (yB Y_Mo_isCompared) 16 = .ok (.iaload, 1) := by decide +kernel
theorem d_Mo_isCompared_17 : decode (yB Y_Mo_isCompared) 17 = .ok (.i2l, 1) := by decide +kernel
theorem d_Mo_isCompared_18 : decode (yB Y_Mo_isCompared) 18 = .ok (.ldc2_w 304, 3) := by decide +kernel
theorem d_Mo_isCompared_21 : decode (yB Y_Mo_isCompared) 21 = .ok (.ldc2_w 306, 3) := by decide +kernel
theorem d_Mo_isCompared_24 : decode (yB Y_Mo_isCompared) 24 = .ok (.invokestatic 176, 3) := by decide +kernel
theorem d_Mo_isCompared_27 : decode (yB Y_Mo_isCompared) 27 = .ok (.ifCond .eq 9, 3) := by decide +kernel
theorem d_Mo_isCompared_30 : decode (yB Y_Mo_isCompared) 30 = .ok (.iinc 1 (-1), 3) := by decide +kernel
theorem d_Mo_isCompared_33 : decode (yB Y_Mo_isCompared) 33 = .ok (.goto (-26), 3) := by decide +kernel
theorem d_Mo_isCompared_36 : decode (yB Y_Mo_isCompared) 36 = .ok (.iload_n 1, 1) := by decide +kernel
theorem d_Mo_isCompared_37 : decode (yB Y_Mo_isCompared) 37 = .ok (.ifCond .lt 26, 3) := by decide +kernel
theorem d_Mo_isCompared_40 : decode (yB Y_Mo_isCompared) 40 = .ok (.aload_n 0, 1) := by decide +kernel
theorem d_Mo_isCompared_41 : decode (yB Y_Mo_isCompared) 41 = .ok (.getfield 51, 3) := by decide +kernel
theorem d_Mo_isCompared_44 : decode (yB Y_Mo_isCompared) 44 = .ok (.iload_n 1, 1) := by decide +kernel
theorem d_Mo_isCompared_45 : decode (yB Y_Mo_isCompared) 45 = .ok (.iaload, 1) := by decide +kernel
theorem d_Mo_isCompared_46 : decode (yB Y_Mo_isCompared) 46 = .ok (.i2l, 1) := by decide +kernel
theorem d_Mo_isCompared_47 : decode (yB Y_Mo_isCompared) 47 = .ok (.ldc2_w 308, 3) := by decide +kernel
theorem d_Mo_isCompared_50 : decode (yB Y_Mo_isCompared) 50 = .ok (.ldc2_w 310, 3) := by decide +kernel
theorem d_Mo_isCompared_53 : decode (yB Y_Mo_isCompared) 53 = .ok (.invokestatic 176, 3) := by decide +kernel
theorem d_Mo_isCompared_56 : decode (yB Y_Mo_isCompared) 56 = .ok (.ifCond .eq 7, 3) := by decide +kernel
theorem d_Mo_isCompared_59 : decode (yB Y_Mo_isCompared) 59 = .ok (.iconst 1, 1) := by decide +kernel
theorem d_Mo_isCompared_60 : decode (yB Y_Mo_isCompared) 60 = .ok (.goto 4, 3) := by decide +kernel
theorem d_Mo_isCompared_63 : decode (yB Y_Mo_isCompared) 63 = .ok (.iconst 0, 1) := by decide +kernel
theorem d_Mo_isCompared_64 : decode (yB Y_Mo_isCompared) 64 = .ok (.ireturn, 1) := by decide +kernel
def F_Mo_isCompared_b36 (n : Nat) (E : zE) (S : zS) (a0 : Nat) (x1 : Int32) (M : zH) : Option (Bool × zH) :=
  if x1 < 0 then
    some (false, M)
  else
    (zgR S a0 11 27).bind fun b_2 =>
    (zldI S M b_2 x1).bind fun v_3 =>
    (F_Mo_in n E S v_3.toInt64 25 27 M).bind fun q_4 =>
    if q_4.1 = true then
      some (true, q_4.2)
    else
      some (false, q_4.2)
def F_Mo_isCompared_L7 (n : Nat) (E : zE) (S : zS) (r7 : Nat × Int32 × zH → Option (Bool × zH)) (a0 : Nat) (x1 : Int32) (M : zH) : Option (Bool × zH) :=
  if x1 < 0 then
    F_Mo_isCompared_b36 n E S a0 x1 M
  else
    (zgR S a0 11 27).bind fun b_7 =>
    (zldI S M b_7 x1).bind fun v_8 =>
    (F_Mo_in n E S v_8.toInt64 20 24 M).bind fun q_9 =>
    if q_9.1 = true then
      r7 (a0, x1 + (-1), q_9.2)
    else
      F_Mo_isCompared_b36 n E S a0 x1 q_9.2
def F_Mo_isCompared_b7 (n : Nat) (E : zE) (S : zS) : Nat × Int32 × zH → Option (Bool × zH) := zfix (fun r7 s => F_Mo_isCompared_L7 n E S r7 s.1 s.2.1 s.2.2) n
def F_Mo_isCompared (n : Nat) (E : zE) (S : zS) (a0 : Nat) (M : zH) : Option (Bool × zH) :=
  (zgI S M a0 11 29).bind fun v_11 =>
  F_Mo_isCompared_b7 n E S (a0, v_11 - 1, M)
theorem K_Mo_isCompared_b36 (n : Nat) (E : zE) (S : zS) (a0 : Nat) (x1 : Int32) (M : zH) (r : Bool) (M' : zH)  (h : F_Mo_isCompared_b36 n E S a0 x1 M = some (r, M')) : zG E Y_Mo_isCompared (some (.int (bI r)), S, M') 36 [(0, .ref a0), (1, .int x1)] [] S M 0 0 := by
  unfold F_Mo_isCompared_b36 at h
  refine zi_iload_n 1 d_Mo_isCompared_36 rfl ?_
  refine zi_if_lt (tgt := 63) d_Mo_isCompared_37 rfl (fun c_1 => ?_) (fun c_1 => ?_)
  · rw [if_pos c_1] at h
    refine zi_iconst 0 d_Mo_isCompared_63 rfl ?_
    cases h
    exact zo_retB d_Mo_isCompared_64 (Nat.le_of_ble_eq_true rfl) (Nat.le_of_ble_eq_true rfl) rfl
  · rw [if_neg c_1] at h
    refine zi_aload_n 0 d_Mo_isCompared_40 rfl ?_
    obtain ⟨b_2, eb_2, h⟩ := zbind h
    refine zo_getR 44 zkd_11 27 d_Mo_isCompared_41 eb_2 rfl tw_1256 rfl ?_
    refine zi_iload_n 1 d_Mo_isCompared_44 rfl ?_
    obtain ⟨v_3, ev_3, h⟩ := zbind h
    refine zo_iald 46 d_Mo_isCompared_45 ev_3 rfl ?_
    refine zi_i2l d_Mo_isCompared_46 ?_
    refine zi_ldc2 d_Mo_isCompared_47 tw_1668 ?_
    refine zi_ldc2 d_Mo_isCompared_50 tw_1669 ?_
    obtain ⟨q_4, eq_4, h⟩ := zbind h
    refine zo_stat (k' := 0) (n' := 0) 56 [.long v_3.toInt64, .long 25, .long 27] [] [.int (bI q_4.1)] (C_Mo_in n E S v_3.toInt64 25 27 M q_4.1 q_4.2 eq_4) d_Mo_isCompared_53 tw_1419 tw_1417 tw_1418 tw_13 dd_Mo_in ⟨Nat.le_of_ble_eq_true rfl, Nat.le_of_ble_eq_true rfl, Nat.le_of_ble_eq_true rfl, Nat.le_of_ble_eq_true rfl⟩ (Nat.le_of_ble_eq_true rfl) rfl rfl rfl rfl ?_
    refine zo_ifeqB d_Mo_isCompared_56 rfl 59 rfl (fun c_5 => ?_) (fun c_5 => ?_)
    · rw [if_neg c_5] at h
      refine zi_iconst 0 d_Mo_isCompared_63 rfl ?_
      cases h
      exact zo_retB d_Mo_isCompared_64 (Nat.le_of_ble_eq_true rfl) (Nat.le_of_ble_eq_true rfl) rfl
    · rw [if_pos c_5] at h
      refine zi_iconst 1 d_Mo_isCompared_59 rfl ?_
      refine zi_goto (tgt := 64) d_Mo_isCompared_60 rfl ?_
      cases h
      exact zo_retB d_Mo_isCompared_64 (Nat.le_of_ble_eq_true rfl) (Nat.le_of_ble_eq_true rfl) rfl
theorem K_Mo_isCompared_L7 (n : Nat) (E : zE) (S : zS) (r7 : Nat × Int32 × zH → Option (Bool × zH)) (a0 : Nat) (x1 : Int32) (M : zH) (r : Bool) (M' : zH) (hr7 : ∀ (a0 : Nat) (x1 : Int32) (M : zH), r7 (a0, x1, M) = some (r, M') → zG E Y_Mo_isCompared (some (.int (bI r)), S, M') 7 [(0, .ref a0), (1, .int x1)] [] S M 0 0) (h : F_Mo_isCompared_L7 n E S r7 a0 x1 M = some (r, M')) : zG E Y_Mo_isCompared (some (.int (bI r)), S, M') 7 [(0, .ref a0), (1, .int x1)] [] S M 0 0 := by
  unfold F_Mo_isCompared_L7 at h
  refine zi_iload_n 1 d_Mo_isCompared_7 rfl ?_
  refine zi_if_lt (tgt := 36) d_Mo_isCompared_8 rfl (fun c_6 => ?_) (fun c_6 => ?_)
  · rw [if_pos c_6] at h
    refine zi_lo [(0, .ref a0), (1, .int x1)] [0, 1] rfl ?_
    exact K_Mo_isCompared_b36 n E S a0 x1 M r M'  h
  · rw [if_neg c_6] at h
    refine zi_aload_n 0 d_Mo_isCompared_11 rfl ?_
    obtain ⟨b_7, eb_7, h⟩ := zbind h
    refine zo_getR 15 zkd_11 27 d_Mo_isCompared_12 eb_7 rfl tw_1256 rfl ?_
    refine zi_iload_n 1 d_Mo_isCompared_15 rfl ?_
    obtain ⟨v_8, ev_8, h⟩ := zbind h
    refine zo_iald 17 d_Mo_isCompared_16 ev_8 rfl ?_
    refine zi_i2l d_Mo_isCompared_17 ?_
    refine zi_ldc2 d_Mo_isCompared_18 tw_1666 ?_
    refine zi_ldc2 d_Mo_isCompared_21 tw_1667 ?_
    obtain ⟨q_9, eq_9, h⟩ := zbind h
    refine zo_stat (k' := 0) (n' := 0) 27 [.long v_8.toInt64, .long 20, .long 24] [] [.int (bI q_9.1)] (C_Mo_in n E S v_8.toInt64 20 24 M q_9.1 q_9.2 eq_9) d_Mo_isCompared_24 tw_1419 tw_1417 tw_1418 tw_13 dd_Mo_in ⟨Nat.le_of_ble_eq_true rfl, Nat.le_of_ble_eq_true rfl, Nat.le_of_ble_eq_true rfl, Nat.le_of_ble_eq_true rfl⟩ (Nat.le_of_ble_eq_true rfl) rfl rfl rfl rfl ?_
    refine zo_ifeqB d_Mo_isCompared_27 rfl 30 rfl (fun c_10 => ?_) (fun c_10 => ?_)
    · rw [if_neg c_10] at h
      refine zi_lo [(0, .ref a0), (1, .int x1)] [0, 1] rfl ?_
      exact K_Mo_isCompared_b36 n E S a0 x1 q_9.2 r M'  h
    · rw [if_pos c_10] at h
      refine zi_iinc 1 (x1 + (-1)) [(1, .int (x1 + (-1))), (0, .ref a0)] d_Mo_isCompared_30 rfl rfl (by decide) rfl ?_
      refine zi_goto (tgt := 7) d_Mo_isCompared_33 rfl ?_
      refine zi_lo [(0, .ref a0), (1, .int (x1 + (-1)))] [1, 0] rfl ?_
      exact hr7 a0 (x1 + (-1)) q_9.2 h
theorem K_Mo_isCompared_b7 (n : Nat) (E : zE) (S : zS) (a0 : Nat) (x1 : Int32) (M : zH) (r : Bool) (M' : zH)  (h : F_Mo_isCompared_b7 n E S (a0, x1, M) = some (r, M')) : zG E Y_Mo_isCompared (some (.int (bI r)), S, M') 7 [(0, .ref a0), (1, .int x1)] [] S M 0 0 := by
  have key : ∀ (k : Nat) (a0 : Nat) (x1 : Int32) (M : zH), zfix (fun r7 s => F_Mo_isCompared_L7 n E S r7 s.1 s.2.1 s.2.2) k (a0, x1, M) = some (r, M') → zG E Y_Mo_isCompared (some (.int (bI r)), S, M') 7 [(0, .ref a0), (1, .int x1)] [] S M 0 0 := by
    intro k
    induction k with
    | zero => intro a0 x1 M h; cases h
    | succ k ih => intro a0 x1 M h; exact K_Mo_isCompared_L7 n E S _ a0 x1 M r M'  (fun a0 x1 M h => ih a0 x1 M h) h
  exact key n a0 x1 M h
theorem K_Mo_isCompared (n : Nat) (E : zE) (S : zS) (a0 : Nat) (M : zH) (r : Bool) (M' : zH)  (h : F_Mo_isCompared n E S a0 M = some (r, M')) : zG E Y_Mo_isCompared (some (.int (bI r)), S, M') 0 [(0, .ref a0)] [] S M 0 0 := by
  unfold F_Mo_isCompared at h
  refine zi_aload_n 0 d_Mo_isCompared_0 rfl ?_
  obtain ⟨v_11, ev_11, h⟩ := zbind h
  refine zo_getI 4 zkd_11 29 d_Mo_isCompared_1 ev_11 rfl tw_1258 rfl ?_
  refine zi_iconst 1 d_Mo_isCompared_4 rfl ?_
  refine zi_isub d_Mo_isCompared_5 ?_
  refine zi_istore_n [(1, .int (v_11 - 1)), (0, .ref a0)] d_Mo_isCompared_6 (by decide) rfl ?_
  refine zi_lo [(0, .ref a0), (1, .int (v_11 - 1))] [1, 0] rfl ?_
  exact K_Mo_isCompared_b7 n E S a0 (v_11 - 1) M r M'  h
theorem C_Mo_isCompared (n : Nat) (E : zE) (S : zS) (a0 : Nat) (M : zH) (r : Bool) (M' : zH) (h : F_Mo_isCompared n E S a0 M = some (r, M')) : zC E Y_Mo_isCompared [.ref a0] S M (some (.int (bI r)), S, M') :=
  zC.of (Or.inl (show plainName "NightColanderModel" = true by decide)) (Nat.le_of_ble_eq_true rfl) (bI_nar r) (K_Mo_isCompared n E S a0 M r M' h)
theorem d_Mo_push_0 : decode (yB Y_Mo_push) 0 = .ok (.aload_n 0, 1) := by decide +kernel
theorem d_Mo_push_1 : decode (yB Y_Mo_push) 1 = .ok (.getfield 51, 3) := by decide +kernel
theorem d_Mo_push_4 : decode (yB Y_Mo_push) 4 = .ok (.aload_n 0, 1) := by decide +kernel
theorem d_Mo_push_5 : decode (yB Y_Mo_push) 5 = .ok (.getfield 294, 3) := by decide +kernel
theorem d_Mo_push_8 : decode (yB Y_Mo_push) 8 = .ok (.iload_n 1, 1) := by decide +kernel
theorem d_Mo_push_9 : decode (yB Y_Mo_push) 9 = .ok (.iastore, 1) := by decide +kernel
theorem d_Mo_push_10 : decode (yB Y_Mo_push) 10 = .ok (.aload_n 0, 1) := by decide +kernel
theorem d_Mo_push_11 : decode (yB Y_Mo_push) 11 = .ok (.getfield 54, 3) := by decide +kernel
theorem d_Mo_push_14 : decode (yB Y_Mo_push) 14 = .ok (.aload_n 0, 1) := by decide +kernel
theorem d_Mo_push_15 : decode (yB Y_Mo_push) 15 = .ok (.getfield 294, 3) := by decide +kernel
theorem d_Mo_push_18 : decode (yB Y_Mo_push) 18 = .ok (.iload_n 2, 1) := by decide +kernel
theorem d_Mo_push_19 : decode (yB Y_Mo_push) 19 = .ok (.iastore, 1) := by decide +kernel
theorem d_Mo_push_20 : decode (yB Y_Mo_push) 20 = .ok (.aload_n 0, 1) := by decide +kernel
theorem d_Mo_push_21 : decode (yB Y_Mo_push) 21 = .ok (.dup, 1) := by decide +kernel
theorem d_Mo_push_22 : decode (yB Y_Mo_push) 22 = .ok (.getfield 294, 3) := by decide +kernel
theorem d_Mo_push_25 : decode (yB Y_Mo_push) 25 = .ok (.iconst 1, 1) := by decide +kernel
theorem d_Mo_push_26 : decode (yB Y_Mo_push) 26 = .ok (.iadd, 1) := by decide +kernel
theorem d_Mo_push_27 : decode (yB Y_Mo_push) 27 = .ok (.putfield 294, 3) := by decide +kernel
theorem d_Mo_push_30 : decode (yB Y_Mo_push) 30 = .ok (.return_, 1) := by decide +kernel
def F_Mo_push (n : Nat) (E : zE) (S : zS) (a0 : Nat) (x1 : Int32) (x2 : Int32) (M : zH) : Option (zH) :=
  (zgR S a0 11 27).bind fun b_1 =>
  (zgI S M a0 11 29).bind fun v_2 =>
  (zstI S M b_1 v_2 x1).bind fun m_3 =>
  (zgR S a0 11 28).bind fun b_4 =>
  (zgI S m_3 a0 11 29).bind fun v_5 =>
  (zstI S m_3 b_4 v_5 x2).bind fun m_6 =>
  (zgI S m_6 a0 11 29).bind fun v_7 =>
  (zpI S m_6 a0 11 29 (v_7 + 1)).bind fun m_8 =>
  some (m_8)
theorem K_Mo_push (n : Nat) (E : zE) (S : zS) (a0 : Nat) (x1 : Int32) (x2 : Int32) (M : zH) (M' : zH)  (h : F_Mo_push n E S a0 x1 x2 M = some M') : zG E Y_Mo_push (none, S, M') 0 [(0, .ref a0), (1, .int x1), (2, .int x2)] [] S M 0 0 := by
  unfold F_Mo_push at h
  refine zi_aload_n 0 d_Mo_push_0 rfl ?_
  obtain ⟨b_1, eb_1, h⟩ := zbind h
  refine zo_getR 4 zkd_11 27 d_Mo_push_1 eb_1 rfl tw_1256 rfl ?_
  refine zi_aload_n 0 d_Mo_push_4 rfl ?_
  obtain ⟨v_2, ev_2, h⟩ := zbind h
  refine zo_getI 8 zkd_11 29 d_Mo_push_5 ev_2 rfl tw_1258 rfl ?_
  refine zi_iload_n 1 d_Mo_push_8 rfl ?_
  obtain ⟨m_3, em_3, h⟩ := zbind h
  refine zo_iast 10 d_Mo_push_9 em_3 rfl ?_
  refine zi_aload_n 0 d_Mo_push_10 rfl ?_
  obtain ⟨b_4, eb_4, h⟩ := zbind h
  refine zo_getR 14 zkd_11 28 d_Mo_push_11 eb_4 rfl tw_1257 rfl ?_
  refine zi_aload_n 0 d_Mo_push_14 rfl ?_
  obtain ⟨v_5, ev_5, h⟩ := zbind h
  refine zo_getI 18 zkd_11 29 d_Mo_push_15 ev_5 rfl tw_1258 rfl ?_
  refine zi_iload_n 2 d_Mo_push_18 rfl ?_
  obtain ⟨m_6, em_6, h⟩ := zbind h
  refine zo_iast 20 d_Mo_push_19 em_6 rfl ?_
  refine zi_aload_n 0 d_Mo_push_20 rfl ?_
  refine zi_dup d_Mo_push_21 rfl ?_
  obtain ⟨v_7, ev_7, h⟩ := zbind h
  refine zo_getI 25 zkd_11 29 d_Mo_push_22 ev_7 rfl tw_1258 rfl ?_
  refine zi_iconst 1 d_Mo_push_25 rfl ?_
  refine zi_iadd d_Mo_push_26 ?_
  obtain ⟨m_8, em_8, h⟩ := zbind h
  refine zo_putI 30 zkd_11 29 d_Mo_push_27 em_8 rfl rfl rfl tw_1258 rfl ?_
  cases h
  exact zo_ret d_Mo_push_30 (Nat.le_of_ble_eq_true rfl) (Nat.le_of_ble_eq_true rfl) rfl
theorem C_Mo_push (n : Nat) (E : zE) (S : zS) (a0 : Nat) (x1 : Int32) (x2 : Int32) (M : zH) (M' : zH) (h : F_Mo_push n E S a0 x1 x2 M = some M') : zC E Y_Mo_push [.ref a0, .int x1, .int x2] S M (none, S, M') :=
  zC.of (Or.inl (show plainName "NightColanderModel" = true by decide)) (Nat.le_of_ble_eq_true rfl) (trivial) (K_Mo_push n E S a0 x1 x2 M M' h)
