/-! METHODS (printed by gen/build.py): NC_row NC_peas Ni_addLaw Ta_isDigit Ta_isLetter Ta_advance Ta_atNumber Ta_number Te_add Te_addWord Ps_readNumberOf Ta_atSign Ps_readSumInBrackets Js_isLatin1 Jp_checkIndex Js_checkIndex Jl_charAt Js_charAt Ta_isSame Js_coder -/
theorem d_NC_row_0 : decode (yB Y_NC_row) 0 = .ok (.aload_n 0, 1) := by decide +kernel
theorem d_NC_row_1 : decode (yB Y_NC_row) 1 = .ok (.getfield 45, 3) := by decide +kernel
theorem d_NC_row_4 : decode (yB Y_NC_row) 4 = .ok (.getfield 202, 3) := by decide +kernel
theorem d_NC_row_7 : decode (yB Y_NC_row) 7 = .ok (.ifCond .ne 10, 3) := by decide +kernel
theorem d_NC_row_10 : decode (yB Y_NC_row) 10 = .ok (.aload_n 0, 1) := by decide +kernel
theorem d_NC_row_11 : decode (yB Y_NC_row) 11 = .ok (.bipush (-6), 2) := by decide +kernel
theorem d_NC_row_13 : decode (yB Y_NC_row) 13 = .ok (.invokevirtual 136, 3) := by decide +kernel
theorem d_NC_row_16 : decode (yB Y_NC_row) 16 = .ok (.ireturn, 1) := by decide +kernel
theorem d_NC_row_17 : decode (yB Y_NC_row) 17 = .ok (.iconst 0, 1) := by decide +kernel
theorem d_NC_row_18 : decode (yB Y_NC_row) 18 = .ok (.istore_n 1, 1) := by decide +kernel
theorem d_NC_row_19 : decode (yB Y_NC_row) 19 = .ok (.iconst 0, 1) := by decide +kernel
theorem d_NC_row_20 : decode (yB Y_NC_row) 20 = .ok (.istore_n 2, 1) := by decide +kernel
theorem d_NC_row_21 : decode (yB Y_NC_row) 21 = .ok (.iconst 0, 1) := by decide +kernel
theorem d_NC_row_22 : decode (yB Y_NC_row) 22 = .ok (.istore_n 3, 1) := by decide +kernel
theorem d_NC_row_23 : decode (yB Y_NC_row) 23 = .ok (.iload_n 3, 1) := by decide +kernel
theorem d_NC_row_24 : decode (yB Y_NC_row) 24 = .ok (.aload_n 0, 1) := by decide +kernel
theorem d_NC_row_25 : decode (yB Y_NC_row) 25 = .ok (.getfield 45, 3) := by decide +kernel
theorem d_NC_row_28 : decode (yB Y_NC_row) 28 = .ok (.getfield 202, 3) := by decide +kernel
theorem d_NC_row_31 : decode (yB Y_NC_row) 31 = .ok (.if_icmp .ge 26, 3) := by decide +kernel
theorem d_NC_row_34 : decode (yB Y_NC_row) 34 = .ok (.aload_n 0, 1) := by decide +kernel
theorem d_NC_row_35 : decode (yB Y_NC_row) 35 = .ok (.iload_n 3, 1) := by decide +kernel
theorem d_NC_row_36 : decode (yB Y_NC_row) 36 = .ok (.invokevirtual 205, 3) := by decide +kernel
theorem d_NC_row_39 : decode (yB Y_NC_row) 39 = .ok (.ifCond .eq 9, 3) := by decide +kernel
theorem d_NC_row_42 : decode (yB Y_NC_row) 42 = .ok (.iinc 1 1, 3) := by decide +kernel
theorem d_NC_row_45 : decode (yB Y_NC_row) 45 = .ok (.goto 6, 3) := by decide +kernel
theorem d_NC_row_48 : decode (yB Y_NC_row) 48 = .ok (.iinc 2 1, 3) := by decide +kernel
theorem d_NC_row_51 : decode (yB Y_NC_row) 51 = .ok (.iinc 3 3, 3) := by decide +kernel
theorem d_NC_row_54 : decode (yB Y_NC_row) 54 = .ok (.goto (-31), 3) := by decide +kernel
theorem d_NC_row_57 : decode (yB Y_NC_row) 57 = .ok (.aload_n 0, 1) := by decide +kernel
theorem d_NC_row_58 : decode (yB Y_NC_row) 58 = .ok (.getfield 45, 3) := by decide +kernel
theorem d_NC_row_61 : decode (yB Y_NC_row) 61 = .ok (.iconst 0, 1) := by decide +kernel
theorem d_NC_row_62 : decode (yB Y_NC_row) 62 = .ok (.putfield 202, 3) := by decide +kernel
theorem d_NC_row_65 : decode (yB Y_NC_row) 65 = .ok (.aload_n 0, 1) := by decide +kernel
theorem d_NC_row_66 : decode (yB Y_NC_row) 66 = .ok (.iload_n 2, 1) := by decide +kernel
theorem d_NC_row_67 : decode (yB Y_NC_row) 67 = .ok (.putfield 102, 3) := by decide +kernel
theorem d_NC_row_70 : decode (yB Y_NC_row) 70 = .ok (.aload_n 0, 1) := by decide +kernel
theorem d_NC_row_71 : decode (yB Y_NC_row) 71 = .ok (.getfield 35, 3) := by decide +kernel
theorem d_NC_row_74 : decode (yB Y_NC_row) 74 = .ok (.invokevirtual 143, 3) := by decide +kernel
theorem d_NC_row_77 : decode (yB Y_NC_row) 77 = .ok (.aload_n 0, 1) := by decide +kernel
theorem d_NC_row_78 : decode (yB Y_NC_row) 78 = .ok (.iload_n 1, 1) := by decide +kernel
theorem d_NC_row_79 : decode (yB Y_NC_row) 79 = .ok (.invokevirtual 146, 3) := by decide +kernel
theorem d_NC_row_82 : decode (yB Y_NC_row) 82 = .ok (.ireturn, 1) := by decide +kernel
def F_NC_row_b51 (n : Nat) (E : zE) (S : zS) (r23 : Nat × Int32 × Int32 × Int32 × zH → Option (Int32 × zH)) (a0 : Nat) (x1 : Int32) (x2 : Int32) (x3 : Int32) (M : zH) : Option (Int32 × zH) :=
  r23 (a0, x1, x2, x3 + 3, M)
def F_NC_row_L23 (n : Nat) (E : zE) (S : zS) (r23 : Nat × Int32 × Int32 × Int32 × zH → Option (Int32 × zH)) (a0 : Nat) (x1 : Int32) (x2 : Int32) (x3 : Int32) (M : zH) : Option (Int32 × zH) :=
  (zgR S a0 10 7).bind fun b_1 =>
  (zgI S M b_1 8 1).bind fun v_2 =>
  if v_2 ≤ x3 then
    (zpI S M b_1 8 1 0).bind fun m_4 =>
    (zpI S m_4 a0 10 16 x2).bind fun m_5 =>
    (zgR S a0 10 5).bind fun b_6 =>
    (zck S b_6 6).bind fun u_7 =>
    (F_Pt_clear n E S b_6 m_5).bind fun q_8 =>
    (F_NC_accept n E S a0 x1 q_8).bind fun q_9 =>
    some (q_9.1, q_9.2)
  else
    (F_NC_tellHole n E S a0 x3 M).bind fun q_10 =>
    if q_10.1 = true then
      F_NC_row_b51 n E S r23 a0 (x1 + 1) x2 x3 q_10.2
    else
      F_NC_row_b51 n E S r23 a0 x1 (x2 + 1) x3 q_10.2
def F_NC_row_b23 (n : Nat) (E : zE) (S : zS) : Nat × Int32 × Int32 × Int32 × zH → Option (Int32 × zH) := zfix (fun r23 s => F_NC_row_L23 n E S r23 s.1 s.2.1 s.2.2.1 s.2.2.2.1 s.2.2.2.2) n
def F_NC_row (n : Nat) (E : zE) (S : zS) (a0 : Nat) (M : zH) : Option (Int32 × zH) :=
  (zgR S a0 10 7).bind fun b_12 =>
  (zgI S M b_12 8 1).bind fun v_13 =>
  if v_13 = 0 then
    (F_NC_refuse n E S a0 (-6) M).bind fun q_15 =>
    some (q_15.1, q_15.2)
  else
    F_NC_row_b23 n E S (a0, 0, 0, 0, M)
theorem K_NC_row_b51 (n : Nat) (E : zE) (S : zS) (r23 : Nat × Int32 × Int32 × Int32 × zH → Option (Int32 × zH)) (a0 : Nat) (x1 : Int32) (x2 : Int32) (x3 : Int32) (M : zH) (r : Int32) (M' : zH) (hr23 : ∀ (a0 : Nat) (x1 : Int32) (x2 : Int32) (x3 : Int32) (M : zH), r23 (a0, x1, x2, x3, M) = some (r, M') → zG E Y_NC_row (some (.int r), S, M') 23 [(0, .ref a0), (1, .int x1), (2, .int x2), (3, .int x3)] [] S M 0 0) (h : F_NC_row_b51 n E S r23 a0 x1 x2 x3 M = some (r, M')) : zG E Y_NC_row (some (.int r), S, M') 51 [(0, .ref a0), (1, .int x1), (2, .int x2), (3, .int x3)] [] S M 0 0 := by
  unfold F_NC_row_b51 at h
  refine zi_iinc 3 (x3 + 3) [(3, .int (x3 + 3)), (0, .ref a0), (1, .int x1), (2, .int x2)] d_NC_row_51 rfl rfl (by decide) rfl ?_
  refine zi_goto (tgt := 23) d_NC_row_54 rfl ?_
  refine zi_lo [(0, .ref a0), (1, .int x1), (2, .int x2), (3, .int (x3 + 3))] [1, 2, 3, 0] rfl ?_
  exact hr23 a0 x1 x2 (x3 + 3) M h
theorem K_NC_row_L23 (n : Nat) (E : zE) (S : zS) (r23 : Nat × Int32 × Int32 × Int32 × zH → Option (Int32 × zH)) (a0 : Nat) (x1 : Int32) (x2 : Int32) (x3 : Int32) (M : zH) (r : Int32) (M' : zH) (hr23 : ∀ (a0 : Nat) (x1 : Int32) (x2 : Int32) (x3 : Int32) (M : zH), r23 (a0, x1, x2, x3, M) = some (r, M') → zG E Y_NC_row (some (.int r), S, M') 23 [(0, .ref a0), (1, .int x1), (2, .int x2), (3, .int x3)] [] S M 0 0) (h : F_NC_row_L23 n E S r23 a0 x1 x2 x3 M = some (r, M')) : zG E Y_NC_row (some (.int r), S, M') 23 [(0, .ref a0), (1, .int x1), (2, .int x2), (3, .int x3)] [] S M 0 0 := by
  unfold F_NC_row_L23 at h
  refine zi_iload_n 3 d_NC_row_23 rfl ?_
  refine zi_aload_n 0 d_NC_row_24 rfl ?_
  obtain ⟨b_1, eb_1, h⟩ := zbind h
  refine zo_getR 28 zkd_10 7 d_NC_row_25 eb_1 rfl tw_339 rfl ?_
  obtain ⟨v_2, ev_2, h⟩ := zbind h
  refine zo_getI 31 zkd_8 1 d_NC_row_28 ev_2 rfl tw_154 rfl ?_
  refine zi_icmp_ge (tgt := 57) d_NC_row_31 rfl (fun c_3 => ?_) (fun c_3 => ?_)
  · rw [if_pos c_3] at h
    refine zi_aload_n 0 d_NC_row_57 rfl ?_
    refine zo_getR 61 zkd_10 7 d_NC_row_58 eb_1 rfl tw_339 rfl ?_
    refine zi_iconst 0 d_NC_row_61 rfl ?_
    obtain ⟨m_4, em_4, h⟩ := zbind h
    refine zo_putI 65 zkd_8 1 d_NC_row_62 em_4 rfl rfl rfl tw_154 rfl ?_
    refine zi_aload_n 0 d_NC_row_65 rfl ?_
    refine zi_iload_n 2 d_NC_row_66 rfl ?_
    obtain ⟨m_5, em_5, h⟩ := zbind h
    refine zo_putI 70 zkd_10 16 d_NC_row_67 em_5 rfl rfl rfl tw_348 rfl ?_
    refine zi_aload_n 0 d_NC_row_70 rfl ?_
    obtain ⟨b_6, eb_6, h⟩ := zbind h
    refine zo_getR 74 zkd_10 5 d_NC_row_71 eb_6 rfl tw_337 rfl ?_
    obtain ⟨u_7, eu_7, h⟩ := zbind h
    obtain ⟨q_8, eq_8, h⟩ := zbind h
    refine zo_virt (k' := 0) (n' := 0) 77 [] [] [] zkd_6 (zck_s eu_7) (C_Pt_clear n E S b_6 m_5 q_8 eq_8) d_NC_row_74 tw_452 tw_449 tw_450 tw_451 tw_4 dd_Pt_clear ⟨Nat.le_of_ble_eq_true rfl, Nat.le_of_ble_eq_true rfl, Nat.le_of_ble_eq_true rfl, Nat.le_of_ble_eq_true rfl⟩ (Nat.le_of_ble_eq_true rfl) rfl rfl rfl rfl ?_
    refine zi_aload_n 0 d_NC_row_77 rfl ?_
    refine zi_iload_n 1 d_NC_row_78 rfl ?_
    obtain ⟨q_9, eq_9, h⟩ := zbind h
    refine zo_virt (k' := 0) (n' := 0) 82 [.int x1] [] [.int q_9.1] zkd_10 (zgR_s eb_1).1 (C_NC_accept n E S a0 x1 q_8 q_9.1 q_9.2 eq_9) d_NC_row_79 tw_456 tw_453 tw_455 ts_2 tw_1 dd_NC_accept ⟨Nat.le_of_ble_eq_true rfl, Nat.le_of_ble_eq_true rfl, Nat.le_of_ble_eq_true rfl, Nat.le_of_ble_eq_true rfl⟩ (Nat.le_of_ble_eq_true rfl) rfl rfl rfl rfl ?_
    cases h
    exact zo_ret d_NC_row_82 (Nat.le_of_ble_eq_true rfl) (Nat.le_of_ble_eq_true rfl) rfl
  · rw [if_neg c_3] at h
    refine zi_aload_n 0 d_NC_row_34 rfl ?_
    refine zi_iload_n 3 d_NC_row_35 rfl ?_
    obtain ⟨q_10, eq_10, h⟩ := zbind h
    refine zo_virt (k' := 0) (n' := 0) 39 [.int x3] [] [.int (bI q_10.1)] zkd_10 (zgR_s eb_1).1 (C_NC_tellHole n E S a0 x3 M q_10.1 q_10.2 eq_10) d_NC_row_36 tw_547 tw_544 tw_546 ts_5 tw_1 dd_NC_tellHole ⟨Nat.le_of_ble_eq_true rfl, Nat.le_of_ble_eq_true rfl, Nat.le_of_ble_eq_true rfl, Nat.le_of_ble_eq_true rfl⟩ (Nat.le_of_ble_eq_true rfl) rfl rfl rfl rfl ?_
    refine zo_ifeqB d_NC_row_39 rfl 42 rfl (fun c_11 => ?_) (fun c_11 => ?_)
    · rw [if_neg c_11] at h
      refine zi_iinc 2 (x2 + 1) [(2, .int (x2 + 1)), (0, .ref a0), (1, .int x1), (3, .int x3)] d_NC_row_48 rfl rfl (by decide) rfl ?_
      refine zi_lo [(0, .ref a0), (1, .int x1), (2, .int (x2 + 1)), (3, .int x3)] [1, 2, 0, 3] rfl ?_
      exact K_NC_row_b51 n E S r23 a0 x1 (x2 + 1) x3 q_10.2 r M' hr23 h
    · rw [if_pos c_11] at h
      refine zi_iinc 1 (x1 + 1) [(1, .int (x1 + 1)), (0, .ref a0), (2, .int x2), (3, .int x3)] d_NC_row_42 rfl rfl (by decide) rfl ?_
      refine zi_goto (tgt := 51) d_NC_row_45 rfl ?_
      refine zi_lo [(0, .ref a0), (1, .int (x1 + 1)), (2, .int x2), (3, .int x3)] [1, 0, 2, 3] rfl ?_
      exact K_NC_row_b51 n E S r23 a0 (x1 + 1) x2 x3 q_10.2 r M' hr23 h
theorem K_NC_row_b23 (n : Nat) (E : zE) (S : zS) (a0 : Nat) (x1 : Int32) (x2 : Int32) (x3 : Int32) (M : zH) (r : Int32) (M' : zH)  (h : F_NC_row_b23 n E S (a0, x1, x2, x3, M) = some (r, M')) : zG E Y_NC_row (some (.int r), S, M') 23 [(0, .ref a0), (1, .int x1), (2, .int x2), (3, .int x3)] [] S M 0 0 := by
  have key : ∀ (k : Nat) (a0 : Nat) (x1 : Int32) (x2 : Int32) (x3 : Int32) (M : zH), zfix (fun r23 s => F_NC_row_L23 n E S r23 s.1 s.2.1 s.2.2.1 s.2.2.2.1 s.2.2.2.2) k (a0, x1, x2, x3, M) = some (r, M') → zG E Y_NC_row (some (.int r), S, M') 23 [(0, .ref a0), (1, .int x1), (2, .int x2), (3, .int x3)] [] S M 0 0 := by
    intro k
    induction k with
    | zero => intro a0 x1 x2 x3 M h; cases h
    | succ k ih => intro a0 x1 x2 x3 M h; exact K_NC_row_L23 n E S _ a0 x1 x2 x3 M r M'  (fun a0 x1 x2 x3 M h => ih a0 x1 x2 x3 M h) h
  exact key n a0 x1 x2 x3 M h
theorem K_NC_row (n : Nat) (E : zE) (S : zS) (a0 : Nat) (M : zH) (r : Int32) (M' : zH)  (h : F_NC_row n E S a0 M = some (r, M')) : zG E Y_NC_row (some (.int r), S, M') 0 [(0, .ref a0)] [] S M 0 0 := by
  unfold F_NC_row at h
  refine zi_aload_n 0 d_NC_row_0 rfl ?_
  obtain ⟨b_12, eb_12, h⟩ := zbind h
  refine zo_getR 4 zkd_10 7 d_NC_row_1 eb_12 rfl tw_339 rfl ?_
  obtain ⟨v_13, ev_13, h⟩ := zbind h
  refine zo_getI 7 zkd_8 1 d_NC_row_4 ev_13 rfl tw_154 rfl ?_
  refine zi_if_ne (tgt := 17) d_NC_row_7 rfl (fun c_14 => ?_) (fun c_14 => ?_)
  · rw [if_neg c_14] at h
    refine zi_iconst 0 d_NC_row_17 rfl ?_
    refine zi_istore_n [(1, .int 0), (0, .ref a0)] d_NC_row_18 (by decide) rfl ?_
    refine zi_iconst 0 d_NC_row_19 rfl ?_
    refine zi_istore_n [(2, .int 0), (1, .int 0), (0, .ref a0)] d_NC_row_20 (by decide) rfl ?_
    refine zi_iconst 0 d_NC_row_21 rfl ?_
    refine zi_istore_n [(3, .int 0), (2, .int 0), (1, .int 0), (0, .ref a0)] d_NC_row_22 (by decide) rfl ?_
    refine zi_lo [(0, .ref a0), (1, .int 0), (2, .int 0), (3, .int 0)] [3, 2, 1, 0] rfl ?_
    exact K_NC_row_b23 n E S a0 0 0 0 M r M'  h
  · rw [if_pos c_14] at h
    refine zi_aload_n 0 d_NC_row_10 rfl ?_
    refine zi_bipush (-6) d_NC_row_11 rfl ?_
    obtain ⟨q_15, eq_15, h⟩ := zbind h
    refine zo_virt (k' := 0) (n' := 0) 16 [.int (-6)] [] [.int q_15.1] zkd_10 (zgR_s eb_12).1 (C_NC_refuse n E S a0 (-6) M q_15.1 q_15.2 eq_15) d_NC_row_13 tw_448 tw_445 tw_447 ts_1 tw_1 dd_NC_refuse ⟨Nat.le_of_ble_eq_true rfl, Nat.le_of_ble_eq_true rfl, Nat.le_of_ble_eq_true rfl, Nat.le_of_ble_eq_true rfl⟩ (Nat.le_of_ble_eq_true rfl) rfl rfl rfl rfl ?_
    cases h
    exact zo_ret d_NC_row_16 (Nat.le_of_ble_eq_true rfl) (Nat.le_of_ble_eq_true rfl) rfl
theorem C_NC_row (n : Nat) (E : zE) (S : zS) (a0 : Nat) (M : zH) (r : Int32) (M' : zH) (h : F_NC_row n E S a0 M = some (r, M')) : zC E Y_NC_row [.ref a0] S M (some (.int r), S, M') :=
  zC.of (Or.inl (show plainName "NightColander" = true by decide)) (Nat.le_of_ble_eq_true rfl) (trivial) (K_NC_row n E S a0 M r M' h)
theorem d_NC_peas_0 : decode (yB Y_NC_peas) 0 = .ok (.aload_n 0, 1) := by decide +kernel
theorem d_NC_peas_1 : decode (yB Y_NC_peas) 1 = .ok (.getfield 102, 3) := by decide +kernel
theorem d_NC_peas_4 : decode (yB Y_NC_peas) 4 = .ok (.ireturn, 1) := by decide +kernel
def F_NC_peas (n : Nat) (E : zE) (S : zS) (a0 : Nat) (M : zH) : Option (Int32 × zH) :=
  (zgI S M a0 10 16).bind fun v_1 =>
  some (v_1, M)
theorem K_NC_peas (n : Nat) (E : zE) (S : zS) (a0 : Nat) (M : zH) (r : Int32) (M' : zH)  (h : F_NC_peas n E S a0 M = some (r, M')) : zG E Y_NC_peas (some (.int r), S, M') 0 [(0, .ref a0)] [] S M 0 0 := by
  unfold F_NC_peas at h
  refine zi_aload_n 0 d_NC_peas_0 rfl ?_
  obtain ⟨v_1, ev_1, h⟩ := zbind h
  refine zo_getI 4 zkd_10 16 d_NC_peas_1 ev_1 rfl tw_348 rfl ?_
  cases h
  exact zo_ret d_NC_peas_4 (Nat.le_of_ble_eq_true rfl) (Nat.le_of_ble_eq_true rfl) rfl
theorem C_NC_peas (n : Nat) (E : zE) (S : zS) (a0 : Nat) (M : zH) (r : Int32) (M' : zH) (h : F_NC_peas n E S a0 M = some (r, M')) : zC E Y_NC_peas [.ref a0] S M (some (.int r), S, M') :=
  zC.of (Or.inl (show plainName "NightColander" = true by decide)) (Nat.le_of_ble_eq_true rfl) (trivial) (K_NC_peas n E S a0 M r M' h)
theorem d_Ni_addLaw_0 : decode (yB Y_Ni_addLaw) 0 = .ok (.aload_n 0, 1) := by decide +kernel
theorem d_Ni_addLaw_1 : decode (yB Y_Ni_addLaw) 1 = .ok (.getfield 56, 3) := by decide +kernel
theorem d_Ni_addLaw_4 : decode (yB Y_Ni_addLaw) 4 = .ok (.bipush 6, 2) := by decide +kernel
theorem d_Ni_addLaw_6 : decode (yB Y_Ni_addLaw) 6 = .ok (.if_icmp .lt 5, 3) := by decide +kernel
theorem d_Ni_addLaw_9 : decode (yB Y_Ni_addLaw) 9 = .ok (.iconst (-1), 1) := by decide +kernel
theorem d_Ni_addLaw_10 : decode (yB Y_Ni_addLaw) 10 = .ok (.ireturn, 1) := by decide +kernel
theorem d_Ni_addLaw_11 : decode (yB Y_Ni_addLaw) 11 = .ok (.aload_n 0, 1) := by decide +kernel
theorem d_Ni_addLaw_12 : decode (yB Y_Ni_addLaw) 12 = .ok (.getfield 45, 3) := by decide +kernel
theorem d_Ni_addLaw_15 : decode (yB Y_Ni_addLaw) 15 = .ok (.aload_n 0, 1) := by decide +kernel
theorem d_Ni_addLaw_16 : decode (yB Y_Ni_addLaw) 16 = .ok (.getfield 56, 3) := by decide +kernel
theorem d_Ni_addLaw_19 : decode (yB Y_Ni_addLaw) 19 = .ok (.aload_n 1, 1) := by decide +kernel
theorem d_Ni_addLaw_20 : decode (yB Y_Ni_addLaw) 20 = .ok (.aastore, 1) := by decide +kernel
theorem d_Ni_addLaw_21 : decode (yB Y_Ni_addLaw) 21 = .ok (.aload_n 0, 1) := by decide +kernel
theorem d_Ni_addLaw_22 : decode (yB Y_Ni_addLaw) 22 = .ok (.dup, 1) := by decide +kernel
theorem d_Ni_addLaw_23 : decode (yB Y_Ni_addLaw) 23 = .ok (.getfield 56, 3) := by decide +kernel
theorem d_Ni_addLaw_26 : decode (yB Y_Ni_addLaw) 26 = .ok (.iconst 1, 1) := by decide +kernel
theorem d_Ni_addLaw_27 : decode (yB Y_Ni_addLaw) 27 = .ok (.iadd, 1) := by decide +kernel
theorem d_Ni_addLaw_28 : decode (yB Y_Ni_addLaw) 28 = .ok (.putfield 56, 3) := by decide +kernel
theorem d_Ni_addLaw_31 : decode (yB Y_Ni_addLaw) 31 = .ok (.aload_n 0, 1) := by decide +kernel
theorem d_Ni_addLaw_32 : decode (yB Y_Ni_addLaw) 32 = .ok (.getfield 56, 3) := by decide +kernel
theorem d_Ni_addLaw_35 : decode (yB Y_Ni_addLaw) 35 = .ok (.iconst 1, 1) := by decide +kernel
theorem d_Ni_addLaw_36 : decode (yB Y_Ni_addLaw) 36 = .ok (.isub, 1) := by decide +kernel
theorem d_Ni_addLaw_37 : decode (yB Y_Ni_addLaw) 37 = .ok (.ireturn, 1) := by decide +kernel
def F_Ni_addLaw (n : Nat) (E : zE) (S : zS) (a0 : Nat) (a1 : Nat) (M : zH) : Option (Int32 × zH) :=
  (zgI S M a0 3 13).bind fun v_1 =>
  if v_1 < 6 then
    (zgR S a0 3 10).bind fun b_3 =>
    (zgI S M a0 3 13).bind fun v_4 =>
    (zstR S M 16 9 b_3 v_4 a1).bind fun m_5 =>
    (zgI S m_5 a0 3 13).bind fun v_6 =>
    (zpI S m_5 a0 3 13 (v_6 + 1)).bind fun m_7 =>
    (zgI S m_7 a0 3 13).bind fun v_8 =>
    some (v_8 - 1, m_7)
  else
    some ((-1), M)
theorem K_Ni_addLaw (n : Nat) (E : zE) (S : zS) (a0 : Nat) (a1 : Nat) (M : zH) (r : Int32) (M' : zH)  (h : F_Ni_addLaw n E S a0 a1 M = some (r, M')) : zG E Y_Ni_addLaw (some (.int r), S, M') 0 [(0, .ref a0), (1, .ref a1)] [] S M 0 0 := by
  unfold F_Ni_addLaw at h
  refine zi_aload_n 0 d_Ni_addLaw_0 rfl ?_
  obtain ⟨v_1, ev_1, h⟩ := zbind h
  refine zo_getI 4 zkd_3 13 d_Ni_addLaw_1 ev_1 rfl tw_93 rfl ?_
  refine zi_bipush 6 d_Ni_addLaw_4 rfl ?_
  refine zi_icmp_lt (tgt := 11) d_Ni_addLaw_6 rfl (fun c_2 => ?_) (fun c_2 => ?_)
  · rw [if_pos c_2] at h
    refine zi_aload_n 0 d_Ni_addLaw_11 rfl ?_
    obtain ⟨b_3, eb_3, h⟩ := zbind h
    refine zo_getR 15 zkd_3 10 d_Ni_addLaw_12 eb_3 rfl tw_85 rfl ?_
    refine zi_aload_n 0 d_Ni_addLaw_15 rfl ?_
    obtain ⟨v_4, ev_4, h⟩ := zbind h
    refine zo_getI 19 zkd_3 13 d_Ni_addLaw_16 ev_4 rfl tw_93 rfl ?_
    refine zi_aload_n 1 d_Ni_addLaw_19 rfl ?_
    obtain ⟨m_5, em_5, h⟩ := zbind h
    refine zo_aast 21 d_Ni_addLaw_20 em_5 (by decide) rfl ?_
    refine zi_aload_n 0 d_Ni_addLaw_21 rfl ?_
    refine zi_dup d_Ni_addLaw_22 rfl ?_
    obtain ⟨v_6, ev_6, h⟩ := zbind h
    refine zo_getI 26 zkd_3 13 d_Ni_addLaw_23 ev_6 rfl tw_93 rfl ?_
    refine zi_iconst 1 d_Ni_addLaw_26 rfl ?_
    refine zi_iadd d_Ni_addLaw_27 ?_
    obtain ⟨m_7, em_7, h⟩ := zbind h
    refine zo_putI 31 zkd_3 13 d_Ni_addLaw_28 em_7 rfl rfl rfl tw_93 rfl ?_
    refine zi_aload_n 0 d_Ni_addLaw_31 rfl ?_
    obtain ⟨v_8, ev_8, h⟩ := zbind h
    refine zo_getI 35 zkd_3 13 d_Ni_addLaw_32 ev_8 rfl tw_93 rfl ?_
    refine zi_iconst 1 d_Ni_addLaw_35 rfl ?_
    refine zi_isub d_Ni_addLaw_36 ?_
    cases h
    exact zo_ret d_Ni_addLaw_37 (Nat.le_of_ble_eq_true rfl) (Nat.le_of_ble_eq_true rfl) rfl
  · rw [if_neg c_2] at h
    refine zi_iconst (-1) d_Ni_addLaw_9 rfl ?_
    cases h
    exact zo_ret d_Ni_addLaw_10 (Nat.le_of_ble_eq_true rfl) (Nat.le_of_ble_eq_true rfl) rfl
theorem C_Ni_addLaw (n : Nat) (E : zE) (S : zS) (a0 : Nat) (a1 : Nat) (M : zH) (r : Int32) (M' : zH) (h : F_Ni_addLaw n E S a0 a1 M = some (r, M')) : zC E Y_Ni_addLaw [.ref a0, .ref a1] S M (some (.int r), S, M') :=
  zC.of (Or.inl (show plainName "NightColander$Night" = true by decide)) (Nat.le_of_ble_eq_true rfl) (trivial) (K_Ni_addLaw n E S a0 a1 M r M' h)
theorem d_Ta_isDigit_0 : decode (yB Y_Ta_isDigit) 0 = .ok (.iload_n 0, 1) := by decide +kernel
theorem d_Ta_isDigit_1 : decode (yB Y_Ta_isDigit) 1 = .ok (.bipush 48, 2) := by decide +kernel
theorem d_Ta_isDigit_3 : decode (yB Y_Ta_isDigit) 3 = .ok (.if_icmp .lt 13, 3) := by decide +kernel
theorem d_Ta_isDigit_6 : decode (yB Y_Ta_isDigit) 6 = .ok (.iload_n 0, 1) := by decide +kernel
theorem d_Ta_isDigit_7 : decode (yB Y_Ta_isDigit) 7 = .ok (.bipush 57, 2) := by decide +kernel
theorem d_Ta_isDigit_9 : decode (yB Y_Ta_isDigit) 9 = .ok (.if_icmp .gt 7, 3) := by decide +kernel
theorem d_Ta_isDigit_12 : decode (yB Y_Ta_isDigit) 12 = .ok (.iconst 1, 1) := by decide +kernel
theorem d_Ta_isDigit_13 : decode (yB Y_Ta_isDigit) 13 = .ok (.goto 4, 3) := by decide +kernel
theorem d_Ta_isDigit_16 : decode (yB Y_Ta_isDigit) 16 = .ok (.iconst 0, 1) := by decide +kernel
theorem d_Ta_isDigit_17 : decode (yB Y_Ta_isDigit) 17 = .ok (.ireturn, 1) := by decide +kernel
def F_Ta_isDigit (n : Nat) (E : zE) (S : zS) (x0 : Int32) (M : zH) : Option (Bool × zH) :=
  if x0 < 48 then
    some (false, M)
  else
    if 57 < x0 then
      some (false, M)
    else
      some (true, M)
theorem K_Ta_isDigit (n : Nat) (E : zE) (S : zS) (x0 : Int32) (M : zH) (r : Bool) (M' : zH)  (h : F_Ta_isDigit n E S x0 M = some (r, M')) : zG E Y_Ta_isDigit (some (.int (bI r)), S, M') 0 [(0, .int x0)] [] S M 0 0 := by
  unfold F_Ta_isDigit at h
  refine zi_iload_n 0 d_Ta_isDigit_0 rfl ?_
  refine zi_bipush 48 d_Ta_isDigit_1 rfl ?_
  refine zi_icmp_lt (tgt := 16) d_Ta_isDigit_3 rfl (fun c_1 => ?_) (fun c_1 => ?_)
  · rw [if_pos c_1] at h
    refine zi_iconst 0 d_Ta_isDigit_16 rfl ?_
    cases h
    exact zo_retB d_Ta_isDigit_17 (Nat.le_of_ble_eq_true rfl) (Nat.le_of_ble_eq_true rfl) rfl
  · rw [if_neg c_1] at h
    refine zi_iload_n 0 d_Ta_isDigit_6 rfl ?_
    refine zi_bipush 57 d_Ta_isDigit_7 rfl ?_
    refine zi_icmp_gt (tgt := 16) d_Ta_isDigit_9 rfl (fun c_2 => ?_) (fun c_2 => ?_)
    · rw [if_pos c_2] at h
      refine zi_iconst 0 d_Ta_isDigit_16 rfl ?_
      cases h
      exact zo_retB d_Ta_isDigit_17 (Nat.le_of_ble_eq_true rfl) (Nat.le_of_ble_eq_true rfl) rfl
    · rw [if_neg c_2] at h
      refine zi_iconst 1 d_Ta_isDigit_12 rfl ?_
      refine zi_goto (tgt := 17) d_Ta_isDigit_13 rfl ?_
      cases h
      exact zo_retB d_Ta_isDigit_17 (Nat.le_of_ble_eq_true rfl) (Nat.le_of_ble_eq_true rfl) rfl
theorem C_Ta_isDigit (n : Nat) (E : zE) (S : zS) (x0 : Int32) (M : zH) (r : Bool) (M' : zH) (h : F_Ta_isDigit n E S x0 M = some (r, M')) : zC E Y_Ta_isDigit [.int x0] S M (some (.int (bI r)), S, M') :=
  zC.of (Or.inl (show plainName "NightColander$Tape" = true by decide)) (Nat.le_of_ble_eq_true rfl) (bI_nar r) (K_Ta_isDigit n E S x0 M r M' h)
theorem d_Ta_isLetter_0 : decode (yB Y_Ta_isLetter) 0 = .ok (.iload_n 0, 1) := by decide +kernel
theorem d_Ta_isLetter_1 : decode (yB Y_Ta_isLetter) 1 = .ok (.bipush 97, 2) := by decide +kernel
theorem d_Ta_isLetter_3 : decode (yB Y_Ta_isLetter) 3 = .ok (.if_icmp .lt 13, 3) := by decide +kernel
theorem d_Ta_isLetter_6 : decode (yB Y_Ta_isLetter) 6 = .ok (.iload_n 0, 1) := by decide +kernel
theorem d_Ta_isLetter_7 : decode (yB Y_Ta_isLetter) 7 = .ok (.bipush 122, 2) := by decide +kernel
theorem d_Ta_isLetter_9 : decode (yB Y_Ta_isLetter) 9 = .ok (.if_icmp .gt 7, 3) := by decide +kernel
theorem d_Ta_isLetter_12 : decode (yB Y_Ta_isLetter) 12 = .ok (.iconst 1, 1) := by decide +kernel
theorem d_Ta_isLetter_13 : decode (yB Y_Ta_isLetter) 13 = .ok (.goto 4, 3) := by decide +kernel
theorem d_Ta_isLetter_16 : decode (yB Y_Ta_isLetter) 16 = .ok (.iconst 0, 1) := by decide +kernel
theorem d_Ta_isLetter_17 : decode (yB Y_Ta_isLetter) 17 = .ok (.ireturn, 1) := by decide +kernel
def F_Ta_isLetter (n : Nat) (E : zE) (S : zS) (x0 : Int32) (M : zH) : Option (Bool × zH) :=
  if x0 < 97 then
    some (false, M)
  else
    if 122 < x0 then
      some (false, M)
    else
      some (true, M)
theorem K_Ta_isLetter (n : Nat) (E : zE) (S : zS) (x0 : Int32) (M : zH) (r : Bool) (M' : zH)  (h : F_Ta_isLetter n E S x0 M = some (r, M')) : zG E Y_Ta_isLetter (some (.int (bI r)), S, M') 0 [(0, .int x0)] [] S M 0 0 := by
  unfold F_Ta_isLetter at h
  refine zi_iload_n 0 d_Ta_isLetter_0 rfl ?_
  refine zi_bipush 97 d_Ta_isLetter_1 rfl ?_
  refine zi_icmp_lt (tgt := 16) d_Ta_isLetter_3 rfl (fun c_1 => ?_) (fun c_1 => ?_)
  · rw [if_pos c_1] at h
    refine zi_iconst 0 d_Ta_isLetter_16 rfl ?_
    cases h
    exact zo_retB d_Ta_isLetter_17 (Nat.le_of_ble_eq_true rfl) (Nat.le_of_ble_eq_true rfl) rfl
  · rw [if_neg c_1] at h
    refine zi_iload_n 0 d_Ta_isLetter_6 rfl ?_
    refine zi_bipush 122 d_Ta_isLetter_7 rfl ?_
    refine zi_icmp_gt (tgt := 16) d_Ta_isLetter_9 rfl (fun c_2 => ?_) (fun c_2 => ?_)
    · rw [if_pos c_2] at h
      refine zi_iconst 0 d_Ta_isLetter_16 rfl ?_
      cases h
      exact zo_retB d_Ta_isLetter_17 (Nat.le_of_ble_eq_true rfl) (Nat.le_of_ble_eq_true rfl) rfl
    · rw [if_neg c_2] at h
      refine zi_iconst 1 d_Ta_isLetter_12 rfl ?_
      refine zi_goto (tgt := 17) d_Ta_isLetter_13 rfl ?_
      cases h
      exact zo_retB d_Ta_isLetter_17 (Nat.le_of_ble_eq_true rfl) (Nat.le_of_ble_eq_true rfl) rfl
theorem C_Ta_isLetter (n : Nat) (E : zE) (S : zS) (x0 : Int32) (M : zH) (r : Bool) (M' : zH) (h : F_Ta_isLetter n E S x0 M = some (r, M')) : zC E Y_Ta_isLetter [.int x0] S M (some (.int (bI r)), S, M') :=
  zC.of (Or.inl (show plainName "NightColander$Tape" = true by decide)) (Nat.le_of_ble_eq_true rfl) (bI_nar r) (K_Ta_isLetter n E S x0 M r M' h)
theorem d_Ta_advance_0 : decode (yB Y_Ta_advance) 0 = .ok (.aload_n 0, 1) := by decide +kernel
theorem d_Ta_advance_1 : decode (yB Y_Ta_advance) 1 = .ok (.aload_n 0, 1) := by decide +kernel
theorem d_Ta_advance_2 : decode (yB Y_Ta_advance) 2 = .ok (.getfield 25, 3) := by decide +kernel
theorem d_Ta_advance_5 : decode (yB Y_Ta_advance) 5 = .ok (.putfield 22, 3) := by decide +kernel
theorem d_Ta_advance_8 : decode (yB Y_Ta_advance) 8 = .ok (.aload_n 0, 1) := by decide +kernel
theorem d_Ta_advance_9 : decode (yB Y_Ta_advance) 9 = .ok (.getfield 22, 3) := by decide +kernel
theorem d_Ta_advance_12 : decode (yB Y_Ta_advance) 12 = .ok (.aload_n 0, 1) := by decide +kernel
theorem d_Ta_advance_13 : decode (yB Y_Ta_advance) 13 = .ok (.getfield 15, 3) := by decide +kernel
theorem d_Ta_advance_16 : decode (yB Y_Ta_advance) 16 = .ok (.if_icmp .ge 29, 3) := by decide +kernel
theorem d_Ta_advance_19 : decode (yB Y_Ta_advance) 19 = .ok (.aload_n 0, 1) := by decide +kernel
theorem d_Ta_advance_20 : decode (yB Y_Ta_advance) 20 = .ok (.aload_n 0, 1) := by decide +kernel
theorem d_Ta_advance_21 : decode (yB Y_Ta_advance) 21 = .ok (.getfield 22, 3) := by decide +kernel
theorem d_Ta_advance_24 : decode (yB Y_Ta_advance) 24 = .ok (.invokevirtual 34, 3) := by decide +kernel
theorem d_Ta_advance_27 : decode (yB Y_Ta_advance) 27 = .ok (.bipush 32, 2) := by decide +kernel
theorem d_Ta_advance_29 : decode (yB Y_Ta_advance) 29 = .ok (.if_icmp .ne 16, 3) := by decide +kernel
theorem d_Ta_advance_32 : decode (yB Y_Ta_advance) 32 = .ok (.aload_n 0, 1) := by decide +kernel
theorem d_Ta_advance_33 : decode (yB Y_Ta_advance) 33 = .ok (.dup, 1) := by decide +kernel
theorem d_Ta_advance_34 : decode (yB Y_Ta_advance) 34 = .ok (.getfield 22, 3) := by decide +kernel
theorem d_Ta_advance_37 : decode (yB Y_Ta_advance) 37 = .ok (.iconst 1, 1) := by decide +kernel
theorem d_Ta_advance_38 : decode (yB Y_Ta_advance) 38 = .ok (.iadd, 1) := by decide +kernel
theorem d_Ta_advance_39 : decode (yB Y_Ta_advance) 39 = .ok (.putfield 22, 3) := by decide +kernel
theorem d_Ta_advance_42 : decode (yB Y_Ta_advance) 42 = .ok (.goto (-34), 3) := by decide +kernel
theorem d_Ta_advance_45 : decode (yB Y_Ta_advance) 45 = .ok (.aload_n 0, 1) := by decide +kernel
theorem d_Ta_advance_46 : decode (yB Y_Ta_advance) 46 = .ok (.aload_n 0, 1) := by decide +kernel
theorem d_Ta_advance_47 : decode (yB Y_Ta_advance) 47 = .ok (.getfield 22, 3) := by decide +kernel
theorem d_Ta_advance_50 : decode (yB Y_Ta_advance) 50 = .ok (.putfield 25, 3) := by decide +kernel
theorem d_Ta_advance_53 : decode (yB Y_Ta_advance) 53 = .ok (.aload_n 0, 1) := by decide +kernel
theorem d_Ta_advance_54 : decode (yB Y_Ta_advance) 54 = .ok (.iconst 0, 1) := by decide +kernel
theorem d_Ta_advance_55 : decode (yB Y_Ta_advance) 55 = .ok (.putfield 28, 3) := by decide +kernel
theorem d_Ta_advance_58 : decode (yB Y_Ta_advance) 58 = .ok (.aload_n 0, 1) := by decide +kernel
theorem d_Ta_advance_59 : decode (yB Y_Ta_advance) 59 = .ok (.getfield 22, 3) := by decide +kernel
theorem d_Ta_advance_62 : decode (yB Y_Ta_advance) 62 = .ok (.aload_n 0, 1) := by decide +kernel
theorem d_Ta_advance_63 : decode (yB Y_Ta_advance) 63 = .ok (.getfield 15, 3) := by decide +kernel
theorem d_Ta_advance_66 : decode (yB Y_Ta_advance) 66 = .ok (.if_icmp .lt 11, 3) := by decide +kernel
theorem d_Ta_advance_69 : decode (yB Y_Ta_advance) 69 = .ok (.aload_n 0, 1) := by decide +kernel
theorem d_Ta_advance_70 : decode (yB Y_Ta_advance) 70 = .ok (.iconst 0, 1) := by decide +kernel
theorem d_Ta_advance_71 : decode (yB Y_Ta_advance) 71 = .ok (.putfield 19, 3) := by decide +kernel
theorem d_Ta_advance_74 : decode (yB Y_Ta_advance) 74 = .ok (.goto 161, 3) := by decide +kernel
theorem d_Ta_advance_77 : decode (yB Y_Ta_advance) 77 = .ok (.aload_n 0, 1) := by decide +kernel
theorem d_Ta_advance_78 : decode (yB Y_Ta_advance) 78 = .ok (.aload_n 0, 1) := by decide +kernel
theorem d_Ta_advance_79 : decode (yB Y_Ta_advance) 79 = .ok (.getfield 22, 3) := by decide +kernel
theorem d_Ta_advance_82 : decode (yB Y_Ta_advance) 82 = .ok (.invokevirtual 34, 3) := by decide +kernel
theorem d_Ta_advance_85 : decode (yB Y_Ta_advance) 85 = .ok (.invokestatic 38, 3) := by decide +kernel
theorem d_Ta_advance_88 : decode (yB Y_Ta_advance) 88 = .ok (.ifCond .eq 46, 3) := by decide +kernel
theorem d_Ta_advance_91 : decode (yB Y_Ta_advance) 91 = .ok (.aload_n 0, 1) := by decide +kernel
theorem d_Ta_advance_92 : decode (yB Y_Ta_advance) 92 = .ok (.iconst 1, 1) := by decide +kernel
theorem d_Ta_advance_93 : decode (yB Y_Ta_advance) 93 = .ok (.putfield 19, 3) := by decide +kernel
theorem d_Ta_advance_96 : decode (yB Y_Ta_advance) 96 = .ok (.aload_n 0, 1) := by decide +kernel
theorem d_Ta_advance_97 : decode (yB Y_Ta_advance) 97 = .ok (.getfield 25, 3) := by decide +kernel
theorem d_Ta_advance_100 : decode (yB Y_Ta_advance) 100 = .ok (.aload_n 0, 1) := by decide +kernel
theorem d_Ta_advance_101 : decode (yB Y_Ta_advance) 101 = .ok (.getfield 15, 3) := by decide +kernel
theorem d_Ta_advance_104 : decode (yB Y_Ta_advance) 104 = .ok (.if_icmp .ge 131, 3) := by decide +kernel
theorem d_Ta_advance_107 : decode (yB Y_Ta_advance) 107 = .ok (.aload_n 0, 1) := by decide +kernel
theorem d_Ta_advance_108 : decode (yB Y_Ta_advance) 108 = .ok (.aload_n 0, 1) := by decide +kernel
theorem d_Ta_advance_109 : decode (yB Y_Ta_advance) 109 = .ok (.getfield 25, 3) := by decide +kernel
theorem d_Ta_advance_112 : decode (yB Y_Ta_advance) 112 = .ok (.invokevirtual 34, 3) := by decide +kernel
theorem d_Ta_advance_115 : decode (yB Y_Ta_advance) 115 = .ok (.invokestatic 38, 3) := by decide +kernel
theorem d_Ta_advance_118 : decode (yB Y_Ta_advance) 118 = .ok (.ifCond .eq 117, 3) := by decide +kernel
theorem d_Ta_advance_121 : decode (yB Y_Ta_advance) 121 = .ok (.aload_n 0, 1) := by decide +kernel
theorem d_Ta_advance_122 : decode (yB Y_Ta_advance) 122 = .ok (.dup, 1) := by decide +kernel
theorem d_Ta_advance_123 : decode (yB Y_Ta_advance) 123 = .ok (.getfield 25, 3) := by decide +kernel
theorem d_Ta_advance_126 : decode (yB Y_Ta_advance) 126 = .ok (.iconst 1, 1) := by decide +kernel
theorem d_Ta_advance_127 : decode (yB Y_Ta_advance) 127 = .ok (.iadd, 1) := by decide +kernel
theorem d_Ta_advance_128 : decode (yB Y_Ta_advance) 128 = .ok (.putfield 25, 3) := by decide +kernel
theorem d_Ta_advance_131 : decode (yB Y_Ta_advance) 131 = .ok (.goto (-35), 3) := by decide +kernel
theorem d_Ta_advance_134 : decode (yB Y_Ta_advance) 134 = .ok (.aload_n 0, 1) := by decide +kernel
theorem d_Ta_advance_135 : decode (yB Y_Ta_advance) 135 = .ok (.aload_n 0, 1) := by decide +kernel
theorem d_Ta_advance_136 : decode (yB Y_Ta_advance) 136 = .ok (.getfield 22, 3) := by decide +kernel
theorem d_Ta_advance_139 : decode (yB Y_Ta_advance) 139 = .ok (.invokevirtual 34, 3) := by decide +kernel
theorem d_Ta_advance_142 : decode (yB Y_Ta_advance) 142 = .ok (.invokestatic 42, 3) := by decide +kernel
theorem d_Ta_advance_145 : decode (yB Y_Ta_advance) 145 = .ok (.ifCond .eq 75, 3) := by decide +kernel
theorem d_Ta_advance_148 : decode (yB Y_Ta_advance) 148 = .ok (.aload_n 0, 1) := by decide +kernel
theorem d_Ta_advance_149 : decode (yB Y_Ta_advance) 149 = .ok (.iconst 2, 1) := by decide +kernel
theorem d_Ta_advance_150 : decode (yB Y_Ta_advance) 150 = .ok (.putfield 19, 3) := by decide +kernel
theorem d_Ta_advance_153 : decode (yB Y_Ta_advance) 153 = .ok (.aload_n 0, 1) := by decide +kernel
theorem d_Ta_advance_154 : decode (yB Y_Ta_advance) 154 = .ok (.getfield 25, 3) := by decide +kernel
theorem d_Ta_advance_157 : decode (yB Y_Ta_advance) 157 = .ok (.aload_n 0, 1) := by decide +kernel
theorem d_Ta_advance_158 : decode (yB Y_Ta_advance) 158 = .ok (.getfield 15, 3) := by decide +kernel
theorem d_Ta_advance_161 : decode (yB Y_Ta_advance) 161 = .ok (.if_icmp .ge 74, 3) := by decide +kernel
theorem d_Ta_advance_164 : decode (yB Y_Ta_advance) 164 = .ok (.aload_n 0, 1) := by decide +kernel
theorem d_Ta_advance_165 : decode (yB Y_Ta_advance) 165 = .ok (.aload_n 0, 1) := by decide +kernel
theorem d_Ta_advance_166 : decode (yB Y_Ta_advance) 166 = .ok (.getfield 25, 3) := by decide +kernel
theorem d_Ta_advance_169 : decode (yB Y_Ta_advance) 169 = .ok (.invokevirtual 34, 3) := by decide +kernel
theorem d_Ta_advance_172 : decode (yB Y_Ta_advance) 172 = .ok (.invokestatic 42, 3) := by decide +kernel
theorem d_Ta_advance_175 : decode (yB Y_Ta_advance) 175 = .ok (.ifCond .eq 60, 3) := by decide +kernel
theorem d_Ta_advance_178 : decode (yB Y_Ta_advance) 178 = .ok (.aload_n 0, 1) := by decide +kernel
theorem d_Ta_advance_179 : decode (yB Y_Ta_advance) 179 = .ok (.aload_n 0, 1) := by decide +kernel
theorem d_Ta_advance_180 : decode (yB Y_Ta_advance) 180 = .ok (.getfield 28, 3) := by decide +kernel
theorem d_Ta_advance_183 : decode (yB Y_Ta_advance) 183 = .ok (.bipush 10, 2) := by decide +kernel
theorem d_Ta_advance_185 : decode (yB Y_Ta_advance) 185 = .ok (.imul, 1) := by decide +kernel
theorem d_Ta_advance_186 : decode (yB Y_Ta_advance) 186 = .ok (.aload_n 0, 1) := by decide +kernel
theorem d_Ta_advance_187 : decode (yB Y_Ta_advance) 187 = .ok (.aload_n 0, 1) := by decide +kernel
theorem d_Ta_advance_188 : decode (yB Y_Ta_advance) 188 = .ok (.getfield 25, 3) := by decide +kernel
theorem d_Ta_advance_191 : decode (yB Y_Ta_advance) 191 = .ok (.invokevirtual 34, 3) := by decide +kernel
theorem d_Ta_advance_194 : decode (yB Y_Ta_advance) 194 = .ok (.iadd, 1) := by decide +kernel
theorem d_Ta_advance_195 : decode (yB Y_Ta_advance) 195 = .ok (.bipush 48, 2) := by decide +kernel
theorem d_Ta_advance_197 : decode (yB Y_Ta_advance) 197 = .ok (.isub, 1) := by decide +kernel
theorem d_Ta_advance_198 : decode (yB Y_Ta_advance) 198 = .ok (.sipush 10000, 3) := by decide +kernel
theorem d_Ta_advance_201 : decode (yB Y_Ta_advance) 201 = .ok (.invokestatic 45, 3) := by decide +kernel
theorem d_Ta_advance_204 : decode (yB Y_Ta_advance) 204 = .ok (.putfield 28, 3) := by decide +kernel
theorem d_Ta_advance_207 : decode (yB Y_Ta_advance) 207 = .ok (.aload_n 0, 1) := by decide +kernel
theorem d_Ta_advance_208 : decode (yB Y_Ta_advance) 208 = .ok (.dup, 1) := by decide +kernel
theorem d_Ta_advance_209 : decode (yB Y_Ta_advance) 209 = .ok (.getfield 25, 3) := by decide +kernel
theorem d_Ta_advance_212 : decode (yB Y_Ta_advance) 212 = .ok (.iconst 1, 1) := by decide +kernel
theorem d_Ta_advance_213 : decode (yB Y_Ta_advance) 213 = .ok (.iadd, 1) := by decide +kernel
theorem d_Ta_advance_214 : decode (yB Y_Ta_advance) 214 = .ok (.putfield 25, 3) := by decide +kernel
theorem d_Ta_advance_217 : decode (yB Y_Ta_advance) 217 = .ok (.goto (-64), 3) := by decide +kernel
theorem d_Ta_advance_220 : decode (yB Y_Ta_advance) 220 = .ok (.aload_n 0, 1) := by decide +kernel
theorem d_Ta_advance_221 : decode (yB Y_Ta_advance) 221 = .ok (.iconst 3, 1) := by decide +kernel
theorem d_Ta_advance_222 : decode (yB Y_Ta_advance) 222 = .ok (.putfield 19, 3) := by decide +kernel
theorem d_Ta_advance_225 : decode (yB Y_Ta_advance) 225 = .ok (.aload_n 0, 1) := by decide +kernel
theorem d_Ta_advance_226 : decode (yB Y_Ta_advance) 226 = .ok (.dup, 1) := by decide +kernel
theorem d_Ta_advance_227 : decode (yB Y_Ta_advance) 227 = .ok (.getfield 25, 3) := by decide +kernel
theorem d_Ta_advance_230 : decode (yB Y_Ta_advance) 230 = .ok (.iconst 1, 1) := by decide +kernel
theorem d_Ta_advance_231 : decode (yB Y_Ta_advance) 231 = .ok (.iadd, 1) := by decide +kernel
theorem d_Ta_advance_232 : decode (yB Y_Ta_advance) 232 = .ok (.putfield 25, 3) := by decide +kernel
theorem d_Ta_advance_235 : decode (yB Y_Ta_advance) 235 = .ok (.return_, 1) := by decide +kernel
def F_Ta_advance_L96 (n : Nat) (E : zE) (S : zS) (r96 : Nat × zH → Option (zH)) (a0 : Nat) (M : zH) : Option (zH) :=
  (zgI S M a0 8 4).bind fun v_1 =>
  (zgI S M a0 8 1).bind fun v_2 =>
  if v_2 ≤ v_1 then
    some (M)
  else
    (zgI S M a0 8 4).bind fun v_4 =>
    (F_Ta_byteAt n E S a0 v_4 M).bind fun q_5 =>
    (F_Ta_isLetter n E S q_5.1 q_5.2).bind fun q_6 =>
    if q_6.1 = true then
      (zgI S q_6.2 a0 8 4).bind fun v_8 =>
      (zpI S q_6.2 a0 8 4 (v_8 + 1)).bind fun m_9 =>
      r96 (a0, m_9)
    else
      some (q_6.2)
def F_Ta_advance_b96 (n : Nat) (E : zE) (S : zS) : Nat × zH → Option (zH) := zfix (fun r96 s => F_Ta_advance_L96 n E S r96 s.1 s.2) n
def F_Ta_advance_L153 (n : Nat) (E : zE) (S : zS) (r153 : Nat × zH → Option (zH)) (a0 : Nat) (M : zH) : Option (zH) :=
  (zgI S M a0 8 4).bind fun v_10 =>
  (zgI S M a0 8 1).bind fun v_11 =>
  if v_11 ≤ v_10 then
    some (M)
  else
    (zgI S M a0 8 4).bind fun v_13 =>
    (F_Ta_byteAt n E S a0 v_13 M).bind fun q_14 =>
    (F_Ta_isDigit n E S q_14.1 q_14.2).bind fun q_15 =>
    if q_15.1 = true then
      (zgI S q_15.2 a0 8 5).bind fun v_17 =>
      (zgI S q_15.2 a0 8 4).bind fun v_18 =>
      (F_Ta_byteAt n E S a0 v_18 q_15.2).bind fun q_19 =>
      (F_Jm_min n E S (((v_17 * 10) + q_19.1) - 48) 10000 q_19.2).bind fun q_20 =>
      (zpI S q_20.2 a0 8 5 q_20.1).bind fun m_21 =>
      (zgI S m_21 a0 8 4).bind fun v_22 =>
      (zpI S m_21 a0 8 4 (v_22 + 1)).bind fun m_23 =>
      r153 (a0, m_23)
    else
      some (q_15.2)
def F_Ta_advance_b153 (n : Nat) (E : zE) (S : zS) : Nat × zH → Option (zH) := zfix (fun r153 s => F_Ta_advance_L153 n E S r153 s.1 s.2) n
def F_Ta_advance_b45 (n : Nat) (E : zE) (S : zS) (a0 : Nat) (M : zH) : Option (zH) :=
  (zgI S M a0 8 3).bind fun v_24 =>
  (zpI S M a0 8 4 v_24).bind fun m_25 =>
  (zpI S m_25 a0 8 5 0).bind fun m_26 =>
  (zgI S m_26 a0 8 3).bind fun v_27 =>
  (zgI S m_26 a0 8 1).bind fun v_28 =>
  if v_27 < v_28 then
    (zgI S m_26 a0 8 3).bind fun v_30 =>
    (F_Ta_byteAt n E S a0 v_30 m_26).bind fun q_31 =>
    (F_Ta_isLetter n E S q_31.1 q_31.2).bind fun q_32 =>
    if q_32.1 = true then
      (zpI S q_32.2 a0 8 2 1).bind fun m_34 =>
      F_Ta_advance_b96 n E S (a0, m_34)
    else
      (zgI S q_32.2 a0 8 3).bind fun v_35 =>
      (F_Ta_byteAt n E S a0 v_35 q_32.2).bind fun q_36 =>
      (F_Ta_isDigit n E S q_36.1 q_36.2).bind fun q_37 =>
      if q_37.1 = true then
        (zpI S q_37.2 a0 8 2 2).bind fun m_39 =>
        F_Ta_advance_b153 n E S (a0, m_39)
      else
        (zpI S q_37.2 a0 8 2 3).bind fun m_40 =>
        (zgI S m_40 a0 8 4).bind fun v_41 =>
        (zpI S m_40 a0 8 4 (v_41 + 1)).bind fun m_42 =>
        some (m_42)
  else
    (zpI S m_26 a0 8 2 0).bind fun m_43 =>
    some (m_43)
def F_Ta_advance_L8 (n : Nat) (E : zE) (S : zS) (r8 : Nat × zH → Option (zH)) (a0 : Nat) (M : zH) : Option (zH) :=
  (zgI S M a0 8 3).bind fun v_44 =>
  (zgI S M a0 8 1).bind fun v_45 =>
  if v_45 ≤ v_44 then
    F_Ta_advance_b45 n E S a0 M
  else
    (zgI S M a0 8 3).bind fun v_47 =>
    (F_Ta_byteAt n E S a0 v_47 M).bind fun q_48 =>
    if q_48.1 = 32 then
      (zgI S q_48.2 a0 8 3).bind fun v_50 =>
      (zpI S q_48.2 a0 8 3 (v_50 + 1)).bind fun m_51 =>
      r8 (a0, m_51)
    else
      F_Ta_advance_b45 n E S a0 q_48.2
def F_Ta_advance_b8 (n : Nat) (E : zE) (S : zS) : Nat × zH → Option (zH) := zfix (fun r8 s => F_Ta_advance_L8 n E S r8 s.1 s.2) n
def F_Ta_advance (n : Nat) (E : zE) (S : zS) (a0 : Nat) (M : zH) : Option (zH) :=
  (zgI S M a0 8 4).bind fun v_52 =>
  (zpI S M a0 8 3 v_52).bind fun m_53 =>
  F_Ta_advance_b8 n E S (a0, m_53)
theorem K_Ta_advance_L96 (n : Nat) (E : zE) (S : zS) (r96 : Nat × zH → Option (zH)) (a0 : Nat) (M : zH) (M' : zH) (hr96 : ∀ (a0 : Nat) (M : zH), r96 (a0, M) = some M' → zG E Y_Ta_advance (none, S, M') 96 [(0, .ref a0)] [] S M 0 0) (h : F_Ta_advance_L96 n E S r96 a0 M = some M') : zG E Y_Ta_advance (none, S, M') 96 [(0, .ref a0)] [] S M 0 0 := by
  unfold F_Ta_advance_L96 at h
  refine zi_aload_n 0 d_Ta_advance_96 rfl ?_
  obtain ⟨v_1, ev_1, h⟩ := zbind h
  refine zo_getI 100 zkd_8 4 d_Ta_advance_97 ev_1 rfl tw_157 rfl ?_
  refine zi_aload_n 0 d_Ta_advance_100 rfl ?_
  obtain ⟨v_2, ev_2, h⟩ := zbind h
  refine zo_getI 104 zkd_8 1 d_Ta_advance_101 ev_2 rfl tw_153 rfl ?_
  refine zi_icmp_ge (tgt := 235) d_Ta_advance_104 rfl (fun c_3 => ?_) (fun c_3 => ?_)
  · rw [if_pos c_3] at h
    cases h
    exact zo_ret d_Ta_advance_235 (Nat.le_of_ble_eq_true rfl) (Nat.le_of_ble_eq_true rfl) rfl
  · rw [if_neg c_3] at h
    refine zi_aload_n 0 d_Ta_advance_107 rfl ?_
    refine zi_aload_n 0 d_Ta_advance_108 rfl ?_
    obtain ⟨v_4, ev_4, h⟩ := zbind h
    refine zo_getI 112 zkd_8 4 d_Ta_advance_109 ev_4 rfl tw_157 rfl ?_
    obtain ⟨q_5, eq_5, h⟩ := zbind h
    refine zo_virt (k' := 0) (n' := 0) 115 [.int v_4] [] [.int q_5.1] zkd_8 (zgI_s ev_1).1 (C_Ta_byteAt n E S a0 v_4 M q_5.1 q_5.2 eq_5) d_Ta_advance_112 tw_551 tw_576 tw_549 tw_550 tw_5 dd_Ta_byteAt ⟨Nat.le_of_ble_eq_true rfl, Nat.le_of_ble_eq_true rfl, Nat.le_of_ble_eq_true rfl, Nat.le_of_ble_eq_true rfl⟩ (Nat.le_of_ble_eq_true rfl) rfl rfl rfl rfl ?_
    obtain ⟨q_6, eq_6, h⟩ := zbind h
    refine zo_stat (k' := 0) (n' := 0) 118 [.int q_5.1] [] [.int (bI q_6.1)] (C_Ta_isLetter n E S q_5.1 q_5.2 q_6.1 q_6.2 eq_6) d_Ta_advance_115 tw_579 tw_577 tw_578 tw_5 dd_Ta_isLetter ⟨Nat.le_of_ble_eq_true rfl, Nat.le_of_ble_eq_true rfl, Nat.le_of_ble_eq_true rfl, Nat.le_of_ble_eq_true rfl⟩ (Nat.le_of_ble_eq_true rfl) rfl rfl rfl rfl ?_
    refine zo_ifeqB d_Ta_advance_118 rfl 121 rfl (fun c_7 => ?_) (fun c_7 => ?_)
    · rw [if_neg c_7] at h
      cases h
      exact zo_ret d_Ta_advance_235 (Nat.le_of_ble_eq_true rfl) (Nat.le_of_ble_eq_true rfl) rfl
    · rw [if_pos c_7] at h
      refine zi_aload_n 0 d_Ta_advance_121 rfl ?_
      refine zi_dup d_Ta_advance_122 rfl ?_
      obtain ⟨v_8, ev_8, h⟩ := zbind h
      refine zo_getI 126 zkd_8 4 d_Ta_advance_123 ev_8 rfl tw_157 rfl ?_
      refine zi_iconst 1 d_Ta_advance_126 rfl ?_
      refine zi_iadd d_Ta_advance_127 ?_
      obtain ⟨m_9, em_9, h⟩ := zbind h
      refine zo_putI 131 zkd_8 4 d_Ta_advance_128 em_9 rfl rfl rfl tw_157 rfl ?_
      refine zi_goto (tgt := 96) d_Ta_advance_131 rfl ?_
      refine zi_lo [(0, .ref a0)] [0] rfl ?_
      exact hr96 a0 m_9 h
theorem K_Ta_advance_b96 (n : Nat) (E : zE) (S : zS) (a0 : Nat) (M : zH) (M' : zH)  (h : F_Ta_advance_b96 n E S (a0, M) = some M') : zG E Y_Ta_advance (none, S, M') 96 [(0, .ref a0)] [] S M 0 0 := by
  have key : ∀ (k : Nat) (a0 : Nat) (M : zH), zfix (fun r96 s => F_Ta_advance_L96 n E S r96 s.1 s.2) k (a0, M) = some M' → zG E Y_Ta_advance (none, S, M') 96 [(0, .ref a0)] [] S M 0 0 := by
    intro k
    induction k with
    | zero => intro a0 M h; cases h
    | succ k ih => intro a0 M h; exact K_Ta_advance_L96 n E S _ a0 M M'  (fun a0 M h => ih a0 M h) h
  exact key n a0 M h
theorem K_Ta_advance_L153 (n : Nat) (E : zE) (S : zS) (r153 : Nat × zH → Option (zH)) (a0 : Nat) (M : zH) (M' : zH) (hr153 : ∀ (a0 : Nat) (M : zH), r153 (a0, M) = some M' → zG E Y_Ta_advance (none, S, M') 153 [(0, .ref a0)] [] S M 0 0) (h : F_Ta_advance_L153 n E S r153 a0 M = some M') : zG E Y_Ta_advance (none, S, M') 153 [(0, .ref a0)] [] S M 0 0 := by
  unfold F_Ta_advance_L153 at h
  refine zi_aload_n 0 d_Ta_advance_153 rfl ?_
  obtain ⟨v_10, ev_10, h⟩ := zbind h
  refine zo_getI 157 zkd_8 4 d_Ta_advance_154 ev_10 rfl tw_157 rfl ?_
  refine zi_aload_n 0 d_Ta_advance_157 rfl ?_
  obtain ⟨v_11, ev_11, h⟩ := zbind h
  refine zo_getI 161 zkd_8 1 d_Ta_advance_158 ev_11 rfl tw_153 rfl ?_
  refine zi_icmp_ge (tgt := 235) d_Ta_advance_161 rfl (fun c_12 => ?_) (fun c_12 => ?_)
  · rw [if_pos c_12] at h
    cases h
    exact zo_ret d_Ta_advance_235 (Nat.le_of_ble_eq_true rfl) (Nat.le_of_ble_eq_true rfl) rfl
  · rw [if_neg c_12] at h
    refine zi_aload_n 0 d_Ta_advance_164 rfl ?_
    refine zi_aload_n 0 d_Ta_advance_165 rfl ?_
    obtain ⟨v_13, ev_13, h⟩ := zbind h
    refine zo_getI 169 zkd_8 4 d_Ta_advance_166 ev_13 rfl tw_157 rfl ?_
    obtain ⟨q_14, eq_14, h⟩ := zbind h
    refine zo_virt (k' := 0) (n' := 0) 172 [.int v_13] [] [.int q_14.1] zkd_8 (zgI_s ev_10).1 (C_Ta_byteAt n E S a0 v_13 M q_14.1 q_14.2 eq_14) d_Ta_advance_169 tw_551 tw_576 tw_549 tw_550 tw_5 dd_Ta_byteAt ⟨Nat.le_of_ble_eq_true rfl, Nat.le_of_ble_eq_true rfl, Nat.le_of_ble_eq_true rfl, Nat.le_of_ble_eq_true rfl⟩ (Nat.le_of_ble_eq_true rfl) rfl rfl rfl rfl ?_
    obtain ⟨q_15, eq_15, h⟩ := zbind h
    refine zo_stat (k' := 0) (n' := 0) 175 [.int q_14.1] [] [.int (bI q_15.1)] (C_Ta_isDigit n E S q_14.1 q_14.2 q_15.1 q_15.2 eq_15) d_Ta_advance_172 tw_582 tw_580 tw_581 tw_5 dd_Ta_isDigit ⟨Nat.le_of_ble_eq_true rfl, Nat.le_of_ble_eq_true rfl, Nat.le_of_ble_eq_true rfl, Nat.le_of_ble_eq_true rfl⟩ (Nat.le_of_ble_eq_true rfl) rfl rfl rfl rfl ?_
    refine zo_ifeqB d_Ta_advance_175 rfl 178 rfl (fun c_16 => ?_) (fun c_16 => ?_)
    · rw [if_neg c_16] at h
      cases h
      exact zo_ret d_Ta_advance_235 (Nat.le_of_ble_eq_true rfl) (Nat.le_of_ble_eq_true rfl) rfl
    · rw [if_pos c_16] at h
      refine zi_aload_n 0 d_Ta_advance_178 rfl ?_
      refine zi_aload_n 0 d_Ta_advance_179 rfl ?_
      obtain ⟨v_17, ev_17, h⟩ := zbind h
      refine zo_getI 183 zkd_8 5 d_Ta_advance_180 ev_17 rfl tw_158 rfl ?_
      refine zi_bipush 10 d_Ta_advance_183 rfl ?_
      refine zi_imul d_Ta_advance_185 ?_
      refine zi_aload_n 0 d_Ta_advance_186 rfl ?_
      refine zi_aload_n 0 d_Ta_advance_187 rfl ?_
      obtain ⟨v_18, ev_18, h⟩ := zbind h
      refine zo_getI 191 zkd_8 4 d_Ta_advance_188 ev_18 rfl tw_157 rfl ?_
      obtain ⟨q_19, eq_19, h⟩ := zbind h
      refine zo_virt (k' := 0) (n' := 0) 194 [.int v_18] [.int (v_17 * 10), .ref a0] [.int q_19.1, .int (v_17 * 10), .ref a0] zkd_8 (zgI_s ev_10).1 (C_Ta_byteAt n E S a0 v_18 q_15.2 q_19.1 q_19.2 eq_19) d_Ta_advance_191 tw_551 tw_576 tw_549 tw_550 tw_5 dd_Ta_byteAt ⟨Nat.le_of_ble_eq_true rfl, Nat.le_of_ble_eq_true rfl, Nat.le_of_ble_eq_true rfl, Nat.le_of_ble_eq_true rfl⟩ (Nat.le_of_ble_eq_true rfl) rfl rfl rfl rfl ?_
      refine zi_iadd d_Ta_advance_194 ?_
      refine zi_bipush 48 d_Ta_advance_195 rfl ?_
      refine zi_isub d_Ta_advance_197 ?_
      refine zi_sipush 10000 d_Ta_advance_198 rfl ?_
      obtain ⟨q_20, eq_20, h⟩ := zbind h
      refine zo_stat (k' := 0) (n' := 0) 204 [.int (((v_17 * 10) + q_19.1) - 48), .int 10000] [.ref a0] [.int q_20.1, .ref a0] (C_Jm_min n E S (((v_17 * 10) + q_19.1) - 48) 10000 q_19.2 q_20.1 q_20.2 eq_20) d_Ta_advance_201 tw_437 tw_583 tw_436 tw_14 dd_Jm_min ⟨Nat.le_of_ble_eq_true rfl, Nat.le_of_ble_eq_true rfl, Nat.le_of_ble_eq_true rfl, Nat.le_of_ble_eq_true rfl⟩ (Nat.le_of_ble_eq_true rfl) rfl rfl rfl rfl ?_
      obtain ⟨m_21, em_21, h⟩ := zbind h
      refine zo_putI 207 zkd_8 5 d_Ta_advance_204 em_21 rfl rfl rfl tw_158 rfl ?_
      refine zi_aload_n 0 d_Ta_advance_207 rfl ?_
      refine zi_dup d_Ta_advance_208 rfl ?_
      obtain ⟨v_22, ev_22, h⟩ := zbind h
      refine zo_getI 212 zkd_8 4 d_Ta_advance_209 ev_22 rfl tw_157 rfl ?_
      refine zi_iconst 1 d_Ta_advance_212 rfl ?_
      refine zi_iadd d_Ta_advance_213 ?_
      obtain ⟨m_23, em_23, h⟩ := zbind h
      refine zo_putI 217 zkd_8 4 d_Ta_advance_214 em_23 rfl rfl rfl tw_157 rfl ?_
      refine zi_goto (tgt := 153) d_Ta_advance_217 rfl ?_
      refine zi_lo [(0, .ref a0)] [0] rfl ?_
      exact hr153 a0 m_23 h
theorem K_Ta_advance_b153 (n : Nat) (E : zE) (S : zS) (a0 : Nat) (M : zH) (M' : zH)  (h : F_Ta_advance_b153 n E S (a0, M) = some M') : zG E Y_Ta_advance (none, S, M') 153 [(0, .ref a0)] [] S M 0 0 := by
  have key : ∀ (k : Nat) (a0 : Nat) (M : zH), zfix (fun r153 s => F_Ta_advance_L153 n E S r153 s.1 s.2) k (a0, M) = some M' → zG E Y_Ta_advance (none, S, M') 153 [(0, .ref a0)] [] S M 0 0 := by
    intro k
    induction k with
    | zero => intro a0 M h; cases h
    | succ k ih => intro a0 M h; exact K_Ta_advance_L153 n E S _ a0 M M'  (fun a0 M h => ih a0 M h) h
  exact key n a0 M h
theorem K_Ta_advance_b45 (n : Nat) (E : zE) (S : zS) (a0 : Nat) (M : zH) (M' : zH)  (h : F_Ta_advance_b45 n E S a0 M = some M') : zG E Y_Ta_advance (none, S, M') 45 [(0, .ref a0)] [] S M 0 0 := by
  unfold F_Ta_advance_b45 at h
  refine zi_aload_n 0 d_Ta_advance_45 rfl ?_
  refine zi_aload_n 0 d_Ta_advance_46 rfl ?_
  obtain ⟨v_24, ev_24, h⟩ := zbind h
  refine zo_getI 50 zkd_8 3 d_Ta_advance_47 ev_24 rfl tw_156 rfl ?_
  obtain ⟨m_25, em_25, h⟩ := zbind h
  refine zo_putI 53 zkd_8 4 d_Ta_advance_50 em_25 rfl rfl rfl tw_157 rfl ?_
  refine zi_aload_n 0 d_Ta_advance_53 rfl ?_
  refine zi_iconst 0 d_Ta_advance_54 rfl ?_
  obtain ⟨m_26, em_26, h⟩ := zbind h
  refine zo_putI 58 zkd_8 5 d_Ta_advance_55 em_26 rfl rfl rfl tw_158 rfl ?_
  refine zi_aload_n 0 d_Ta_advance_58 rfl ?_
  obtain ⟨v_27, ev_27, h⟩ := zbind h
  refine zo_getI 62 zkd_8 3 d_Ta_advance_59 ev_27 rfl tw_156 rfl ?_
  refine zi_aload_n 0 d_Ta_advance_62 rfl ?_
  obtain ⟨v_28, ev_28, h⟩ := zbind h
  refine zo_getI 66 zkd_8 1 d_Ta_advance_63 ev_28 rfl tw_153 rfl ?_
  refine zi_icmp_lt (tgt := 77) d_Ta_advance_66 rfl (fun c_29 => ?_) (fun c_29 => ?_)
  · rw [if_pos c_29] at h
    refine zi_aload_n 0 d_Ta_advance_77 rfl ?_
    refine zi_aload_n 0 d_Ta_advance_78 rfl ?_
    obtain ⟨v_30, ev_30, h⟩ := zbind h
    refine zo_getI 82 zkd_8 3 d_Ta_advance_79 ev_30 rfl tw_156 rfl ?_
    obtain ⟨q_31, eq_31, h⟩ := zbind h
    refine zo_virt (k' := 0) (n' := 0) 85 [.int v_30] [] [.int q_31.1] zkd_8 (zgI_s ev_24).1 (C_Ta_byteAt n E S a0 v_30 m_26 q_31.1 q_31.2 eq_31) d_Ta_advance_82 tw_551 tw_576 tw_549 tw_550 tw_5 dd_Ta_byteAt ⟨Nat.le_of_ble_eq_true rfl, Nat.le_of_ble_eq_true rfl, Nat.le_of_ble_eq_true rfl, Nat.le_of_ble_eq_true rfl⟩ (Nat.le_of_ble_eq_true rfl) rfl rfl rfl rfl ?_
    obtain ⟨q_32, eq_32, h⟩ := zbind h
    refine zo_stat (k' := 0) (n' := 0) 88 [.int q_31.1] [] [.int (bI q_32.1)] (C_Ta_isLetter n E S q_31.1 q_31.2 q_32.1 q_32.2 eq_32) d_Ta_advance_85 tw_579 tw_577 tw_578 tw_5 dd_Ta_isLetter ⟨Nat.le_of_ble_eq_true rfl, Nat.le_of_ble_eq_true rfl, Nat.le_of_ble_eq_true rfl, Nat.le_of_ble_eq_true rfl⟩ (Nat.le_of_ble_eq_true rfl) rfl rfl rfl rfl ?_
    refine zo_ifeqB d_Ta_advance_88 rfl 91 rfl (fun c_33 => ?_) (fun c_33 => ?_)
    · rw [if_neg c_33] at h
      refine zi_aload_n 0 d_Ta_advance_134 rfl ?_
      refine zi_aload_n 0 d_Ta_advance_135 rfl ?_
      obtain ⟨v_35, ev_35, h⟩ := zbind h
      refine zo_getI 139 zkd_8 3 d_Ta_advance_136 ev_35 rfl tw_156 rfl ?_
      obtain ⟨q_36, eq_36, h⟩ := zbind h
      refine zo_virt (k' := 0) (n' := 0) 142 [.int v_35] [] [.int q_36.1] zkd_8 (zgI_s ev_24).1 (C_Ta_byteAt n E S a0 v_35 q_32.2 q_36.1 q_36.2 eq_36) d_Ta_advance_139 tw_551 tw_576 tw_549 tw_550 tw_5 dd_Ta_byteAt ⟨Nat.le_of_ble_eq_true rfl, Nat.le_of_ble_eq_true rfl, Nat.le_of_ble_eq_true rfl, Nat.le_of_ble_eq_true rfl⟩ (Nat.le_of_ble_eq_true rfl) rfl rfl rfl rfl ?_
      obtain ⟨q_37, eq_37, h⟩ := zbind h
      refine zo_stat (k' := 0) (n' := 0) 145 [.int q_36.1] [] [.int (bI q_37.1)] (C_Ta_isDigit n E S q_36.1 q_36.2 q_37.1 q_37.2 eq_37) d_Ta_advance_142 tw_582 tw_580 tw_581 tw_5 dd_Ta_isDigit ⟨Nat.le_of_ble_eq_true rfl, Nat.le_of_ble_eq_true rfl, Nat.le_of_ble_eq_true rfl, Nat.le_of_ble_eq_true rfl⟩ (Nat.le_of_ble_eq_true rfl) rfl rfl rfl rfl ?_
      refine zo_ifeqB d_Ta_advance_145 rfl 148 rfl (fun c_38 => ?_) (fun c_38 => ?_)
      · rw [if_neg c_38] at h
        refine zi_aload_n 0 d_Ta_advance_220 rfl ?_
        refine zi_iconst 3 d_Ta_advance_221 rfl ?_
        obtain ⟨m_40, em_40, h⟩ := zbind h
        refine zo_putI 225 zkd_8 2 d_Ta_advance_222 em_40 rfl rfl rfl tw_155 rfl ?_
        refine zi_aload_n 0 d_Ta_advance_225 rfl ?_
        refine zi_dup d_Ta_advance_226 rfl ?_
        obtain ⟨v_41, ev_41, h⟩ := zbind h
        refine zo_getI 230 zkd_8 4 d_Ta_advance_227 ev_41 rfl tw_157 rfl ?_
        refine zi_iconst 1 d_Ta_advance_230 rfl ?_
        refine zi_iadd d_Ta_advance_231 ?_
        obtain ⟨m_42, em_42, h⟩ := zbind h
        refine zo_putI 235 zkd_8 4 d_Ta_advance_232 em_42 rfl rfl rfl tw_157 rfl ?_
        cases h
        exact zo_ret d_Ta_advance_235 (Nat.le_of_ble_eq_true rfl) (Nat.le_of_ble_eq_true rfl) rfl
      · rw [if_pos c_38] at h
        refine zi_aload_n 0 d_Ta_advance_148 rfl ?_
        refine zi_iconst 2 d_Ta_advance_149 rfl ?_
        obtain ⟨m_39, em_39, h⟩ := zbind h
        refine zo_putI 153 zkd_8 2 d_Ta_advance_150 em_39 rfl rfl rfl tw_155 rfl ?_
        refine zi_lo [(0, .ref a0)] [0] rfl ?_
        exact K_Ta_advance_b153 n E S a0 m_39 M'  h
    · rw [if_pos c_33] at h
      refine zi_aload_n 0 d_Ta_advance_91 rfl ?_
      refine zi_iconst 1 d_Ta_advance_92 rfl ?_
      obtain ⟨m_34, em_34, h⟩ := zbind h
      refine zo_putI 96 zkd_8 2 d_Ta_advance_93 em_34 rfl rfl rfl tw_155 rfl ?_
      refine zi_lo [(0, .ref a0)] [0] rfl ?_
      exact K_Ta_advance_b96 n E S a0 m_34 M'  h
  · rw [if_neg c_29] at h
    refine zi_aload_n 0 d_Ta_advance_69 rfl ?_
    refine zi_iconst 0 d_Ta_advance_70 rfl ?_
    obtain ⟨m_43, em_43, h⟩ := zbind h
    refine zo_putI 74 zkd_8 2 d_Ta_advance_71 em_43 rfl rfl rfl tw_155 rfl ?_
    refine zi_goto (tgt := 235) d_Ta_advance_74 rfl ?_
    cases h
    exact zo_ret d_Ta_advance_235 (Nat.le_of_ble_eq_true rfl) (Nat.le_of_ble_eq_true rfl) rfl
theorem K_Ta_advance_L8 (n : Nat) (E : zE) (S : zS) (r8 : Nat × zH → Option (zH)) (a0 : Nat) (M : zH) (M' : zH) (hr8 : ∀ (a0 : Nat) (M : zH), r8 (a0, M) = some M' → zG E Y_Ta_advance (none, S, M') 8 [(0, .ref a0)] [] S M 0 0) (h : F_Ta_advance_L8 n E S r8 a0 M = some M') : zG E Y_Ta_advance (none, S, M') 8 [(0, .ref a0)] [] S M 0 0 := by
  unfold F_Ta_advance_L8 at h
  refine zi_aload_n 0 d_Ta_advance_8 rfl ?_
  obtain ⟨v_44, ev_44, h⟩ := zbind h
  refine zo_getI 12 zkd_8 3 d_Ta_advance_9 ev_44 rfl tw_156 rfl ?_
  refine zi_aload_n 0 d_Ta_advance_12 rfl ?_
  obtain ⟨v_45, ev_45, h⟩ := zbind h
  refine zo_getI 16 zkd_8 1 d_Ta_advance_13 ev_45 rfl tw_153 rfl ?_
  refine zi_icmp_ge (tgt := 45) d_Ta_advance_16 rfl (fun c_46 => ?_) (fun c_46 => ?_)
  · rw [if_pos c_46] at h
    refine zi_lo [(0, .ref a0)] [0] rfl ?_
    exact K_Ta_advance_b45 n E S a0 M M'  h
  · rw [if_neg c_46] at h
    refine zi_aload_n 0 d_Ta_advance_19 rfl ?_
    refine zi_aload_n 0 d_Ta_advance_20 rfl ?_
    obtain ⟨v_47, ev_47, h⟩ := zbind h
    refine zo_getI 24 zkd_8 3 d_Ta_advance_21 ev_47 rfl tw_156 rfl ?_
    obtain ⟨q_48, eq_48, h⟩ := zbind h
    refine zo_virt (k' := 0) (n' := 0) 27 [.int v_47] [] [.int q_48.1] zkd_8 (zgI_s ev_44).1 (C_Ta_byteAt n E S a0 v_47 M q_48.1 q_48.2 eq_48) d_Ta_advance_24 tw_551 tw_576 tw_549 tw_550 tw_5 dd_Ta_byteAt ⟨Nat.le_of_ble_eq_true rfl, Nat.le_of_ble_eq_true rfl, Nat.le_of_ble_eq_true rfl, Nat.le_of_ble_eq_true rfl⟩ (Nat.le_of_ble_eq_true rfl) rfl rfl rfl rfl ?_
    refine zi_bipush 32 d_Ta_advance_27 rfl ?_
    refine zi_icmp_ne (tgt := 45) d_Ta_advance_29 rfl (fun c_49 => ?_) (fun c_49 => ?_)
    · rw [if_neg c_49] at h
      refine zi_lo [(0, .ref a0)] [0] rfl ?_
      exact K_Ta_advance_b45 n E S a0 q_48.2 M'  h
    · rw [if_pos c_49] at h
      refine zi_aload_n 0 d_Ta_advance_32 rfl ?_
      refine zi_dup d_Ta_advance_33 rfl ?_
      obtain ⟨v_50, ev_50, h⟩ := zbind h
      refine zo_getI 37 zkd_8 3 d_Ta_advance_34 ev_50 rfl tw_156 rfl ?_
      refine zi_iconst 1 d_Ta_advance_37 rfl ?_
      refine zi_iadd d_Ta_advance_38 ?_
      obtain ⟨m_51, em_51, h⟩ := zbind h
      refine zo_putI 42 zkd_8 3 d_Ta_advance_39 em_51 rfl rfl rfl tw_156 rfl ?_
      refine zi_goto (tgt := 8) d_Ta_advance_42 rfl ?_
      refine zi_lo [(0, .ref a0)] [0] rfl ?_
      exact hr8 a0 m_51 h
theorem K_Ta_advance_b8 (n : Nat) (E : zE) (S : zS) (a0 : Nat) (M : zH) (M' : zH)  (h : F_Ta_advance_b8 n E S (a0, M) = some M') : zG E Y_Ta_advance (none, S, M') 8 [(0, .ref a0)] [] S M 0 0 := by
  have key : ∀ (k : Nat) (a0 : Nat) (M : zH), zfix (fun r8 s => F_Ta_advance_L8 n E S r8 s.1 s.2) k (a0, M) = some M' → zG E Y_Ta_advance (none, S, M') 8 [(0, .ref a0)] [] S M 0 0 := by
    intro k
    induction k with
    | zero => intro a0 M h; cases h
    | succ k ih => intro a0 M h; exact K_Ta_advance_L8 n E S _ a0 M M'  (fun a0 M h => ih a0 M h) h
  exact key n a0 M h
theorem K_Ta_advance (n : Nat) (E : zE) (S : zS) (a0 : Nat) (M : zH) (M' : zH)  (h : F_Ta_advance n E S a0 M = some M') : zG E Y_Ta_advance (none, S, M') 0 [(0, .ref a0)] [] S M 0 0 := by
  unfold F_Ta_advance at h
  refine zi_aload_n 0 d_Ta_advance_0 rfl ?_
  refine zi_aload_n 0 d_Ta_advance_1 rfl ?_
  obtain ⟨v_52, ev_52, h⟩ := zbind h
  refine zo_getI 5 zkd_8 4 d_Ta_advance_2 ev_52 rfl tw_157 rfl ?_
  obtain ⟨m_53, em_53, h⟩ := zbind h
  refine zo_putI 8 zkd_8 3 d_Ta_advance_5 em_53 rfl rfl rfl tw_156 rfl ?_
  refine zi_lo [(0, .ref a0)] [0] rfl ?_
  exact K_Ta_advance_b8 n E S a0 m_53 M'  h
theorem C_Ta_advance (n : Nat) (E : zE) (S : zS) (a0 : Nat) (M : zH) (M' : zH) (h : F_Ta_advance n E S a0 M = some M') : zC E Y_Ta_advance [.ref a0] S M (none, S, M') :=
  zC.of (Or.inl (show plainName "NightColander$Tape" = true by decide)) (Nat.le_of_ble_eq_true rfl) (trivial) (K_Ta_advance n E S a0 M M' h)
theorem d_Ta_atNumber_0 : decode (yB Y_Ta_atNumber) 0 = .ok (.aload_n 0, 1) := by decide +kernel
theorem d_Ta_atNumber_1 : decode (yB Y_Ta_atNumber) 1 = .ok (.getfield 19, 3) := by decide +kernel
theorem d_Ta_atNumber_4 : decode (yB Y_Ta_atNumber) 4 = .ok (.iconst 2, 1) := by decide +kernel
theorem d_Ta_atNumber_5 : decode (yB Y_Ta_atNumber) 5 = .ok (.if_icmp .ne 19, 3) := by decide +kernel
theorem d_Ta_atNumber_8 : decode (yB Y_Ta_atNumber) 8 = .ok (.aload_n 0, 1) := by decide +kernel
theorem d_Ta_atNumber_9 : decode (yB Y_Ta_atNumber) 9 = .ok (.getfield 28, 3) := by decide +kernel
theorem d_Ta_atNumber_12 : decode (yB Y_Ta_atNumber) 12 = .ok (.iload_n 1, 1) := by decide +kernel
theorem d_Ta_atNumber_13 : decode (yB Y_Ta_atNumber) 13 = .ok (.iload_n 2, 1) := by decide +kernel
theorem d_Ta_atNumber_14 : decode (yB Y_Ta_atNumber) 14 = .ok (.invokestatic 60, 3) := by decide +kernel
theorem d_Ta_atNumber_17 : decode (yB Y_Ta_atNumber) 17 = .ok (.ifCond .eq 7, 3) := by decide +kernel
theorem d_Ta_atNumber_20 : decode (yB Y_Ta_atNumber) 20 = .ok (.iconst 1, 1) := by decide +kernel
theorem d_Ta_atNumber_21 : decode (yB Y_Ta_atNumber) 21 = .ok (.goto 4, 3) := by decide +kernel
theorem d_Ta_atNumber_24 : decode (yB Y_Ta_atNumber) 24 = .ok (.iconst 0, 1) := by decide +kernel
theorem d_Ta_atNumber_25 : decode (yB Y_Ta_atNumber) 25 = .ok (.ireturn, 1) := by decide +kernel
def F_Ta_atNumber (n : Nat) (E : zE) (S : zS) (a0 : Nat) (x1 : Int32) (x2 : Int32) (M : zH) : Option (Bool × zH) :=
  (zgI S M a0 8 2).bind fun v_1 =>
  if v_1 = 2 then
    (zgI S M a0 8 5).bind fun v_3 =>
    (F_NC_within n E S v_3 x1 x2 M).bind fun q_4 =>
    if q_4.1 = true then
      some (true, q_4.2)
    else
      some (false, q_4.2)
  else
    some (false, M)
theorem K_Ta_atNumber (n : Nat) (E : zE) (S : zS) (a0 : Nat) (x1 : Int32) (x2 : Int32) (M : zH) (r : Bool) (M' : zH)  (h : F_Ta_atNumber n E S a0 x1 x2 M = some (r, M')) : zG E Y_Ta_atNumber (some (.int (bI r)), S, M') 0 [(0, .ref a0), (1, .int x1), (2, .int x2)] [] S M 0 0 := by
  unfold F_Ta_atNumber at h
  refine zi_aload_n 0 d_Ta_atNumber_0 rfl ?_
  obtain ⟨v_1, ev_1, h⟩ := zbind h
  refine zo_getI 4 zkd_8 2 d_Ta_atNumber_1 ev_1 rfl tw_155 rfl ?_
  refine zi_iconst 2 d_Ta_atNumber_4 rfl ?_
  refine zi_icmp_ne (tgt := 24) d_Ta_atNumber_5 rfl (fun c_2 => ?_) (fun c_2 => ?_)
  · rw [if_neg c_2] at h
    refine zi_iconst 0 d_Ta_atNumber_24 rfl ?_
    cases h
    exact zo_retB d_Ta_atNumber_25 (Nat.le_of_ble_eq_true rfl) (Nat.le_of_ble_eq_true rfl) rfl
  · rw [if_pos c_2] at h
    refine zi_aload_n 0 d_Ta_atNumber_8 rfl ?_
    obtain ⟨v_3, ev_3, h⟩ := zbind h
    refine zo_getI 12 zkd_8 5 d_Ta_atNumber_9 ev_3 rfl tw_158 rfl ?_
    refine zi_iload_n 1 d_Ta_atNumber_12 rfl ?_
    refine zi_iload_n 2 d_Ta_atNumber_13 rfl ?_
    obtain ⟨q_4, eq_4, h⟩ := zbind h
    refine zo_statN (k' := 0) (n' := 0) 17 [.int v_3, .int x1, .int x2] [] [.int (bI q_4.1)] (C_NC_within n E S v_3 x1 x2 M q_4.1 q_4.2 eq_4) d_Ta_atNumber_14 tw_399 (List.mem_of_getElem? (i := 6) rfl) tw_398 tw_1 dd_NC_within ⟨Nat.le_of_ble_eq_true rfl, Nat.le_of_ble_eq_true rfl, Nat.le_of_ble_eq_true rfl, Nat.le_of_ble_eq_true rfl⟩ (Nat.le_of_ble_eq_true rfl) rfl rfl rfl rfl ?_
    refine zo_ifeqB d_Ta_atNumber_17 rfl 20 rfl (fun c_5 => ?_) (fun c_5 => ?_)
    · rw [if_neg c_5] at h
      refine zi_iconst 0 d_Ta_atNumber_24 rfl ?_
      cases h
      exact zo_retB d_Ta_atNumber_25 (Nat.le_of_ble_eq_true rfl) (Nat.le_of_ble_eq_true rfl) rfl
    · rw [if_pos c_5] at h
      refine zi_iconst 1 d_Ta_atNumber_20 rfl ?_
      refine zi_goto (tgt := 25) d_Ta_atNumber_21 rfl ?_
      cases h
      exact zo_retB d_Ta_atNumber_25 (Nat.le_of_ble_eq_true rfl) (Nat.le_of_ble_eq_true rfl) rfl
theorem C_Ta_atNumber (n : Nat) (E : zE) (S : zS) (a0 : Nat) (x1 : Int32) (x2 : Int32) (M : zH) (r : Bool) (M' : zH) (h : F_Ta_atNumber n E S a0 x1 x2 M = some (r, M')) : zC E Y_Ta_atNumber [.ref a0, .int x1, .int x2] S M (some (.int (bI r)), S, M') :=
  zC.of (Or.inl (show plainName "NightColander$Tape" = true by decide)) (Nat.le_of_ble_eq_true rfl) (bI_nar r) (K_Ta_atNumber n E S a0 x1 x2 M r M' h)
theorem d_Ta_number_0 : decode (yB Y_Ta_number) 0 = .ok (.aload_n 0, 1) := by decide +kernel
theorem d_Ta_number_1 : decode (yB Y_Ta_number) 1 = .ok (.getfield 28, 3) := by decide +kernel
theorem d_Ta_number_4 : decode (yB Y_Ta_number) 4 = .ok (.ireturn, 1) := by decide +kernel
def F_Ta_number (n : Nat) (E : zE) (S : zS) (a0 : Nat) (M : zH) : Option (Int32 × zH) :=
  (zgI S M a0 8 5).bind fun v_1 =>
  some (v_1, M)
theorem K_Ta_number (n : Nat) (E : zE) (S : zS) (a0 : Nat) (M : zH) (r : Int32) (M' : zH)  (h : F_Ta_number n E S a0 M = some (r, M')) : zG E Y_Ta_number (some (.int r), S, M') 0 [(0, .ref a0)] [] S M 0 0 := by
  unfold F_Ta_number at h
  refine zi_aload_n 0 d_Ta_number_0 rfl ?_
  obtain ⟨v_1, ev_1, h⟩ := zbind h
  refine zo_getI 4 zkd_8 5 d_Ta_number_1 ev_1 rfl tw_158 rfl ?_
  cases h
  exact zo_ret d_Ta_number_4 (Nat.le_of_ble_eq_true rfl) (Nat.le_of_ble_eq_true rfl) rfl
theorem C_Ta_number (n : Nat) (E : zE) (S : zS) (a0 : Nat) (M : zH) (r : Int32) (M' : zH) (h : F_Ta_number n E S a0 M = some (r, M')) : zC E Y_Ta_number [.ref a0] S M (some (.int r), S, M') :=
  zC.of (Or.inl (show plainName "NightColander$Tape" = true by decide)) (Nat.le_of_ble_eq_true rfl) (trivial) (K_Ta_number n E S a0 M r M' h)
theorem d_Te_add_0 : decode (yB Y_Te_add) 0 = .ok (.aload_n 0, 1) := by decide +kernel
theorem d_Te_add_1 : decode (yB Y_Te_add) 1 = .ok (.getfield 7, 3) := by decide +kernel
theorem d_Te_add_4 : decode (yB Y_Te_add) 4 = .ok (.aload_n 0, 1) := by decide +kernel
theorem d_Te_add_5 : decode (yB Y_Te_add) 5 = .ok (.getfield 16, 3) := by decide +kernel
theorem d_Te_add_8 : decode (yB Y_Te_add) 8 = .ok (.arraylength, 1) := by decide +kernel
theorem d_Te_add_9 : decode (yB Y_Te_add) 9 = .ok (.if_icmp .ge 27, 3) := by decide +kernel
theorem d_Te_add_12 : decode (yB Y_Te_add) 12 = .ok (.aload_n 0, 1) := by decide +kernel
theorem d_Te_add_13 : decode (yB Y_Te_add) 13 = .ok (.getfield 16, 3) := by decide +kernel
theorem d_Te_add_16 : decode (yB Y_Te_add) 16 = .ok (.aload_n 0, 1) := by decide +kernel
theorem d_Te_add_17 : decode (yB Y_Te_add) 17 = .ok (.getfield 7, 3) := by decide +kernel
theorem d_Te_add_20 : decode (yB Y_Te_add) 20 = .ok (.iload_n 1, 1) := by decide +kernel
theorem d_Te_add_21 : decode (yB Y_Te_add) 21 = .ok (.iload_n 2, 1) := by decide +kernel
theorem d_Te_add_22 : decode (yB Y_Te_add) 22 = .ok (.iconst 4, 1) := by decide +kernel
theorem d_Te_add_23 : decode (yB Y_Te_add) 23 = .ok (.ishl, 1) := by decide +kernel
theorem d_Te_add_24 : decode (yB Y_Te_add) 24 = .ok (.ior, 1) := by decide +kernel
theorem d_Te_add_25 : decode (yB Y_Te_add) 25 = .ok (.iastore, 1) := by decide +kernel
theorem d_Te_add_26 : decode (yB Y_Te_add) 26 = .ok (.aload_n 0, 1) := by decide +kernel
theorem d_Te_add_27 : decode (yB Y_Te_add) 27 = .ok (.dup, 1) := by decide +kernel
theorem d_Te_add_28 : decode (yB Y_Te_add) 28 = .ok (.getfield 7, 3) := by decide +kernel
theorem d_Te_add_31 : decode (yB Y_Te_add) 31 = .ok (.iconst 1, 1) := by decide +kernel
theorem d_Te_add_32 : decode (yB Y_Te_add) 32 = .ok (.iadd, 1) := by decide +kernel
theorem d_Te_add_33 : decode (yB Y_Te_add) 33 = .ok (.putfield 7, 3) := by decide +kernel
theorem d_Te_add_36 : decode (yB Y_Te_add) 36 = .ok (.aload_n 0, 1) := by decide +kernel
theorem d_Te_add_37 : decode (yB Y_Te_add) 37 = .ok (.getfield 7, 3) := by decide +kernel
theorem d_Te_add_40 : decode (yB Y_Te_add) 40 = .ok (.iconst 1, 1) := by decide +kernel
theorem d_Te_add_41 : decode (yB Y_Te_add) 41 = .ok (.isub, 1) := by decide +kernel
theorem d_Te_add_42 : decode (yB Y_Te_add) 42 = .ok (.ireturn, 1) := by decide +kernel
def F_Te_add_b36 (n : Nat) (E : zE) (S : zS) (a0 : Nat) (M : zH) : Option (Int32 × zH) :=
  (zgI S M a0 9 5).bind fun v_1 =>
  some (v_1 - 1, M)
def F_Te_add (n : Nat) (E : zE) (S : zS) (a0 : Nat) (x1 : Int32) (x2 : Int32) (M : zH) : Option (Int32 × zH) :=
  (zgI S M a0 9 5).bind fun v_2 =>
  (zgR S a0 9 0).bind fun b_3 =>
  (zlen S 12 b_3).bind fun v_4 =>
  if v_4 ≤ v_2 then
    F_Te_add_b36 n E S a0 M
  else
    (zgI S M a0 9 5).bind fun v_6 =>
    (zstI S M b_3 v_6 (x1 ||| (x2 <<< ((4 : Int32) &&& (31 : Int32))))).bind fun m_7 =>
    (zgI S m_7 a0 9 5).bind fun v_8 =>
    (zpI S m_7 a0 9 5 (v_8 + 1)).bind fun m_9 =>
    F_Te_add_b36 n E S a0 m_9
theorem K_Te_add_b36 (n : Nat) (E : zE) (S : zS) (a0 : Nat) (M : zH) (r : Int32) (M' : zH)  (h : F_Te_add_b36 n E S a0 M = some (r, M')) : zG E Y_Te_add (some (.int r), S, M') 36 [(0, .ref a0)] [] S M 0 0 := by
  unfold F_Te_add_b36 at h
  refine zi_aload_n 0 d_Te_add_36 rfl ?_
  obtain ⟨v_1, ev_1, h⟩ := zbind h
  refine zo_getI 40 zkd_9 5 d_Te_add_37 ev_1 rfl tw_195 rfl ?_
  refine zi_iconst 1 d_Te_add_40 rfl ?_
  refine zi_isub d_Te_add_41 ?_
  cases h
  exact zo_ret d_Te_add_42 (Nat.le_of_ble_eq_true rfl) (Nat.le_of_ble_eq_true rfl) rfl
theorem K_Te_add (n : Nat) (E : zE) (S : zS) (a0 : Nat) (x1 : Int32) (x2 : Int32) (M : zH) (r : Int32) (M' : zH)  (h : F_Te_add n E S a0 x1 x2 M = some (r, M')) : zG E Y_Te_add (some (.int r), S, M') 0 [(0, .ref a0), (1, .int x1), (2, .int x2)] [] S M 0 0 := by
  unfold F_Te_add at h
  refine zi_aload_n 0 d_Te_add_0 rfl ?_
  obtain ⟨v_2, ev_2, h⟩ := zbind h
  refine zo_getI 4 zkd_9 5 d_Te_add_1 ev_2 rfl tw_195 rfl ?_
  refine zi_aload_n 0 d_Te_add_4 rfl ?_
  obtain ⟨b_3, eb_3, h⟩ := zbind h
  refine zo_getR 8 zkd_9 0 d_Te_add_5 eb_3 rfl tw_185 rfl ?_
  obtain ⟨v_4, ev_4, h⟩ := zbind h
  refine zo_alen 9 d_Te_add_8 ev_4 (by decide) rfl ?_
  refine zi_icmp_ge (tgt := 36) d_Te_add_9 rfl (fun c_5 => ?_) (fun c_5 => ?_)
  · rw [if_pos c_5] at h
    refine zi_lo [(0, .ref a0)] [0] rfl ?_
    exact K_Te_add_b36 n E S a0 M r M'  h
  · rw [if_neg c_5] at h
    refine zi_aload_n 0 d_Te_add_12 rfl ?_
    refine zo_getR 16 zkd_9 0 d_Te_add_13 eb_3 rfl tw_185 rfl ?_
    refine zi_aload_n 0 d_Te_add_16 rfl ?_
    obtain ⟨v_6, ev_6, h⟩ := zbind h
    refine zo_getI 20 zkd_9 5 d_Te_add_17 ev_6 rfl tw_195 rfl ?_
    refine zi_iload_n 1 d_Te_add_20 rfl ?_
    refine zi_iload_n 2 d_Te_add_21 rfl ?_
    refine zi_iconst 4 d_Te_add_22 rfl ?_
    refine zi_ishl d_Te_add_23 ?_
    refine zi_ior d_Te_add_24 ?_
    obtain ⟨m_7, em_7, h⟩ := zbind h
    refine zo_iast 26 d_Te_add_25 em_7 rfl ?_
    refine zi_aload_n 0 d_Te_add_26 rfl ?_
    refine zi_dup d_Te_add_27 rfl ?_
    obtain ⟨v_8, ev_8, h⟩ := zbind h
    refine zo_getI 31 zkd_9 5 d_Te_add_28 ev_8 rfl tw_195 rfl ?_
    refine zi_iconst 1 d_Te_add_31 rfl ?_
    refine zi_iadd d_Te_add_32 ?_
    obtain ⟨m_9, em_9, h⟩ := zbind h
    refine zo_putI 36 zkd_9 5 d_Te_add_33 em_9 rfl rfl rfl tw_195 rfl ?_
    refine zi_lo [(0, .ref a0)] [0] rfl ?_
    exact K_Te_add_b36 n E S a0 m_9 r M'  h
theorem C_Te_add (n : Nat) (E : zE) (S : zS) (a0 : Nat) (x1 : Int32) (x2 : Int32) (M : zH) (r : Int32) (M' : zH) (h : F_Te_add n E S a0 x1 x2 M = some (r, M')) : zC E Y_Te_add [.ref a0, .int x1, .int x2] S M (some (.int r), S, M') :=
  zC.of (Or.inl (show plainName "NightColander$Text" = true by decide)) (Nat.le_of_ble_eq_true rfl) (trivial) (K_Te_add n E S a0 x1 x2 M r M' h)
theorem d_Te_addWord_0 : decode (yB Y_Te_addWord) 0 = .ok (.aload_n 0, 1) := by decide +kernel
theorem d_Te_addWord_1 : decode (yB Y_Te_addWord) 1 = .ok (.iconst 1, 1) := by decide +kernel
theorem d_Te_addWord_2 : decode (yB Y_Te_addWord) 2 = .ok (.iload_n 1, 1) := by decide +kernel
theorem d_Te_addWord_3 : decode (yB Y_Te_addWord) 3 = .ok (.invokevirtual 51, 3) := by decide +kernel
theorem d_Te_addWord_6 : decode (yB Y_Te_addWord) 6 = .ok (.pop, 1) := by decide +kernel
theorem d_Te_addWord_7 : decode (yB Y_Te_addWord) 7 = .ok (.aload_n 0, 1) := by decide +kernel
theorem d_Te_addWord_8 : decode (yB Y_Te_addWord) 8 = .ok (.getfield 13, 3) := by decide +kernel
theorem d_Te_addWord_11 : decode (yB Y_Te_addWord) 11 = .ok (.bipush 12, 2) := by decide +kernel
theorem d_Te_addWord_13 : decode (yB Y_Te_addWord) 13 = .ok (.if_icmp .ge 18, 3) := by decide +kernel
theorem d_Te_addWord_16 : decode (yB Y_Te_addWord) 16 = .ok (.aload_n 0, 1) := by decide +kernel
theorem d_Te_addWord_17 : decode (yB Y_Te_addWord) 17 = .ok (.getfield 26, 3) := by decide +kernel
theorem d_Te_addWord_20 : decode (yB Y_Te_addWord) 20 = .ok (.aload_n 0, 1) := by decide +kernel
theorem d_Te_addWord_21 : decode (yB Y_Te_addWord) 21 = .ok (.getfield 13, 3) := by decide +kernel
theorem d_Te_addWord_24 : decode (yB Y_Te_addWord) 24 = .ok (.dup2, 1) := by decide +kernel
theorem d_Te_addWord_25 : decode (yB Y_Te_addWord) 25 = .ok (.iaload, 1) := by decide +kernel
theorem d_Te_addWord_26 : decode (yB Y_Te_addWord) 26 = .ok (.iconst 1, 1) := by decide +kernel
theorem d_Te_addWord_27 : decode (yB Y_Te_addWord) 27 = .ok (.iload_n 1, 1) := by decide +kernel
theorem d_Te_addWord_28 : decode (yB Y_Te_addWord) 28 = .ok (.ishl, 1) := by decide +kernel
theorem d_Te_addWord_29 : decode (yB Y_Te_addWord) 29 = .ok (.ior, 1) := by decide +kernel
theorem d_Te_addWord_30 : decode (yB Y_Te_addWord) 30 = .ok (.iastore, 1) := by decide +kernel
theorem d_Te_addWord_31 : decode (yB Y_Te_addWord) 31 = .ok (.return_, 1) := by decide +kernel
def F_Te_addWord (n : Nat) (E : zE) (S : zS) (a0 : Nat) (x1 : Int32) (M : zH) : Option (zH) :=
  (zck S a0 9).bind fun u_1 =>
  (F_Te_add n E S a0 1 x1 M).bind fun q_2 =>
  (zgI S q_2.2 a0 9 6).bind fun v_3 =>
  if 12 ≤ v_3 then
    some (q_2.2)
  else
    (zgR S a0 9 3).bind fun b_5 =>
    (zgI S q_2.2 a0 9 6).bind fun v_6 =>
    (zldI S q_2.2 b_5 v_6).bind fun v_7 =>
    (zstI S q_2.2 b_5 v_6 (v_7 ||| ((1 : Int32) <<< (x1 &&& (31 : Int32))))).bind fun m_8 =>
    some (m_8)
theorem K_Te_addWord (n : Nat) (E : zE) (S : zS) (a0 : Nat) (x1 : Int32) (M : zH) (M' : zH)  (h : F_Te_addWord n E S a0 x1 M = some M') : zG E Y_Te_addWord (none, S, M') 0 [(0, .ref a0), (1, .int x1)] [] S M 0 0 := by
  unfold F_Te_addWord at h
  refine zi_aload_n 0 d_Te_addWord_0 rfl ?_
  refine zi_iconst 1 d_Te_addWord_1 rfl ?_
  refine zi_iload_n 1 d_Te_addWord_2 rfl ?_
  obtain ⟨u_1, eu_1, h⟩ := zbind h
  obtain ⟨q_2, eq_2, h⟩ := zbind h
  refine zo_virt (k' := 0) (n' := 0) 6 [.int 1, .int x1] [] [.int q_2.1] zkd_9 (zck_s eu_1) (C_Te_add n E S a0 1 x1 M q_2.1 q_2.2 eq_2) d_Te_addWord_3 tw_698 tw_714 tw_696 tw_697 tw_7 dd_Te_add ⟨Nat.le_of_ble_eq_true rfl, Nat.le_of_ble_eq_true rfl, Nat.le_of_ble_eq_true rfl, Nat.le_of_ble_eq_true rfl⟩ (Nat.le_of_ble_eq_true rfl) rfl rfl rfl rfl ?_
  refine zi_pop d_Te_addWord_6 rfl ?_
  refine zi_aload_n 0 d_Te_addWord_7 rfl ?_
  obtain ⟨v_3, ev_3, h⟩ := zbind h
  refine zo_getI 11 zkd_9 6 d_Te_addWord_8 ev_3 rfl tw_197 rfl ?_
  refine zi_bipush 12 d_Te_addWord_11 rfl ?_
  refine zi_icmp_ge (tgt := 31) d_Te_addWord_13 rfl (fun c_4 => ?_) (fun c_4 => ?_)
  · rw [if_pos c_4] at h
    cases h
    exact zo_ret d_Te_addWord_31 (Nat.le_of_ble_eq_true rfl) (Nat.le_of_ble_eq_true rfl) rfl
  · rw [if_neg c_4] at h
    refine zi_aload_n 0 d_Te_addWord_16 rfl ?_
    obtain ⟨b_5, eb_5, h⟩ := zbind h
    refine zo_getR 20 zkd_9 3 d_Te_addWord_17 eb_5 rfl tw_192 rfl ?_
    refine zi_aload_n 0 d_Te_addWord_20 rfl ?_
    obtain ⟨v_6, ev_6, h⟩ := zbind h
    refine zo_getI 24 zkd_9 6 d_Te_addWord_21 ev_6 rfl tw_197 rfl ?_
    refine zi_dup2 d_Te_addWord_24 rfl rfl ?_
    obtain ⟨v_7, ev_7, h⟩ := zbind h
    refine zo_iald 26 d_Te_addWord_25 ev_7 rfl ?_
    refine zi_iconst 1 d_Te_addWord_26 rfl ?_
    refine zi_iload_n 1 d_Te_addWord_27 rfl ?_
    refine zi_ishl d_Te_addWord_28 ?_
    refine zi_ior d_Te_addWord_29 ?_
    obtain ⟨m_8, em_8, h⟩ := zbind h
    refine zo_iast 31 d_Te_addWord_30 em_8 rfl ?_
    cases h
    exact zo_ret d_Te_addWord_31 (Nat.le_of_ble_eq_true rfl) (Nat.le_of_ble_eq_true rfl) rfl
theorem C_Te_addWord (n : Nat) (E : zE) (S : zS) (a0 : Nat) (x1 : Int32) (M : zH) (M' : zH) (h : F_Te_addWord n E S a0 x1 M = some M') : zC E Y_Te_addWord [.ref a0, .int x1] S M (none, S, M') :=
  zC.of (Or.inl (show plainName "NightColander$Text" = true by decide)) (Nat.le_of_ble_eq_true rfl) (trivial) (K_Te_addWord n E S a0 x1 M M' h)
theorem d_Ps_readNumberOf_0 : decode (yB Y_Ps_readNumberOf) 0 = .ok (.iload_n 1, 1) := by decide +kernel
theorem d_Ps_readNumberOf_1 : decode (yB Y_Ps_readNumberOf) 1 = .ok (.iconst 0, 1) := by decide +kernel
theorem d_Ps_readNumberOf_2 : decode (yB Y_Ps_readNumberOf) 2 = .ok (.getstatic 165, 3) := by decide +kernel
theorem d_Ps_readNumberOf_5 : decode (yB Y_Ps_readNumberOf) 5 = .ok (.arraylength, 1) := by decide +kernel
theorem d_Ps_readNumberOf_6 : decode (yB Y_Ps_readNumberOf) 6 = .ok (.iconst 1, 1) := by decide +kernel
theorem d_Ps_readNumberOf_7 : decode (yB Y_Ps_readNumberOf) 7 = .ok (.isub, 1) := by decide +kernel
theorem d_Ps_readNumberOf_8 : decode (yB Y_Ps_readNumberOf) 8 = .ok (.invokestatic 169, 3) := by decide +kernel
theorem d_Ps_readNumberOf_11 : decode (yB Y_Ps_readNumberOf) 11 = .ok (.ifCond .eq 19, 3) := by decide +kernel
theorem d_Ps_readNumberOf_14 : decode (yB Y_Ps_readNumberOf) 14 = .ok (.aload_n 0, 1) := by decide +kernel
theorem d_Ps_readNumberOf_15 : decode (yB Y_Ps_readNumberOf) 15 = .ok (.getfield 26, 3) := by decide +kernel
theorem d_Ps_readNumberOf_18 : decode (yB Y_Ps_readNumberOf) 18 = .ok (.iconst 0, 1) := by decide +kernel
theorem d_Ps_readNumberOf_19 : decode (yB Y_Ps_readNumberOf) 19 = .ok (.getstatic 165, 3) := by decide +kernel
theorem d_Ps_readNumberOf_22 : decode (yB Y_Ps_readNumberOf) 22 = .ok (.iload_n 1, 1) := by decide +kernel
theorem d_Ps_readNumberOf_23 : decode (yB Y_Ps_readNumberOf) 23 = .ok (.iaload, 1) := by decide +kernel
theorem d_Ps_readNumberOf_24 : decode (yB Y_Ps_readNumberOf) 24 = .ok (.invokevirtual 102, 3) := by decide +kernel
theorem d_Ps_readNumberOf_27 : decode (yB Y_Ps_readNumberOf) 27 = .ok (.ifCond .ne 5, 3) := by decide +kernel
theorem d_Ps_readNumberOf_30 : decode (yB Y_Ps_readNumberOf) 30 = .ok (.iconst 0, 1) := by decide +kernel
theorem d_Ps_readNumberOf_31 : decode (yB Y_Ps_readNumberOf) 31 = .ok (.ireturn, 1) := by decide +kernel
theorem d_Ps_readNumberOf_32 : decode (yB Y_Ps_readNumberOf) 32 = .ok (.aload_n 0, 1) := by decide +kernel
theorem d_Ps_readNumberOf_33 : decode (yB Y_Ps_readNumberOf) 33 = .ok (.getfield 12, 3) := by decide +kernel
theorem d_Ps_readNumberOf_36 : decode (yB Y_Ps_readNumberOf) 36 = .ok (.getstatic 173, 3) := by decide +kernel
theorem d_Ps_readNumberOf_39 : decode (yB Y_Ps_readNumberOf) 39 = .ok (.iload_n 1, 1) := by decide +kernel
theorem d_Ps_readNumberOf_40 : decode (yB Y_Ps_readNumberOf) 40 = .ok (.iaload, 1) := by decide +kernel
theorem d_Ps_readNumberOf_41 : decode (yB Y_Ps_readNumberOf) 41 = .ok (.aload_n 0, 1) := by decide +kernel
theorem d_Ps_readNumberOf_42 : decode (yB Y_Ps_readNumberOf) 42 = .ok (.getfield 26, 3) := by decide +kernel
theorem d_Ps_readNumberOf_45 : decode (yB Y_Ps_readNumberOf) 45 = .ok (.invokevirtual 106, 3) := by decide +kernel
theorem d_Ps_readNumberOf_48 : decode (yB Y_Ps_readNumberOf) 48 = .ok (.iadd, 1) := by decide +kernel
theorem d_Ps_readNumberOf_49 : decode (yB Y_Ps_readNumberOf) 49 = .ok (.invokevirtual 162, 3) := by decide +kernel
theorem d_Ps_readNumberOf_52 : decode (yB Y_Ps_readNumberOf) 52 = .ok (.aload_n 0, 1) := by decide +kernel
theorem d_Ps_readNumberOf_53 : decode (yB Y_Ps_readNumberOf) 53 = .ok (.getfield 26, 3) := by decide +kernel
theorem d_Ps_readNumberOf_56 : decode (yB Y_Ps_readNumberOf) 56 = .ok (.invokevirtual 53, 3) := by decide +kernel
theorem d_Ps_readNumberOf_59 : decode (yB Y_Ps_readNumberOf) 59 = .ok (.iconst 1, 1) := by decide +kernel
theorem d_Ps_readNumberOf_60 : decode (yB Y_Ps_readNumberOf) 60 = .ok (.ireturn, 1) := by decide +kernel
def F_Ps_readNumberOf (n : Nat) (E : zE) (S : zS) (a0 : Nat) (x1 : Int32) (M : zH) : Option (Bool × zH) :=
  (F_NC_within n E S x1 0 ((nI (zSta 1).length) - 1) M).bind fun q_1 =>
  if q_1.1 = true then
    (zgR S a0 5 1).bind fun b_3 =>
    (zsta 1 x1).bind fun v_4 =>
    (zck S b_3 8).bind fun u_5 =>
    (F_Ta_atNumber n E S b_3 0 v_4 q_1.2).bind fun q_6 =>
    if q_6.1 = true then
      (zgR S a0 5 0).bind fun b_8 =>
      (zsta 2 x1).bind fun v_9 =>
      (F_Ta_number n E S b_3 q_6.2).bind fun q_10 =>
      (zck S b_8 9).bind fun u_11 =>
      (F_Te_addWord n E S b_8 (v_9 + q_10.1) q_10.2).bind fun q_12 =>
      (F_Ta_advance n E S b_3 q_12).bind fun q_13 =>
      some (true, q_13)
    else
      some (false, q_6.2)
  else
    some (false, q_1.2)
theorem K_Ps_readNumberOf (n : Nat) (E : zE) (S : zS) (a0 : Nat) (x1 : Int32) (M : zH) (r : Bool) (M' : zH)  (h : F_Ps_readNumberOf n E S a0 x1 M = some (r, M')) : zG E Y_Ps_readNumberOf (some (.int (bI r)), S, M') 0 [(0, .ref a0), (1, .int x1)] [] S M 0 0 := by
  unfold F_Ps_readNumberOf at h
  refine zi_iload_n 1 d_Ps_readNumberOf_0 rfl ?_
  refine zi_iconst 0 d_Ps_readNumberOf_1 rfl ?_
  refine zo_gets (v := .ref (eU E 1)) 5 d_Ps_readNumberOf_2 (zsta_1 E) tw_705 rfl ?_
  refine zo_stalen 6 d_Ps_readNumberOf_5 (by decide) rfl ?_
  refine zi_iconst 1 d_Ps_readNumberOf_6 rfl ?_
  refine zi_isub d_Ps_readNumberOf_7 ?_
  obtain ⟨q_1, eq_1, h⟩ := zbind h
  refine zo_statN (k' := 0) (n' := 0) 11 [.int x1, .int 0, .int ((nI (zSta 1).length) - 1)] [] [.int (bI q_1.1)] (C_NC_within n E S x1 0 ((nI (zSta 1).length) - 1) M q_1.1 q_1.2 eq_1) d_Ps_readNumberOf_8 tw_399 (List.mem_of_getElem? (i := 7) rfl) tw_398 tw_1 dd_NC_within ⟨Nat.le_of_ble_eq_true rfl, Nat.le_of_ble_eq_true rfl, Nat.le_of_ble_eq_true rfl, Nat.le_of_ble_eq_true rfl⟩ (Nat.le_of_ble_eq_true rfl) rfl rfl rfl rfl ?_
  refine zo_ifeqB d_Ps_readNumberOf_11 rfl 14 rfl (fun c_2 => ?_) (fun c_2 => ?_)
  · rw [if_neg c_2] at h
    refine zi_iconst 0 d_Ps_readNumberOf_30 rfl ?_
    cases h
    exact zo_retB d_Ps_readNumberOf_31 (Nat.le_of_ble_eq_true rfl) (Nat.le_of_ble_eq_true rfl) rfl
  · rw [if_pos c_2] at h
    refine zi_aload_n 0 d_Ps_readNumberOf_14 rfl ?_
    obtain ⟨b_3, eb_3, h⟩ := zbind h
    refine zo_getR 18 zkd_5 1 d_Ps_readNumberOf_15 eb_3 rfl tw_217 rfl ?_
    refine zi_iconst 0 d_Ps_readNumberOf_18 rfl ?_
    refine zo_gets (v := .ref (eU E 1)) 22 d_Ps_readNumberOf_19 (zsta_1 E) tw_705 rfl ?_
    refine zi_iload_n 1 d_Ps_readNumberOf_22 rfl ?_
    obtain ⟨v_4, ev_4, h⟩ := zbind h
    refine zo_sta 24 d_Ps_readNumberOf_23 (by decide) ev_4 rfl ?_
    obtain ⟨u_5, eu_5, h⟩ := zbind h
    obtain ⟨q_6, eq_6, h⟩ := zbind h
    refine zo_virt (k' := 0) (n' := 0) 27 [.int 0, .int v_4] [] [.int (bI q_6.1)] zkd_8 (zck_s eu_5) (C_Ta_atNumber n E S b_3 0 v_4 q_1.2 q_6.1 q_6.2 eq_6) d_Ps_readNumberOf_24 tw_689 tw_686 tw_687 tw_688 tw_5 dd_Ta_atNumber ⟨Nat.le_of_ble_eq_true rfl, Nat.le_of_ble_eq_true rfl, Nat.le_of_ble_eq_true rfl, Nat.le_of_ble_eq_true rfl⟩ (Nat.le_of_ble_eq_true rfl) rfl rfl rfl rfl ?_
    refine zo_ifneB d_Ps_readNumberOf_27 rfl 30 rfl (fun c_7 => ?_) (fun c_7 => ?_)
    · rw [if_pos c_7] at h
      refine zi_aload_n 0 d_Ps_readNumberOf_32 rfl ?_
      obtain ⟨b_8, eb_8, h⟩ := zbind h
      refine zo_getR 36 zkd_5 0 d_Ps_readNumberOf_33 eb_8 rfl tw_215 rfl ?_
      refine zo_gets (v := .ref (eU E 2)) 39 d_Ps_readNumberOf_36 (zsta_2 E) tw_708 rfl ?_
      refine zi_iload_n 1 d_Ps_readNumberOf_39 rfl ?_
      obtain ⟨v_9, ev_9, h⟩ := zbind h
      refine zo_sta 41 d_Ps_readNumberOf_40 (by decide) ev_9 rfl ?_
      refine zi_aload_n 0 d_Ps_readNumberOf_41 rfl ?_
      refine zo_getR 45 zkd_5 1 d_Ps_readNumberOf_42 eb_3 rfl tw_217 rfl ?_
      obtain ⟨q_10, eq_10, h⟩ := zbind h
      refine zo_virt (k' := 0) (n' := 0) 48 [] [.int v_9, .ref b_8] [.int q_10.1, .int v_9, .ref b_8] zkd_8 (zck_s eu_5) (C_Ta_number n E S b_3 q_6.2 q_10.1 q_10.2 eq_10) d_Ps_readNumberOf_45 tw_694 tw_691 tw_692 tw_693 tw_5 dd_Ta_number ⟨Nat.le_of_ble_eq_true rfl, Nat.le_of_ble_eq_true rfl, Nat.le_of_ble_eq_true rfl, Nat.le_of_ble_eq_true rfl⟩ (Nat.le_of_ble_eq_true rfl) rfl rfl rfl rfl ?_
      refine zi_iadd d_Ps_readNumberOf_48 ?_
      obtain ⟨u_11, eu_11, h⟩ := zbind h
      obtain ⟨q_12, eq_12, h⟩ := zbind h
      refine zo_virt (k' := 0) (n' := 0) 52 [.int (v_9 + q_10.1)] [] [] zkd_9 (zck_s eu_11) (C_Te_addWord n E S b_8 (v_9 + q_10.1) q_10.2 q_12 eq_12) d_Ps_readNumberOf_49 tw_713 tw_710 tw_711 tw_712 tw_7 dd_Te_addWord ⟨Nat.le_of_ble_eq_true rfl, Nat.le_of_ble_eq_true rfl, Nat.le_of_ble_eq_true rfl, Nat.le_of_ble_eq_true rfl⟩ (Nat.le_of_ble_eq_true rfl) rfl rfl rfl rfl ?_
      refine zi_aload_n 0 d_Ps_readNumberOf_52 rfl ?_
      refine zo_getR 56 zkd_5 1 d_Ps_readNumberOf_53 eb_3 rfl tw_217 rfl ?_
      obtain ⟨q_13, eq_13, h⟩ := zbind h
      refine zo_virt (k' := 0) (n' := 0) 59 [] [] [] zkd_8 (zck_s eu_5) (C_Ta_advance n E S b_3 q_12 q_13 eq_13) d_Ps_readNumberOf_56 tw_575 tw_655 tw_573 tw_574 tw_5 dd_Ta_advance ⟨Nat.le_of_ble_eq_true rfl, Nat.le_of_ble_eq_true rfl, Nat.le_of_ble_eq_true rfl, Nat.le_of_ble_eq_true rfl⟩ (Nat.le_of_ble_eq_true rfl) rfl rfl rfl rfl ?_
      refine zi_iconst 1 d_Ps_readNumberOf_59 rfl ?_
      cases h
      exact zo_retB d_Ps_readNumberOf_60 (Nat.le_of_ble_eq_true rfl) (Nat.le_of_ble_eq_true rfl) rfl
    · rw [if_neg c_7] at h
      refine zi_iconst 0 d_Ps_readNumberOf_30 rfl ?_
      cases h
      exact zo_retB d_Ps_readNumberOf_31 (Nat.le_of_ble_eq_true rfl) (Nat.le_of_ble_eq_true rfl) rfl
theorem C_Ps_readNumberOf (n : Nat) (E : zE) (S : zS) (a0 : Nat) (x1 : Int32) (M : zH) (r : Bool) (M' : zH) (h : F_Ps_readNumberOf n E S a0 x1 M = some (r, M')) : zC E Y_Ps_readNumberOf [.ref a0, .int x1] S M (some (.int (bI r)), S, M') :=
  zC.of (Or.inl (show plainName "NightColander$Parser" = true by decide)) (Nat.le_of_ble_eq_true rfl) (bI_nar r) (K_Ps_readNumberOf n E S a0 x1 M r M' h)
theorem d_Ta_atSign_0 : decode (yB Y_Ta_atSign) 0 = .ok (.aload_n 0, 1) := by decide +kernel
theorem d_Ta_atSign_1 : decode (yB Y_Ta_atSign) 1 = .ok (.getfield 19, 3) := by decide +kernel
theorem d_Ta_atSign_4 : decode (yB Y_Ta_atSign) 4 = .ok (.iconst 3, 1) := by decide +kernel
theorem d_Ta_atSign_5 : decode (yB Y_Ta_atSign) 5 = .ok (.if_icmp .ne 19, 3) := by decide +kernel
theorem d_Ta_atSign_8 : decode (yB Y_Ta_atSign) 8 = .ok (.aload_n 0, 1) := by decide +kernel
theorem d_Ta_atSign_9 : decode (yB Y_Ta_atSign) 9 = .ok (.aload_n 0, 1) := by decide +kernel
theorem d_Ta_atSign_10 : decode (yB Y_Ta_atSign) 10 = .ok (.getfield 22, 3) := by decide +kernel
theorem d_Ta_atSign_13 : decode (yB Y_Ta_atSign) 13 = .ok (.invokevirtual 34, 3) := by decide +kernel
theorem d_Ta_atSign_16 : decode (yB Y_Ta_atSign) 16 = .ok (.iload_n 1, 1) := by decide +kernel
theorem d_Ta_atSign_17 : decode (yB Y_Ta_atSign) 17 = .ok (.if_icmp .ne 7, 3) := by decide +kernel
theorem d_Ta_atSign_20 : decode (yB Y_Ta_atSign) 20 = .ok (.iconst 1, 1) := by decide +kernel
theorem d_Ta_atSign_21 : decode (yB Y_Ta_atSign) 21 = .ok (.goto 4, 3) := by decide +kernel
theorem d_Ta_atSign_24 : decode (yB Y_Ta_atSign) 24 = .ok (.iconst 0, 1) := by decide +kernel
theorem d_Ta_atSign_25 : decode (yB Y_Ta_atSign) 25 = .ok (.ireturn, 1) := by decide +kernel
def F_Ta_atSign (n : Nat) (E : zE) (S : zS) (a0 : Nat) (x1 : Int32) (M : zH) : Option (Bool × zH) :=
  (zgI S M a0 8 2).bind fun v_1 =>
  if v_1 = 3 then
    (zgI S M a0 8 3).bind fun v_3 =>
    (F_Ta_byteAt n E S a0 v_3 M).bind fun q_4 =>
    if q_4.1 = x1 then
      some (true, q_4.2)
    else
      some (false, q_4.2)
  else
    some (false, M)
theorem K_Ta_atSign (n : Nat) (E : zE) (S : zS) (a0 : Nat) (x1 : Int32) (M : zH) (r : Bool) (M' : zH)  (h : F_Ta_atSign n E S a0 x1 M = some (r, M')) : zG E Y_Ta_atSign (some (.int (bI r)), S, M') 0 [(0, .ref a0), (1, .int x1)] [] S M 0 0 := by
  unfold F_Ta_atSign at h
  refine zi_aload_n 0 d_Ta_atSign_0 rfl ?_
  obtain ⟨v_1, ev_1, h⟩ := zbind h
  refine zo_getI 4 zkd_8 2 d_Ta_atSign_1 ev_1 rfl tw_155 rfl ?_
  refine zi_iconst 3 d_Ta_atSign_4 rfl ?_
  refine zi_icmp_ne (tgt := 24) d_Ta_atSign_5 rfl (fun c_2 => ?_) (fun c_2 => ?_)
  · rw [if_neg c_2] at h
    refine zi_iconst 0 d_Ta_atSign_24 rfl ?_
    cases h
    exact zo_retB d_Ta_atSign_25 (Nat.le_of_ble_eq_true rfl) (Nat.le_of_ble_eq_true rfl) rfl
  · rw [if_pos c_2] at h
    refine zi_aload_n 0 d_Ta_atSign_8 rfl ?_
    refine zi_aload_n 0 d_Ta_atSign_9 rfl ?_
    obtain ⟨v_3, ev_3, h⟩ := zbind h
    refine zo_getI 13 zkd_8 3 d_Ta_atSign_10 ev_3 rfl tw_156 rfl ?_
    obtain ⟨q_4, eq_4, h⟩ := zbind h
    refine zo_virt (k' := 0) (n' := 0) 16 [.int v_3] [] [.int q_4.1] zkd_8 (zgI_s ev_1).1 (C_Ta_byteAt n E S a0 v_3 M q_4.1 q_4.2 eq_4) d_Ta_atSign_13 tw_551 tw_576 tw_549 tw_550 tw_5 dd_Ta_byteAt ⟨Nat.le_of_ble_eq_true rfl, Nat.le_of_ble_eq_true rfl, Nat.le_of_ble_eq_true rfl, Nat.le_of_ble_eq_true rfl⟩ (Nat.le_of_ble_eq_true rfl) rfl rfl rfl rfl ?_
    refine zi_iload_n 1 d_Ta_atSign_16 rfl ?_
    refine zi_icmp_ne (tgt := 24) d_Ta_atSign_17 rfl (fun c_5 => ?_) (fun c_5 => ?_)
    · rw [if_neg c_5] at h
      refine zi_iconst 0 d_Ta_atSign_24 rfl ?_
      cases h
      exact zo_retB d_Ta_atSign_25 (Nat.le_of_ble_eq_true rfl) (Nat.le_of_ble_eq_true rfl) rfl
    · rw [if_pos c_5] at h
      refine zi_iconst 1 d_Ta_atSign_20 rfl ?_
      refine zi_goto (tgt := 25) d_Ta_atSign_21 rfl ?_
      cases h
      exact zo_retB d_Ta_atSign_25 (Nat.le_of_ble_eq_true rfl) (Nat.le_of_ble_eq_true rfl) rfl
theorem C_Ta_atSign (n : Nat) (E : zE) (S : zS) (a0 : Nat) (x1 : Int32) (M : zH) (r : Bool) (M' : zH) (h : F_Ta_atSign n E S a0 x1 M = some (r, M')) : zC E Y_Ta_atSign [.ref a0, .int x1] S M (some (.int (bI r)), S, M') :=
  zC.of (Or.inl (show plainName "NightColander$Tape" = true by decide)) (Nat.le_of_ble_eq_true rfl) (bI_nar r) (K_Ta_atSign n E S a0 x1 M r M' h)
theorem d_Ps_readSumInBrackets_0 : decode prog_7_method_15_code 0 = .ok (.iload_n 1, 1) := by decide +kernel
theorem d_Ps_readSumInBrackets_1 : decode prog_7_method_15_code 1 = .ok (.bipush 8, 2) := by decide +kernel
theorem d_Ps_readSumInBrackets_3 : decode prog_7_method_15_code 3 = .ok (.if_icmp .lt 5, 3) := by decide +kernel
theorem d_Ps_readSumInBrackets_6 : decode prog_7_method_15_code 6 = .ok (.iconst 0, 1) := by decide +kernel
theorem d_Ps_readSumInBrackets_7 : decode prog_7_method_15_code 7 = .ok (.ireturn, 1) := by decide +kernel
theorem d_Ps_readSumInBrackets_8 : decode prog_7_method_15_code 8 = .ok (.aload_n 0, 1) := by decide +kernel
theorem d_Ps_readSumInBrackets_9 : decode prog_7_method_15_code 9 = .ok (.getfield 26, 3) := by decide +kernel
theorem d_Ps_readSumInBrackets_12 : decode prog_7_method_15_code 12 = .ok (.invokevirtual 53, 3) := by decide +kernel
theorem d_Ps_readSumInBrackets_15 : decode prog_7_method_15_code 15 = .ok (.aload_n 0, 1) := by decide +kernel
theorem d_Ps_readSumInBrackets_16 : decode prog_7_method_15_code 16 = .ok (.iload_n 1, 1) := by decide +kernel
theorem d_Ps_readSumInBrackets_17 : decode prog_7_method_15_code 17 = .ok (.iconst 1, 1) := by decide +kernel
theorem d_Ps_readSumInBrackets_18 : decode prog_7_method_15_code 18 = .ok (.iadd, 1) := by decide +kernel
theorem d_Ps_readSumInBrackets_19 : decode prog_7_method_15_code 19 = .ok (.invokevirtual 87, 3) := by decide +kernel
theorem d_Ps_readSumInBrackets_22 : decode prog_7_method_15_code 22 = .ok (.ifCond .eq 15, 3) := by decide +kernel
theorem d_Ps_readSumInBrackets_25 : decode prog_7_method_15_code 25 = .ok (.aload_n 0, 1) := by decide +kernel
theorem d_Ps_readSumInBrackets_26 : decode prog_7_method_15_code 26 = .ok (.getfield 26, 3) := by decide +kernel
theorem d_Ps_readSumInBrackets_29 : decode prog_7_method_15_code 29 = .ok (.bipush 93, 2) := by decide +kernel
theorem d_Ps_readSumInBrackets_31 : decode prog_7_method_15_code 31 = .ok (.invokevirtual 49, 3) := by decide +kernel
theorem d_Ps_readSumInBrackets_34 : decode prog_7_method_15_code 34 = .ok (.ifCond .ne 5, 3) := by decide +kernel
theorem d_Ps_readSumInBrackets_37 : decode prog_7_method_15_code 37 = .ok (.iconst 0, 1) := by decide +kernel
theorem d_Ps_readSumInBrackets_38 : decode prog_7_method_15_code 38 = .ok (.ireturn, 1) := by decide +kernel
theorem d_Ps_readSumInBrackets_39 : decode prog_7_method_15_code 39 = .ok (.aload_n 0, 1) := by decide +kernel
theorem d_Ps_readSumInBrackets_40 : decode prog_7_method_15_code 40 = .ok (.getfield 26, 3) := by decide +kernel
theorem d_Ps_readSumInBrackets_43 : decode prog_7_method_15_code 43 = .ok (.invokevirtual 53, 3) := by decide +kernel
theorem d_Ps_readSumInBrackets_46 : decode prog_7_method_15_code 46 = .ok (.iconst 1, 1) := by decide +kernel
theorem d_Ps_readSumInBrackets_47 : decode prog_7_method_15_code 47 = .ok (.ireturn, 1) := by decide +kernel
def F_Ps_readSumInBrackets (n : Nat) (E : zE) (S : zS) (rc : Nat × Int32 × zH → Option (Bool × zH)) (a0 : Nat) (x1 : Int32) (M : zH) : Option (Bool × zH) :=
  if x1 < 8 then
    (zgR S a0 5 1).bind fun b_2 =>
    (zck S b_2 8).bind fun u_3 =>
    (F_Ta_advance n E S b_2 M).bind fun q_4 =>
    (rc (a0, (x1 + 1), q_4)).bind fun q_5 =>
    if q_5.1 = true then
      (F_Ta_atSign n E S b_2 93 q_5.2).bind fun q_7 =>
      if q_7.1 = true then
        (F_Ta_advance n E S b_2 q_7.2).bind fun q_9 =>
        some (true, q_9)
      else
        some (false, q_7.2)
    else
      some (false, q_5.2)
  else
    some (false, M)
theorem K_Ps_readSumInBrackets (d : Nat) (n : Nat) (E : zE) (S : zS) (rc : Nat × Int32 × zH → Option (Bool × zH)) (a0 : Nat) (x1 : Int32) (M : zH) (r : Bool) (M' : zH) (hrc : ∀ (p0 : Nat) (p1 : Int32) (M : zH) (r : Bool) (M' : zH), rc (p0, p1, M) = some (r, M') → zC E (Y_Ps_readSum d) [.ref p0, .int p1] S M (some (.int (bI r)), S, M'))  (h : F_Ps_readSumInBrackets n E S rc a0 x1 M = some (r, M')) : zG E (Y_Ps_readSumInBrackets (d + 1)) (some (.int (bI r)), S, M') 0 [(0, .ref a0), (1, .int x1)] [] S M 0 0 := by
  unfold F_Ps_readSumInBrackets at h
  refine zi_iload_n 1 d_Ps_readSumInBrackets_0 rfl ?_
  refine zi_bipush 8 d_Ps_readSumInBrackets_1 rfl ?_
  refine zi_icmp_lt (tgt := 8) d_Ps_readSumInBrackets_3 rfl (fun c_1 => ?_) (fun c_1 => ?_)
  · rw [if_pos c_1] at h
    refine zi_aload_n 0 d_Ps_readSumInBrackets_8 rfl ?_
    obtain ⟨b_2, eb_2, h⟩ := zbind h
    refine zo_getR 12 zkd_5 1 d_Ps_readSumInBrackets_9 eb_2 rfl tw_217 rfl ?_
    obtain ⟨u_3, eu_3, h⟩ := zbind h
    obtain ⟨q_4, eq_4, h⟩ := zbind h
    refine zo_virt (k' := 0) (n' := 0) 15 [] [] [] zkd_8 (zck_s eu_3) (C_Ta_advance n E S b_2 M q_4 eq_4) d_Ps_readSumInBrackets_12 tw_575 tw_655 tw_573 tw_574 tw_5 dd_Ta_advance (by refine ⟨?_, ?_, ?_, ?_⟩ <;> simp only [yH, yL, yC, yS, Y_Ps_readSumInBrackets, Y_Ta_advance] <;> omega) (Nat.le_of_ble_eq_true rfl) rfl rfl rfl rfl ?_
    refine zi_aload_n 0 d_Ps_readSumInBrackets_15 rfl ?_
    refine zi_iload_n 1 d_Ps_readSumInBrackets_16 rfl ?_
    refine zi_iconst 1 d_Ps_readSumInBrackets_17 rfl ?_
    refine zi_iadd d_Ps_readSumInBrackets_18 ?_
    obtain ⟨q_5, eq_5, h⟩ := zbind h
    refine zo_virt (k' := 0) (n' := 0) 22 [.int (x1 + 1)] [] [.int (bI q_5.1)] zkd_5 (zgR_s eb_2).1 (hrc a0 (x1 + 1) q_4 q_5.1 q_5.2 eq_5) d_Ps_readSumInBrackets_19 tw_669 tw_666 tw_668 ts_10 tw_6 dd_Ps_readSum (by refine ⟨?_, ?_, ?_, ?_⟩ <;> simp only [yH, yL, yC, yS, Y_Ps_readSumInBrackets, Y_Ps_readSum] <;> omega) (Nat.le_of_ble_eq_true rfl) rfl rfl rfl rfl ?_
    refine zo_ifeqB d_Ps_readSumInBrackets_22 rfl 25 rfl (fun c_6 => ?_) (fun c_6 => ?_)
    · rw [if_neg c_6] at h
      refine zi_iconst 0 d_Ps_readSumInBrackets_37 rfl ?_
      cases h
      exact zo_retB d_Ps_readSumInBrackets_38 (Nat.le_of_ble_eq_true rfl) (Nat.le_of_ble_eq_true rfl) rfl
    · rw [if_pos c_6] at h
      refine zi_aload_n 0 d_Ps_readSumInBrackets_25 rfl ?_
      refine zo_getR 29 zkd_5 1 d_Ps_readSumInBrackets_26 eb_2 rfl tw_217 rfl ?_
      refine zi_bipush 93 d_Ps_readSumInBrackets_29 rfl ?_
      obtain ⟨q_7, eq_7, h⟩ := zbind h
      refine zo_virt (k' := 0) (n' := 0) 34 [.int 93] [] [.int (bI q_7.1)] zkd_8 (zck_s eu_3) (C_Ta_atSign n E S b_2 93 q_5.2 q_7.1 q_7.2 eq_7) d_Ps_readSumInBrackets_31 tw_681 tw_678 tw_679 tw_680 tw_5 dd_Ta_atSign (by refine ⟨?_, ?_, ?_, ?_⟩ <;> simp only [yH, yL, yC, yS, Y_Ps_readSumInBrackets, Y_Ta_atSign] <;> omega) (Nat.le_of_ble_eq_true rfl) rfl rfl rfl rfl ?_
      refine zo_ifneB d_Ps_readSumInBrackets_34 rfl 37 rfl (fun c_8 => ?_) (fun c_8 => ?_)
      · rw [if_pos c_8] at h
        refine zi_aload_n 0 d_Ps_readSumInBrackets_39 rfl ?_
        refine zo_getR 43 zkd_5 1 d_Ps_readSumInBrackets_40 eb_2 rfl tw_217 rfl ?_
        obtain ⟨q_9, eq_9, h⟩ := zbind h
        refine zo_virt (k' := 0) (n' := 0) 46 [] [] [] zkd_8 (zck_s eu_3) (C_Ta_advance n E S b_2 q_7.2 q_9 eq_9) d_Ps_readSumInBrackets_43 tw_575 tw_655 tw_573 tw_574 tw_5 dd_Ta_advance (by refine ⟨?_, ?_, ?_, ?_⟩ <;> simp only [yH, yL, yC, yS, Y_Ps_readSumInBrackets, Y_Ta_advance] <;> omega) (Nat.le_of_ble_eq_true rfl) rfl rfl rfl rfl ?_
        refine zi_iconst 1 d_Ps_readSumInBrackets_46 rfl ?_
        cases h
        exact zo_retB d_Ps_readSumInBrackets_47 (Nat.le_of_ble_eq_true rfl) (Nat.le_of_ble_eq_true rfl) rfl
      · rw [if_neg c_8] at h
        refine zi_iconst 0 d_Ps_readSumInBrackets_37 rfl ?_
        cases h
        exact zo_retB d_Ps_readSumInBrackets_38 (Nat.le_of_ble_eq_true rfl) (Nat.le_of_ble_eq_true rfl) rfl
  · rw [if_neg c_1] at h
    refine zi_iconst 0 d_Ps_readSumInBrackets_6 rfl ?_
    cases h
    exact zo_retB d_Ps_readSumInBrackets_7 (Nat.le_of_ble_eq_true rfl) (Nat.le_of_ble_eq_true rfl) rfl
theorem C_Ps_readSumInBrackets (d : Nat) (n : Nat) (E : zE) (S : zS) (rc : Nat × Int32 × zH → Option (Bool × zH)) (a0 : Nat) (x1 : Int32) (M : zH) (r : Bool) (M' : zH) (hrc : ∀ (p0 : Nat) (p1 : Int32) (M : zH) (r : Bool) (M' : zH), rc (p0, p1, M) = some (r, M') → zC E (Y_Ps_readSum d) [.ref p0, .int p1] S M (some (.int (bI r)), S, M')) (h : F_Ps_readSumInBrackets n E S rc a0 x1 M = some (r, M')) : zC E (Y_Ps_readSumInBrackets (d + 1)) [.ref a0, .int x1] S M (some (.int (bI r)), S, M') :=
  zC.of (Or.inl (show plainName "NightColander$Parser" = true by decide)) (Nat.le_of_ble_eq_true rfl) (bI_nar r) (K_Ps_readSumInBrackets d n E S rc a0 x1 M r M' hrc h)
theorem d_Js_isLatin1_0 : decode (yB Y_Js_isLatin1) 0 = .ok (.getstatic 38, 3) := by decide +kernel
theorem d_Js_isLatin1_3 : decode (yB Y_Js_isLatin1) 3 = .ok (.ifCond .eq 14, 3) := by decide +kernel
theorem d_Js_isLatin1_6 : decode (yB Y_Js_isLatin1) 6 = .ok (.aload_n 0, 1) := by decide +kernel
theorem d_Js_isLatin1_7 : decode (yB Y_Js_isLatin1) 7 = .ok (.getfield 15, 3) := by decide +kernel
theorem d_Js_isLatin1_10 : decode (yB Y_Js_isLatin1) 10 = .ok (.ifCond .ne 7, 3) := by decide +kernel
theorem d_Js_isLatin1_13 : decode (yB Y_Js_isLatin1) 13 = .ok (.iconst 1, 1) := by decide +kernel
theorem d_Js_isLatin1_14 : decode (yB Y_Js_isLatin1) 14 = .ok (.goto 4, 3) := by decide +kernel
theorem d_Js_isLatin1_17 : decode (yB Y_Js_isLatin1) 17 = .ok (.iconst 0, 1) := by decide +kernel
theorem d_Js_isLatin1_18 : decode (yB Y_Js_isLatin1) 18 = .ok (.ireturn, 1) := by decide +kernel
def F_Js_isLatin1 (n : Nat) (E : zE) (S : zS) (i0 : Nat) (M : zH) : Option (Bool × zH) :=
  if (1 : Int32) = 0 then
    some (false, M)
  else
    (zli i0).bind fun u_2 =>
    if (0 : Int32) = 0 then
      some (true, M)
    else
      some (false, M)
theorem K_Js_isLatin1 (n : Nat) (E : zE) (S : zS) (i0 : Nat) (M : zH) (r : Bool) (M' : zH)  (h : F_Js_isLatin1 n E S i0 M = some (r, M')) : zG E Y_Js_isLatin1 (some (.int (bI r)), S, M') 0 [(0, .ref (eK E i0))] [] S M 0 0 := by
  unfold F_Js_isLatin1 at h
  refine zo_gets (v := .int 1) 3 d_Js_isLatin1_0 (zstc E) tw_602 rfl ?_
  refine zi_if_eq (tgt := 17) d_Js_isLatin1_3 rfl (fun c_1 => ?_) (fun c_1 => ?_)
  · rw [if_pos c_1] at h
    refine zi_iconst 0 d_Js_isLatin1_17 rfl ?_
    cases h
    exact zo_retB d_Js_isLatin1_18 (Nat.le_of_ble_eq_true rfl) (Nat.le_of_ble_eq_true rfl) rfl
  · rw [if_neg c_1] at h
    refine zi_aload_n 0 d_Js_isLatin1_6 rfl ?_
    obtain ⟨u_2, eu_2, h⟩ := zbind h
    refine zo_litf 10 d_Js_isLatin1_7 (zlitC E (zli_s eu_2)) tw_1914 rfl ?_
    refine zi_if_ne (tgt := 17) d_Js_isLatin1_10 rfl (fun c_3 => ?_) (fun c_3 => ?_)
    · rw [if_neg c_3] at h
      refine zi_iconst 0 d_Js_isLatin1_17 rfl ?_
      cases h
      exact zo_retB d_Js_isLatin1_18 (Nat.le_of_ble_eq_true rfl) (Nat.le_of_ble_eq_true rfl) rfl
    · rw [if_pos c_3] at h
      refine zi_iconst 1 d_Js_isLatin1_13 rfl ?_
      refine zi_goto (tgt := 18) d_Js_isLatin1_14 rfl ?_
      cases h
      exact zo_retB d_Js_isLatin1_18 (Nat.le_of_ble_eq_true rfl) (Nat.le_of_ble_eq_true rfl) rfl
theorem C_Js_isLatin1 (n : Nat) (E : zE) (S : zS) (i0 : Nat) (M : zH) (r : Bool) (M' : zH) (h : F_Js_isLatin1 n E S i0 M = some (r, M')) : zC E Y_Js_isLatin1 [.ref (eK E i0)] S M (some (.int (bI r)), S, M') :=
  zC.of (Or.inl (show plainName "java/lang/String" = true by decide)) (Nat.le_of_ble_eq_true rfl) (bI_nar r) (K_Js_isLatin1 n E S i0 M r M' h)
theorem d_Jp_checkIndex_0 : decode (yB Y_Jp_checkIndex) 0 = .ok (.iload_n 0, 1) := by decide +kernel
theorem d_Jp_checkIndex_1 : decode (yB Y_Jp_checkIndex) 1 = .ok (.ifCond .lt 8, 3) := by decide +kernel
theorem d_Jp_checkIndex_4 : decode (yB Y_Jp_checkIndex) 4 = .ok (.iload_n 0, 1) := by decide +kernel
theorem d_Jp_checkIndex_5 : decode (yB Y_Jp_checkIndex) 5 = .ok (.iload_n 1, 1) := by decide +kernel
theorem d_Jp_checkIndex_6 : decode (yB Y_Jp_checkIndex) 6 = .ok (.if_icmp .lt 10, 3) := by decide +kernel
theorem d_Jp_checkIndex_16 : decode (yB Y_Jp_checkIndex) 16 = .ok (.iload_n 0, 1) := by decide +kernel
theorem d_Jp_checkIndex_17 : decode (yB Y_Jp_checkIndex) 17 = .ok (.ireturn, 1) := by decide +kernel
def F_Jp_checkIndex_b9 (n : Nat) (E : zE) (S : zS) (w2 : Unit) (M : zH) : Option (Int32 × zH) :=
  none
def F_Jp_checkIndex (n : Nat) (E : zE) (S : zS) (x0 : Int32) (x1 : Int32) (w2 : Unit) (M : zH) : Option (Int32 × zH) :=
  if x0 < 0 then
    none
  else
    if x0 < x1 then
      some (x0, M)
    else
      none
theorem K_Jp_checkIndex_b9 (n : Nat) (E : zE) (S : zS) (w2 : Unit) (M : zH) (r : Int32) (M' : zH)  (h : F_Jp_checkIndex_b9 n E S w2 M = some (r, M')) : zG E Y_Jp_checkIndex (some (.int r), S, M') 9 [(2, va_rf (eW E))] [] S M 0 0 := by
  unfold F_Jp_checkIndex_b9 at h
  cases h
theorem K_Jp_checkIndex (n : Nat) (E : zE) (S : zS) (x0 : Int32) (x1 : Int32) (w2 : Unit) (M : zH) (r : Int32) (M' : zH)  (h : F_Jp_checkIndex n E S x0 x1 w2 M = some (r, M')) : zG E Y_Jp_checkIndex (some (.int r), S, M') 0 [(0, .int x0), (1, .int x1), (2, va_rf (eW E))] [] S M 0 0 := by
  unfold F_Jp_checkIndex at h
  refine zi_iload_n 0 d_Jp_checkIndex_0 rfl ?_
  refine zi_if_lt (tgt := 9) d_Jp_checkIndex_1 rfl (fun c_1 => ?_) (fun c_1 => ?_)
  · rw [if_pos c_1] at h
    cases h
  · rw [if_neg c_1] at h
    refine zi_iload_n 0 d_Jp_checkIndex_4 rfl ?_
    refine zi_iload_n 1 d_Jp_checkIndex_5 rfl ?_
    refine zi_icmp_lt (tgt := 16) d_Jp_checkIndex_6 rfl (fun c_2 => ?_) (fun c_2 => ?_)
    · rw [if_pos c_2] at h
      refine zi_iload_n 0 d_Jp_checkIndex_16 rfl ?_
      cases h
      exact zo_ret d_Jp_checkIndex_17 (Nat.le_of_ble_eq_true rfl) (Nat.le_of_ble_eq_true rfl) rfl
    · rw [if_neg c_2] at h
      cases h
theorem C_Jp_checkIndex (n : Nat) (E : zE) (S : zS) (x0 : Int32) (x1 : Int32) (w2 : Unit) (M : zH) (r : Int32) (M' : zH) (h : F_Jp_checkIndex n E S x0 x1 w2 M = some (r, M')) : zC E Y_Jp_checkIndex [.int x0, .int x1, va_rf (eW E)] S M (some (.int r), S, M') :=
  zC.of (Or.inl (show plainName "jdk/internal/util/Preconditions" = true by decide)) (by generalize eW E = w; cases w <;> exact Nat.le_of_ble_eq_true rfl) (trivial) (K_Jp_checkIndex n E S x0 x1 w2 M r M' h)
theorem d_Js_checkIndex_0 : decode (yB Y_Js_checkIndex) 0 = .ok (.iload_n 0, 1) := by decide +kernel
theorem d_Js_checkIndex_1 : decode (yB Y_Js_checkIndex) 1 = .ok (.iload_n 1, 1) := by decide +kernel
theorem d_Js_checkIndex_2 : decode (yB Y_Js_checkIndex) 2 = .ok (.getstatic 1053, 3) := by decide +kernel
theorem d_Js_checkIndex_5 : decode (yB Y_Js_checkIndex) 5 = .ok (.invokestatic 1059, 3) := by decide +kernel
theorem d_Js_checkIndex_8 : decode (yB Y_Js_checkIndex) 8 = .ok (.pop, 1) := by decide +kernel
theorem d_Js_checkIndex_9 : decode (yB Y_Js_checkIndex) 9 = .ok (.return_, 1) := by decide +kernel
def F_Js_checkIndex (n : Nat) (E : zE) (S : zS) (x0 : Int32) (x1 : Int32) (M : zH) : Option (zH) :=
  (F_Jp_checkIndex n E S x0 x1 () M).bind fun q_1 =>
  some (q_1.2)
theorem K_Js_checkIndex (n : Nat) (E : zE) (S : zS) (x0 : Int32) (x1 : Int32) (M : zH) (M' : zH)  (h : F_Js_checkIndex n E S x0 x1 M = some M') : zG E Y_Js_checkIndex (none, S, M') 0 [(0, .int x0), (1, .int x1)] [] S M 0 0 := by
  unfold F_Js_checkIndex at h
  refine zi_iload_n 0 d_Js_checkIndex_0 rfl ?_
  refine zi_iload_n 1 d_Js_checkIndex_1 rfl ?_
  refine zo_gets (v := va_rf (eW E)) 5 d_Js_checkIndex_2 (zstw E) tw_618 rfl ?_
  obtain ⟨q_1, eq_1, h⟩ := zbind h
  refine zo_stat (k' := 0) (n' := 0) 8 [.int x0, .int x1, va_rf (eW E)] [] [.int q_1.1] (C_Jp_checkIndex n E S x0 x1 () M q_1.1 q_1.2 eq_1) d_Js_checkIndex_5 tw_622 tw_620 tw_621 tw_17 dd_Jp_checkIndex ⟨Nat.le_of_ble_eq_true rfl, Nat.le_of_ble_eq_true rfl, Nat.le_of_ble_eq_true rfl, Nat.le_of_ble_eq_true rfl⟩ (Nat.le_of_ble_eq_true rfl) rfl rfl rfl rfl ?_
  refine zi_pop d_Js_checkIndex_8 rfl ?_
  cases h
  exact zo_ret d_Js_checkIndex_9 (Nat.le_of_ble_eq_true rfl) (Nat.le_of_ble_eq_true rfl) rfl
theorem C_Js_checkIndex (n : Nat) (E : zE) (S : zS) (x0 : Int32) (x1 : Int32) (M : zH) (M' : zH) (h : F_Js_checkIndex n E S x0 x1 M = some M') : zC E Y_Js_checkIndex [.int x0, .int x1] S M (none, S, M') :=
  zC.of (Or.inl (show plainName "java/lang/String" = true by decide)) (Nat.le_of_ble_eq_true rfl) (trivial) (K_Js_checkIndex n E S x0 x1 M M' h)
theorem d_Jl_charAt_0 : decode (yB Y_Jl_charAt) 0 = .ok (.iload_n 1, 1) := by decide +kernel
theorem d_Jl_charAt_1 : decode (yB Y_Jl_charAt) 1 = .ok (.aload_n 0, 1) := by decide +kernel
theorem d_Jl_charAt_2 : decode (yB Y_Jl_charAt) 2 = .ok (.arraylength, 1) := by decide +kernel
theorem d_Jl_charAt_3 : decode (yB Y_Jl_charAt) 3 = .ok (.invokestatic 9, 3) := by decide +kernel
theorem d_Jl_charAt_6 : decode (yB Y_Jl_charAt) 6 = .ok (.aload_n 0, 1) := by decide +kernel
theorem d_Jl_charAt_7 : decode (yB Y_Jl_charAt) 7 = .ok (.iload_n 1, 1) := by decide +kernel
theorem d_Jl_charAt_8 : decode (yB Y_Jl_charAt) 8 = .ok (.baload, 1) := by decide +kernel
theorem d_Jl_charAt_9 : decode (yB Y_Jl_charAt) 9 = .ok (.sipush 255, 3) := by decide +kernel
theorem d_Jl_charAt_12 : decode (yB Y_Jl_charAt) 12 = .ok (.iand, 1) := by decide +kernel
theorem d_Jl_charAt_13 : decode (yB Y_Jl_charAt) 13 = .ok (.i2c, 1) := by decide +kernel
theorem d_Jl_charAt_14 : decode (yB Y_Jl_charAt) 14 = .ok (.ireturn, 1) := by decide +kernel
def F_Jl_charAt_i (n : Nat) (E : zE) (S : zS) (i0 : Nat) (x1 : Int32) (M : zH) : Option (Int32 × zH) :=
  (zln i0).bind fun v_1 =>
  (F_Js_checkIndex n E S x1 v_1 M).bind fun q_2 =>
  (zlb i0 x1).bind fun v_3 =>
  some (((v_3 &&& (255 : Int32)).toUInt32 % 65536).toInt32, q_2)
def F_Jl_charAt (n : Nat) (E : zE) (S : zS) (i0 : Nat) (x1 : Int32) (M : zH) : Option (Int32 × zH) := (F_Jl_charAt_i n E S i0 x1 M).bind fun q => if (q.1.toUInt32 % 65536).toInt32 = q.1 then some q else none
theorem K_Jl_charAt_i (n : Nat) (E : zE) (S : zS) (i0 : Nat) (x1 : Int32) (M : zH) (r : Int32) (M' : zH)  (h : F_Jl_charAt_i n E S i0 x1 M = some (r, M')) : zG E Y_Jl_charAt (some (.int r), S, M') 0 [(0, .ref (eV E i0)), (1, .int x1)] [] S M 0 0 := by
  unfold F_Jl_charAt_i at h
  refine zi_iload_n 1 d_Jl_charAt_0 rfl ?_
  refine zi_aload_n 0 d_Jl_charAt_1 rfl ?_
  obtain ⟨v_1, ev_1, h⟩ := zbind h
  refine zo_litlen 3 d_Jl_charAt_2 ev_1 rfl ?_
  obtain ⟨q_2, eq_2, h⟩ := zbind h
  refine zo_stat (k' := 0) (n' := 0) 6 [.int x1, .int v_1] [] [] (C_Js_checkIndex n E S x1 v_1 M q_2 eq_2) d_Jl_charAt_3 tw_617 tw_615 tw_616 tw_15 dd_Js_checkIndex ⟨Nat.le_of_ble_eq_true rfl, Nat.le_of_ble_eq_true rfl, Nat.le_of_ble_eq_true rfl, Nat.le_of_ble_eq_true rfl⟩ (Nat.le_of_ble_eq_true rfl) rfl rfl rfl rfl ?_
  refine zi_aload_n 0 d_Jl_charAt_6 rfl ?_
  refine zi_iload_n 1 d_Jl_charAt_7 rfl ?_
  obtain ⟨v_3, ev_3, h⟩ := zbind h
  refine zo_litb 9 d_Jl_charAt_8 ev_3 rfl ?_
  refine zi_sipush 255 d_Jl_charAt_9 rfl ?_
  refine zi_iand d_Jl_charAt_12 ?_
  refine zi_i2c d_Jl_charAt_13 ?_
  cases h
  exact zo_ret d_Jl_charAt_14 (Nat.le_of_ble_eq_true rfl) (Nat.le_of_ble_eq_true rfl) rfl
theorem C_Jl_charAt (n : Nat) (E : zE) (S : zS) (i0 : Nat) (x1 : Int32) (M : zH) (r : Int32) (M' : zH) (h : F_Jl_charAt n E S i0 x1 M = some (r, M')) : zC E Y_Jl_charAt [.ref (eV E i0), .int x1] S M (some (.int r), S, M') := by
  unfold F_Jl_charAt at h
  obtain ⟨q, e, h⟩ := zbind h
  split at h
  case isFalse => cases h
  case isTrue c1 =>
    cases h
    exact zC.of (Or.inl (show plainName "java/lang/StringLatin1" = true by decide)) (Nat.le_of_ble_eq_true rfl) (by have h9 := pk_nc r; rw [c1] at h9; exact h9) (K_Jl_charAt_i n E S i0 x1 M r M' e)
theorem d_Js_charAt_0 : decode (yB Y_Js_charAt) 0 = .ok (.aload_n 0, 1) := by decide +kernel
theorem d_Js_charAt_1 : decode (yB Y_Js_charAt) 1 = .ok (.invokevirtual 492, 3) := by decide +kernel
theorem d_Js_charAt_4 : decode (yB Y_Js_charAt) 4 = .ok (.ifCond .eq 12, 3) := by decide +kernel
theorem d_Js_charAt_7 : decode (yB Y_Js_charAt) 7 = .ok (.aload_n 0, 1) := by decide +kernel
theorem d_Js_charAt_8 : decode (yB Y_Js_charAt) 8 = .ok (.getfield 9, 3) := by decide +kernel
theorem d_Js_charAt_11 : decode (yB Y_Js_charAt) 11 = .ok (.iload_n 1, 1) := by decide +kernel
theorem d_Js_charAt_12 : decode (yB Y_Js_charAt) 12 = .ok (.invokestatic 495, 3) := by decide +kernel
theorem d_Js_charAt_15 : decode (yB Y_Js_charAt) 15 = .ok (.ireturn, 1) := by decide +kernel
def F_Js_charAt_i (n : Nat) (E : zE) (S : zS) (i0 : Nat) (x1 : Int32) (M : zH) : Option (Int32 × zH) :=
  (zli i0).bind fun u_1 =>
  (F_Js_isLatin1 n E S i0 M).bind fun q_2 =>
  if q_2.1 = true then
    (zli i0).bind fun u_4 =>
    (F_Jl_charAt n E S i0 x1 q_2.2).bind fun q_5 =>
    some (q_5.1, q_5.2)
  else
    none
def F_Js_charAt (n : Nat) (E : zE) (S : zS) (i0 : Nat) (x1 : Int32) (M : zH) : Option (Int32 × zH) := (F_Js_charAt_i n E S i0 x1 M).bind fun q => if (q.1.toUInt32 % 65536).toInt32 = q.1 then some q else none
theorem K_Js_charAt_i (n : Nat) (E : zE) (S : zS) (i0 : Nat) (x1 : Int32) (M : zH) (r : Int32) (M' : zH)  (h : F_Js_charAt_i n E S i0 x1 M = some (r, M')) : zG E Y_Js_charAt (some (.int r), S, M') 0 [(0, .ref (eK E i0)), (1, .int x1)] [] S M 0 0 := by
  unfold F_Js_charAt_i at h
  refine zi_aload_n 0 d_Js_charAt_0 rfl ?_
  obtain ⟨u_1, eu_1, h⟩ := zbind h
  obtain ⟨q_2, eq_2, h⟩ := zbind h
  refine zo_virtS (k' := 0) (n' := 0) 4 [] [] [.int (bI q_2.1)] (zli_s eu_1) (C_Js_isLatin1 n E S i0 M q_2.1 q_2.2 eq_2) d_Js_charAt_1 tw_611 tw_608 tw_609 tw_610 tw_15 dd_Js_isLatin1 ⟨Nat.le_of_ble_eq_true rfl, Nat.le_of_ble_eq_true rfl, Nat.le_of_ble_eq_true rfl, Nat.le_of_ble_eq_true rfl⟩ (Nat.le_of_ble_eq_true rfl) rfl rfl rfl rfl ?_
  refine zo_ifeqB d_Js_charAt_4 rfl 7 rfl (fun c_3 => ?_) (fun c_3 => ?_)
  · rw [if_neg c_3] at h
    cases h
  · rw [if_pos c_3] at h
    refine zi_aload_n 0 d_Js_charAt_7 rfl ?_
    obtain ⟨u_4, eu_4, h⟩ := zbind h
    refine zo_litf 11 d_Js_charAt_8 (zlitV E (zli_s eu_4)) tw_1913 rfl ?_
    refine zi_iload_n 1 d_Js_charAt_11 rfl ?_
    obtain ⟨q_5, eq_5, h⟩ := zbind h
    refine zo_stat (k' := 0) (n' := 0) 15 [.ref (eV E i0), .int x1] [] [.int q_5.1] (C_Jl_charAt n E S i0 x1 q_2.2 q_5.1 q_5.2 eq_5) d_Js_charAt_12 tw_614 tw_612 tw_613 tw_16 dd_Jl_charAt ⟨Nat.le_of_ble_eq_true rfl, Nat.le_of_ble_eq_true rfl, Nat.le_of_ble_eq_true rfl, Nat.le_of_ble_eq_true rfl⟩ (Nat.le_of_ble_eq_true rfl) rfl rfl rfl rfl ?_
    cases h
    exact zo_ret d_Js_charAt_15 (Nat.le_of_ble_eq_true rfl) (Nat.le_of_ble_eq_true rfl) rfl
theorem C_Js_charAt (n : Nat) (E : zE) (S : zS) (i0 : Nat) (x1 : Int32) (M : zH) (r : Int32) (M' : zH) (h : F_Js_charAt n E S i0 x1 M = some (r, M')) : zC E Y_Js_charAt [.ref (eK E i0), .int x1] S M (some (.int r), S, M') := by
  unfold F_Js_charAt at h
  obtain ⟨q, e, h⟩ := zbind h
  split at h
  case isFalse => cases h
  case isTrue c1 =>
    cases h
    exact zC.of (Or.inl (show plainName "java/lang/String" = true by decide)) (Nat.le_of_ble_eq_true rfl) (by have h9 := pk_nc r; rw [c1] at h9; exact h9) (K_Js_charAt_i n E S i0 x1 M r M' e)
theorem d_Ta_isSame_0 : decode (yB Y_Ta_isSame) 0 = .ok (.iload_n 3, 1) := by decide +kernel
theorem d_Ta_isSame_1 : decode (yB Y_Ta_isSame) 1 = .ok (.iload_n 2, 1) := by decide +kernel
theorem d_Ta_isSame_2 : decode (yB Y_Ta_isSame) 2 = .ok (.isub, 1) := by decide +kernel
theorem d_Ta_isSame_3 : decode (yB Y_Ta_isSame) 3 = .ok (.aload_n 0, 1) := by decide +kernel
theorem d_Ta_isSame_4 : decode (yB Y_Ta_isSame) 4 = .ok (.getfield 25, 3) := by decide +kernel
theorem d_Ta_isSame_7 : decode (yB Y_Ta_isSame) 7 = .ok (.aload_n 0, 1) := by decide +kernel
theorem d_Ta_isSame_8 : decode (yB Y_Ta_isSame) 8 = .ok (.getfield 22, 3) := by decide +kernel
theorem d_Ta_isSame_11 : decode (yB Y_Ta_isSame) 11 = .ok (.isub, 1) := by decide +kernel
theorem d_Ta_isSame_12 : decode (yB Y_Ta_isSame) 12 = .ok (.if_icmp .eq 5, 3) := by decide +kernel
theorem d_Ta_isSame_15 : decode (yB Y_Ta_isSame) 15 = .ok (.iconst 0, 1) := by decide +kernel
theorem d_Ta_isSame_16 : decode (yB Y_Ta_isSame) 16 = .ok (.ireturn, 1) := by decide +kernel
theorem d_Ta_isSame_17 : decode (yB Y_Ta_isSame) 17 = .ok (.iload_n 2, 1) := by decide +kernel
theorem d_Ta_isSame_18 : decode (yB Y_Ta_isSame) 18 = .ok (.istore 4, 2) := by decide +kernel
theorem d_Ta_isSame_20 : decode (yB Y_Ta_isSame) 20 = .ok (.iload 4, 2) := by decide +kernel
theorem d_Ta_isSame_22 : decode (yB Y_Ta_isSame) 22 = .ok (.iload_n 3, 1) := by decide +kernel
theorem d_Ta_isSame_23 : decode (yB Y_Ta_isSame) 23 = .ok (.if_icmp .ge 33, 3) := by decide +kernel
theorem d_Ta_isSame_26 : decode (yB Y_Ta_isSame) 26 = .ok (.aload_n 1, 1) := by decide +kernel
theorem d_Ta_isSame_27 : decode (yB Y_Ta_isSame) 27 = .ok (.iload 4, 2) := by decide +kernel
theorem d_Ta_isSame_29 : decode (yB Y_Ta_isSame) 29 = .ok (.invokevirtual 64, 3) := by decide +kernel
theorem d_Ta_isSame_32 : decode (yB Y_Ta_isSame) 32 = .ok (.aload_n 0, 1) := by decide +kernel
theorem d_Ta_isSame_33 : decode (yB Y_Ta_isSame) 33 = .ok (.aload_n 0, 1) := by decide +kernel
theorem d_Ta_isSame_34 : decode (yB Y_Ta_isSame) 34 = .ok (.getfield 22, 3) := by decide +kernel
theorem d_Ta_isSame_37 : decode (yB Y_Ta_isSame) 37 = .ok (.iload 4, 2) := by decide +kernel
theorem d_Ta_isSame_39 : decode (yB Y_Ta_isSame) 39 = .ok (.iadd, 1) := by decide +kernel
theorem d_Ta_isSame_40 : decode (yB Y_Ta_isSame) 40 = .ok (.iload_n 2, 1) := by decide +kernel
theorem d_Ta_isSame_41 : decode (yB Y_Ta_isSame) 41 = .ok (.isub, 1) := by decide +kernel
theorem d_Ta_isSame_42 : decode (yB Y_Ta_isSame) 42 = .ok (.invokevirtual 34, 3) := by decide +kernel
theorem d_Ta_isSame_45 : decode (yB Y_Ta_isSame) 45 = .ok (.if_icmp .eq 5, 3) := by decide +kernel
theorem d_Ta_isSame_48 : decode (yB Y_Ta_isSame) 48 = .ok (.iconst 0, 1) := by decide +kernel
theorem d_Ta_isSame_49 : decode (yB Y_Ta_isSame) 49 = .ok (.ireturn, 1) := by decide +kernel
theorem d_Ta_isSame_50 : decode (yB Y_Ta_isSame) 50 = .ok (.iinc 4 1, 3) := by decide +kernel
theorem d_Ta_isSame_53 : decode (yB Y_Ta_isSame) 53 = .ok (.goto (-33), 3) := by decide +kernel
theorem d_Ta_isSame_56 : decode (yB Y_Ta_isSame) 56 = .ok (.iconst 1, 1) := by decide +kernel
theorem d_Ta_isSame_57 : decode (yB Y_Ta_isSame) 57 = .ok (.ireturn, 1) := by decide +kernel
def F_Ta_isSame_L20 (n : Nat) (E : zE) (S : zS) (r20 : Nat × Nat × Int32 × Int32 × Int32 × zH → Option (Bool × zH)) (a0 : Nat) (i1 : Nat) (x2 : Int32) (x3 : Int32) (x4 : Int32) (M : zH) : Option (Bool × zH) :=
  if x3 ≤ x4 then
    some (true, M)
  else
    (zli i1).bind fun u_2 =>
    (F_Js_charAt n E S i1 x4 M).bind fun q_3 =>
    (zgI S q_3.2 a0 8 3).bind fun v_4 =>
    (F_Ta_byteAt n E S a0 ((v_4 + x4) - x2) q_3.2).bind fun q_5 =>
    if q_3.1 = q_5.1 then
      r20 (a0, i1, x2, x3, x4 + 1, q_5.2)
    else
      some (false, q_5.2)
def F_Ta_isSame_b20 (n : Nat) (E : zE) (S : zS) : Nat × Nat × Int32 × Int32 × Int32 × zH → Option (Bool × zH) := zfix (fun r20 s => F_Ta_isSame_L20 n E S r20 s.1 s.2.1 s.2.2.1 s.2.2.2.1 s.2.2.2.2.1 s.2.2.2.2.2) n
def F_Ta_isSame (n : Nat) (E : zE) (S : zS) (a0 : Nat) (i1 : Nat) (x2 : Int32) (x3 : Int32) (M : zH) : Option (Bool × zH) :=
  (zgI S M a0 8 4).bind fun v_7 =>
  (zgI S M a0 8 3).bind fun v_8 =>
  if (x3 - x2) = (v_7 - v_8) then
    F_Ta_isSame_b20 n E S (a0, i1, x2, x3, x2, M)
  else
    some (false, M)
theorem K_Ta_isSame_L20 (n : Nat) (E : zE) (S : zS) (r20 : Nat × Nat × Int32 × Int32 × Int32 × zH → Option (Bool × zH)) (a0 : Nat) (i1 : Nat) (x2 : Int32) (x3 : Int32) (x4 : Int32) (M : zH) (r : Bool) (M' : zH) (hr20 : ∀ (a0 : Nat) (i1 : Nat) (x2 : Int32) (x3 : Int32) (x4 : Int32) (M : zH), r20 (a0, i1, x2, x3, x4, M) = some (r, M') → zG E Y_Ta_isSame (some (.int (bI r)), S, M') 20 [(0, .ref a0), (1, .ref (eK E i1)), (2, .int x2), (3, .int x3), (4, .int x4)] [] S M 0 0) (h : F_Ta_isSame_L20 n E S r20 a0 i1 x2 x3 x4 M = some (r, M')) : zG E Y_Ta_isSame (some (.int (bI r)), S, M') 20 [(0, .ref a0), (1, .ref (eK E i1)), (2, .int x2), (3, .int x3), (4, .int x4)] [] S M 0 0 := by
  unfold F_Ta_isSame_L20 at h
  refine zi_iload 4 d_Ta_isSame_20 rfl ?_
  refine zi_iload_n 3 d_Ta_isSame_22 rfl ?_
  refine zi_icmp_ge (tgt := 56) d_Ta_isSame_23 rfl (fun c_1 => ?_) (fun c_1 => ?_)
  · rw [if_pos c_1] at h
    refine zi_iconst 1 d_Ta_isSame_56 rfl ?_
    cases h
    exact zo_retB d_Ta_isSame_57 (Nat.le_of_ble_eq_true rfl) (Nat.le_of_ble_eq_true rfl) rfl
  · rw [if_neg c_1] at h
    refine zi_aload_n 1 d_Ta_isSame_26 rfl ?_
    refine zi_iload 4 d_Ta_isSame_27 rfl ?_
    obtain ⟨u_2, eu_2, h⟩ := zbind h
    obtain ⟨q_3, eq_3, h⟩ := zbind h
    refine zo_virtS (k' := 0) (n' := 0) 32 [.int x4] [] [.int q_3.1] (zli_s eu_2) (C_Js_charAt n E S i1 x4 M q_3.1 q_3.2 eq_3) d_Ta_isSame_29 tw_607 tw_604 tw_605 tw_606 tw_15 dd_Js_charAt ⟨Nat.le_of_ble_eq_true rfl, Nat.le_of_ble_eq_true rfl, Nat.le_of_ble_eq_true rfl, Nat.le_of_ble_eq_true rfl⟩ (Nat.le_of_ble_eq_true rfl) rfl rfl rfl rfl ?_
    refine zi_aload_n 0 d_Ta_isSame_32 rfl ?_
    refine zi_aload_n 0 d_Ta_isSame_33 rfl ?_
    obtain ⟨v_4, ev_4, h⟩ := zbind h
    refine zo_getI 37 zkd_8 3 d_Ta_isSame_34 ev_4 rfl tw_156 rfl ?_
    refine zi_iload 4 d_Ta_isSame_37 rfl ?_
    refine zi_iadd d_Ta_isSame_39 ?_
    refine zi_iload_n 2 d_Ta_isSame_40 rfl ?_
    refine zi_isub d_Ta_isSame_41 ?_
    obtain ⟨q_5, eq_5, h⟩ := zbind h
    refine zo_virt (k' := 0) (n' := 0) 45 [.int ((v_4 + x4) - x2)] [.int q_3.1] [.int q_5.1, .int q_3.1] zkd_8 (zgI_s ev_4).1 (C_Ta_byteAt n E S a0 ((v_4 + x4) - x2) q_3.2 q_5.1 q_5.2 eq_5) d_Ta_isSame_42 tw_551 tw_576 tw_549 tw_550 tw_5 dd_Ta_byteAt ⟨Nat.le_of_ble_eq_true rfl, Nat.le_of_ble_eq_true rfl, Nat.le_of_ble_eq_true rfl, Nat.le_of_ble_eq_true rfl⟩ (Nat.le_of_ble_eq_true rfl) rfl rfl rfl rfl ?_
    refine zi_icmp_eq (tgt := 50) d_Ta_isSame_45 rfl (fun c_6 => ?_) (fun c_6 => ?_)
    · rw [if_pos c_6] at h
      refine zi_iinc 4 (x4 + 1) [(4, .int (x4 + 1)), (0, .ref a0), (1, .ref (eK E i1)), (2, .int x2), (3, .int x3)] d_Ta_isSame_50 rfl rfl (by decide) rfl ?_
      refine zi_goto (tgt := 20) d_Ta_isSame_53 rfl ?_
      refine zi_lo [(0, .ref a0), (1, .ref (eK E i1)), (2, .int x2), (3, .int x3), (4, .int (x4 + 1))] [1, 2, 3, 4, 0] rfl ?_
      exact hr20 a0 i1 x2 x3 (x4 + 1) q_5.2 h
    · rw [if_neg c_6] at h
      refine zi_iconst 0 d_Ta_isSame_48 rfl ?_
      cases h
      exact zo_retB d_Ta_isSame_49 (Nat.le_of_ble_eq_true rfl) (Nat.le_of_ble_eq_true rfl) rfl
theorem K_Ta_isSame_b20 (n : Nat) (E : zE) (S : zS) (a0 : Nat) (i1 : Nat) (x2 : Int32) (x3 : Int32) (x4 : Int32) (M : zH) (r : Bool) (M' : zH)  (h : F_Ta_isSame_b20 n E S (a0, i1, x2, x3, x4, M) = some (r, M')) : zG E Y_Ta_isSame (some (.int (bI r)), S, M') 20 [(0, .ref a0), (1, .ref (eK E i1)), (2, .int x2), (3, .int x3), (4, .int x4)] [] S M 0 0 := by
  have key : ∀ (k : Nat) (a0 : Nat) (i1 : Nat) (x2 : Int32) (x3 : Int32) (x4 : Int32) (M : zH), zfix (fun r20 s => F_Ta_isSame_L20 n E S r20 s.1 s.2.1 s.2.2.1 s.2.2.2.1 s.2.2.2.2.1 s.2.2.2.2.2) k (a0, i1, x2, x3, x4, M) = some (r, M') → zG E Y_Ta_isSame (some (.int (bI r)), S, M') 20 [(0, .ref a0), (1, .ref (eK E i1)), (2, .int x2), (3, .int x3), (4, .int x4)] [] S M 0 0 := by
    intro k
    induction k with
    | zero => intro a0 i1 x2 x3 x4 M h; cases h
    | succ k ih => intro a0 i1 x2 x3 x4 M h; exact K_Ta_isSame_L20 n E S _ a0 i1 x2 x3 x4 M r M'  (fun a0 i1 x2 x3 x4 M h => ih a0 i1 x2 x3 x4 M h) h
  exact key n a0 i1 x2 x3 x4 M h
theorem K_Ta_isSame (n : Nat) (E : zE) (S : zS) (a0 : Nat) (i1 : Nat) (x2 : Int32) (x3 : Int32) (M : zH) (r : Bool) (M' : zH)  (h : F_Ta_isSame n E S a0 i1 x2 x3 M = some (r, M')) : zG E Y_Ta_isSame (some (.int (bI r)), S, M') 0 [(0, .ref a0), (1, .ref (eK E i1)), (2, .int x2), (3, .int x3)] [] S M 0 0 := by
  unfold F_Ta_isSame at h
  refine zi_iload_n 3 d_Ta_isSame_0 rfl ?_
  refine zi_iload_n 2 d_Ta_isSame_1 rfl ?_
  refine zi_isub d_Ta_isSame_2 ?_
  refine zi_aload_n 0 d_Ta_isSame_3 rfl ?_
  obtain ⟨v_7, ev_7, h⟩ := zbind h
  refine zo_getI 7 zkd_8 4 d_Ta_isSame_4 ev_7 rfl tw_157 rfl ?_
  refine zi_aload_n 0 d_Ta_isSame_7 rfl ?_
  obtain ⟨v_8, ev_8, h⟩ := zbind h
  refine zo_getI 11 zkd_8 3 d_Ta_isSame_8 ev_8 rfl tw_156 rfl ?_
  refine zi_isub d_Ta_isSame_11 ?_
  refine zi_icmp_eq (tgt := 17) d_Ta_isSame_12 rfl (fun c_9 => ?_) (fun c_9 => ?_)
  · rw [if_pos c_9] at h
    refine zi_iload_n 2 d_Ta_isSame_17 rfl ?_
    refine zi_istore [(4, .int x2), (0, .ref a0), (1, .ref (eK E i1)), (2, .int x2), (3, .int x3)] d_Ta_isSame_18 (by decide) rfl ?_
    refine zi_lo [(0, .ref a0), (1, .ref (eK E i1)), (2, .int x2), (3, .int x3), (4, .int x2)] [1, 2, 3, 4, 0] rfl ?_
    exact K_Ta_isSame_b20 n E S a0 i1 x2 x3 x2 M r M'  h
  · rw [if_neg c_9] at h
    refine zi_iconst 0 d_Ta_isSame_15 rfl ?_
    cases h
    exact zo_retB d_Ta_isSame_16 (Nat.le_of_ble_eq_true rfl) (Nat.le_of_ble_eq_true rfl) rfl
theorem C_Ta_isSame (n : Nat) (E : zE) (S : zS) (a0 : Nat) (i1 : Nat) (x2 : Int32) (x3 : Int32) (M : zH) (r : Bool) (M' : zH) (h : F_Ta_isSame n E S a0 i1 x2 x3 M = some (r, M')) : zC E Y_Ta_isSame [.ref a0, .ref (eK E i1), .int x2, .int x3] S M (some (.int (bI r)), S, M') :=
  zC.of (Or.inl (show plainName "NightColander$Tape" = true by decide)) (Nat.le_of_ble_eq_true rfl) (bI_nar r) (K_Ta_isSame n E S a0 i1 x2 x3 M r M' h)
theorem d_Js_coder_0 : decode (yB Y_Js_coder) 0 = .ok (.getstatic 38, 3) := by decide +kernel
theorem d_Js_coder_3 : decode (yB Y_Js_coder) 3 = .ok (.ifCond .eq 10, 3) := by decide +kernel
theorem d_Js_coder_6 : decode (yB Y_Js_coder) 6 = .ok (.aload_n 0, 1) := by decide +kernel
theorem d_Js_coder_7 : decode (yB Y_Js_coder) 7 = .ok (.getfield 15, 3) := by decide +kernel
theorem d_Js_coder_10 : decode (yB Y_Js_coder) 10 = .ok (.goto 4, 3) := by decide +kernel
theorem d_Js_coder_13 : decode (yB Y_Js_coder) 13 = .ok (.iconst 1, 1) := by decide +kernel
theorem d_Js_coder_14 : decode (yB Y_Js_coder) 14 = .ok (.ireturn, 1) := by decide +kernel
def F_Js_coder_i (n : Nat) (E : zE) (S : zS) (i0 : Nat) (M : zH) : Option (Int32 × zH) :=
  if (1 : Int32) = 0 then
    some (1, M)
  else
    (zli i0).bind fun u_2 =>
    some (0, M)
def F_Js_coder (n : Nat) (E : zE) (S : zS) (i0 : Nat) (M : zH) : Option (Int32 × zH) := (F_Js_coder_i n E S i0 M).bind fun q => if q.1.toInt8.toInt32 = q.1 then some q else none
theorem K_Js_coder_i (n : Nat) (E : zE) (S : zS) (i0 : Nat) (M : zH) (r : Int32) (M' : zH)  (h : F_Js_coder_i n E S i0 M = some (r, M')) : zG E Y_Js_coder (some (.int r), S, M') 0 [(0, .ref (eK E i0))] [] S M 0 0 := by
  unfold F_Js_coder_i at h
  refine zo_gets (v := .int 1) 3 d_Js_coder_0 (zstc E) tw_602 rfl ?_
  refine zi_if_eq (tgt := 13) d_Js_coder_3 rfl (fun c_1 => ?_) (fun c_1 => ?_)
  · rw [if_pos c_1] at h
    refine zi_iconst 1 d_Js_coder_13 rfl ?_
    cases h
    exact zo_ret d_Js_coder_14 (Nat.le_of_ble_eq_true rfl) (Nat.le_of_ble_eq_true rfl) rfl
  · rw [if_neg c_1] at h
    refine zi_aload_n 0 d_Js_coder_6 rfl ?_
    obtain ⟨u_2, eu_2, h⟩ := zbind h
    refine zo_litf 10 d_Js_coder_7 (zlitC E (zli_s eu_2)) tw_1914 rfl ?_
    refine zi_goto (tgt := 14) d_Js_coder_10 rfl ?_
    cases h
    exact zo_ret d_Js_coder_14 (Nat.le_of_ble_eq_true rfl) (Nat.le_of_ble_eq_true rfl) rfl
theorem C_Js_coder (n : Nat) (E : zE) (S : zS) (i0 : Nat) (M : zH) (r : Int32) (M' : zH) (h : F_Js_coder n E S i0 M = some (r, M')) : zC E Y_Js_coder [.ref (eK E i0)] S M (some (.int r), S, M') := by
  unfold F_Js_coder at h
  obtain ⟨q, e, h⟩ := zbind h
  split at h
  case isFalse => cases h
  case isTrue c1 =>
    cases h
    exact zC.of (Or.inl (show plainName "java/lang/String" = true by decide)) (Nat.le_of_ble_eq_true rfl) (by have h9 := pk_nb r; rw [c1] at h9; exact h9) (K_Js_coder_i n E S i0 M r M' e)
