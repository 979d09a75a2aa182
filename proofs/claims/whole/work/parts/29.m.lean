/-! METHODS (printed by gen/build.py): Pa_settingAt NC_settings Pa_findFitting Pa_mostAlike Pa_findLook NC_look Pa_givesWanted Pa_stepsTo Pa_findTurns NC_turned -/
theorem d_Pa_settingAt_0 : decode (yB Y_Pa_settingAt) 0 = .ok (.aload_n 0, 1) := by decide +kernel
theorem d_Pa_settingAt_1 : decode (yB Y_Pa_settingAt) 1 = .ok (.aload_n 1, 1) := by decide +kernel
theorem d_Pa_settingAt_2 : decode (yB Y_Pa_settingAt) 2 = .ok (.invokevirtual 134, 3) := by decide +kernel
theorem d_Pa_settingAt_5 : decode (yB Y_Pa_settingAt) 5 = .ok (.iconst 0, 1) := by decide +kernel
theorem d_Pa_settingAt_6 : decode (yB Y_Pa_settingAt) 6 = .ok (.istore_n 3, 1) := by decide +kernel
theorem d_Pa_settingAt_7 : decode (yB Y_Pa_settingAt) 7 = .ok (.iconst 0, 1) := by decide +kernel
theorem d_Pa_settingAt_8 : decode (yB Y_Pa_settingAt) 8 = .ok (.istore 4, 2) := by decide +kernel
theorem d_Pa_settingAt_10 : decode (yB Y_Pa_settingAt) 10 = .ok (.iload 4, 2) := by decide +kernel
theorem d_Pa_settingAt_12 : decode (yB Y_Pa_settingAt) 12 = .ok (.sipush 4096, 3) := by decide +kernel
theorem d_Pa_settingAt_15 : decode (yB Y_Pa_settingAt) 15 = .ok (.if_icmp .ge 33, 3) := by decide +kernel
theorem d_Pa_settingAt_18 : decode (yB Y_Pa_settingAt) 18 = .ok (.aload_n 0, 1) := by decide +kernel
theorem d_Pa_settingAt_19 : decode (yB Y_Pa_settingAt) 19 = .ok (.aload_n 1, 1) := by decide +kernel
theorem d_Pa_settingAt_20 : decode (yB Y_Pa_settingAt) 20 = .ok (.iload 4, 2) := by decide +kernel
theorem d_Pa_settingAt_22 : decode (yB Y_Pa_settingAt) 22 = .ok (.invokevirtual 137, 3) := by decide +kernel
theorem d_Pa_settingAt_25 : decode (yB Y_Pa_settingAt) 25 = .ok (.ifCond .eq 17, 3) := by decide +kernel
theorem d_Pa_settingAt_28 : decode (yB Y_Pa_settingAt) 28 = .ok (.iload_n 3, 1) := by decide +kernel
theorem d_Pa_settingAt_29 : decode (yB Y_Pa_settingAt) 29 = .ok (.iload_n 2, 1) := by decide +kernel
theorem d_Pa_settingAt_30 : decode (yB Y_Pa_settingAt) 30 = .ok (.if_icmp .ne 9, 3) := by decide +kernel
theorem d_Pa_settingAt_33 : decode (yB Y_Pa_settingAt) 33 = .ok (.iload 4, 2) := by decide +kernel
theorem d_Pa_settingAt_35 : decode (yB Y_Pa_settingAt) 35 = .ok (.invokestatic 141, 3) := by decide +kernel
theorem d_Pa_settingAt_38 : decode (yB Y_Pa_settingAt) 38 = .ok (.ireturn, 1) := by decide +kernel
theorem d_Pa_settingAt_39 : decode (yB Y_Pa_settingAt) 39 = .ok (.iinc 3 1, 3) := by decide +kernel
theorem d_Pa_settingAt_42 : decode (yB Y_Pa_settingAt) 42 = .ok (.iinc 4 1, 3) := by decide +kernel
theorem d_Pa_settingAt_45 : decode (yB Y_Pa_settingAt) 45 = .ok (.goto (-35), 3) := by decide +kernel
theorem d_Pa_settingAt_48 : decode (yB Y_Pa_settingAt) 48 = .ok (.iload_n 2, 1) := by decide +kernel
theorem d_Pa_settingAt_49 : decode (yB Y_Pa_settingAt) 49 = .ok (.iconst (-1), 1) := by decide +kernel
theorem d_Pa_settingAt_50 : decode (yB Y_Pa_settingAt) 50 = .ok (.if_icmp .ne 7, 3) := by decide +kernel
theorem d_Pa_settingAt_53 : decode (yB Y_Pa_settingAt) 53 = .ok (.iload_n 3, 1) := by decide +kernel
theorem d_Pa_settingAt_54 : decode (yB Y_Pa_settingAt) 54 = .ok (.goto 4, 3) := by decide +kernel
theorem d_Pa_settingAt_57 : decode (yB Y_Pa_settingAt) 57 = .ok (.iconst (-1), 1) := by decide +kernel
theorem d_Pa_settingAt_58 : decode (yB Y_Pa_settingAt) 58 = .ok (.ireturn, 1) := by decide +kernel
def F_Pa_settingAt_b42 (n : Nat) (E : zE) (S : zS) (r10 : Nat × Nat × Int32 × Int32 × Int32 × zH → Option (Int32 × zH)) (a0 : Nat) (a1 : Nat) (x2 : Int32) (x3 : Int32) (x4 : Int32) (M : zH) : Option (Int32 × zH) :=
  r10 (a0, a1, x2, x3, x4 + 1, M)
def F_Pa_settingAt_L10 (n : Nat) (E : zE) (S : zS) (r10 : Nat × Nat × Int32 × Int32 × Int32 × zH → Option (Int32 × zH)) (a0 : Nat) (a1 : Nat) (x2 : Int32) (x3 : Int32) (x4 : Int32) (M : zH) : Option (Int32 × zH) :=
  if 4096 ≤ x4 then
    if x2 = (-1) then
      some (x3, M)
    else
      some ((-1), M)
  else
    (zck S a0 4).bind fun u3 =>
    (F_Pa_fitsSeen n E S a0 a1 x4 M).bind fun q4 =>
    if q4.1 = true then
      if x3 = x2 then
        (F_Pa_asDecimal n E S x4 q4.2).bind fun q7 =>
        some (q7.1, q7.2)
      else
        F_Pa_settingAt_b42 n E S r10 a0 a1 x2 (x3 + 1) x4 q4.2
    else
      F_Pa_settingAt_b42 n E S r10 a0 a1 x2 x3 x4 q4.2
def F_Pa_settingAt_b10 (n : Nat) (E : zE) (S : zS) : Nat × Nat × Int32 × Int32 × Int32 × zH → Option (Int32 × zH) := zfix (fun r10 s => F_Pa_settingAt_L10 n E S r10 s.1 s.2.1 s.2.2.1 s.2.2.2.1 s.2.2.2.2.1 s.2.2.2.2.2) n
def F_Pa_settingAt (n : Nat) (E : zE) (S : zS) (a0 : Nat) (a1 : Nat) (x2 : Int32) (M : zH) : Option (Int32 × zH) :=
  (zck S a0 4).bind fun u8 =>
  (F_Pa_findShares n E S a0 a1 M).bind fun q9 =>
  F_Pa_settingAt_b10 n E S (a0, a1, x2, 0, 0, q9)
theorem K_Pa_settingAt_b42 (n : Nat) (E : zE) (S : zS) (r10 : Nat × Nat × Int32 × Int32 × Int32 × zH → Option (Int32 × zH)) (a0 : Nat) (a1 : Nat) (x2 : Int32) (x3 : Int32) (x4 : Int32) (M : zH) (r : Int32) (M' : zH) (hr10 : ∀ (a0 : Nat) (a1 : Nat) (x2 : Int32) (x3 : Int32) (x4 : Int32) (M : zH), r10 (a0, a1, x2, x3, x4, M) = some (r, M') → zG E Y_Pa_settingAt (some (.int r), S, M') 10 [(0, .ref a0), (1, .ref a1), (2, .int x2), (3, .int x3), (4, .int x4)] [] S M 0 0) (h : F_Pa_settingAt_b42 n E S r10 a0 a1 x2 x3 x4 M = some (r, M')) : zG E Y_Pa_settingAt (some (.int r), S, M') 42 [(0, .ref a0), (1, .ref a1), (2, .int x2), (3, .int x3), (4, .int x4)] [] S M 0 0 := by
  unfold F_Pa_settingAt_b42 at h
  refine zi_iinc 4 (x4 + 1) [(4, .int (x4 + 1)), (0, .ref a0), (1, .ref a1), (2, .int x2), (3, .int x3)] d_Pa_settingAt_42 rfl rfl (by decide) rfl ?_
  refine zi_goto (tgt := 10) d_Pa_settingAt_45 rfl ?_
  refine zi_lo [(0, .ref a0), (1, .ref a1), (2, .int x2), (3, .int x3), (4, .int (x4 + 1))] [1, 2, 3, 4, 0] rfl ?_
  exact hr10 a0 a1 x2 x3 (x4 + 1) M h
theorem K_Pa_settingAt_L10 (n : Nat) (E : zE) (S : zS) (r10 : Nat × Nat × Int32 × Int32 × Int32 × zH → Option (Int32 × zH)) (a0 : Nat) (a1 : Nat) (x2 : Int32) (x3 : Int32) (x4 : Int32) (M : zH) (r : Int32) (M' : zH) (hr10 : ∀ (a0 : Nat) (a1 : Nat) (x2 : Int32) (x3 : Int32) (x4 : Int32) (M : zH), r10 (a0, a1, x2, x3, x4, M) = some (r, M') → zG E Y_Pa_settingAt (some (.int r), S, M') 10 [(0, .ref a0), (1, .ref a1), (2, .int x2), (3, .int x3), (4, .int x4)] [] S M 0 0) (h : F_Pa_settingAt_L10 n E S r10 a0 a1 x2 x3 x4 M = some (r, M')) : zG E Y_Pa_settingAt (some (.int r), S, M') 10 [(0, .ref a0), (1, .ref a1), (2, .int x2), (3, .int x3), (4, .int x4)] [] S M 0 0 := by
  unfold F_Pa_settingAt_L10 at h
  refine zi_iload 4 d_Pa_settingAt_10 rfl ?_
  refine zi_sipush 4096 d_Pa_settingAt_12 rfl ?_
  refine zi_icmp_ge (tgt := 48) d_Pa_settingAt_15 rfl (fun c1 => ?_) (fun c1 => ?_)
  · rw [if_pos c1] at h
    refine zi_iload_n 2 d_Pa_settingAt_48 rfl ?_
    refine zi_iconst (-1) d_Pa_settingAt_49 rfl ?_
    refine zi_icmp_ne (tgt := 57) d_Pa_settingAt_50 rfl (fun c2 => ?_) (fun c2 => ?_)
    · rw [if_neg c2] at h
      refine zi_iconst (-1) d_Pa_settingAt_57 rfl ?_
      cases h
      exact zo_ret d_Pa_settingAt_58 (Nat.le_of_ble_eq_true rfl) (Nat.le_of_ble_eq_true rfl) rfl
    · rw [if_pos c2] at h
      refine zi_iload_n 3 d_Pa_settingAt_53 rfl ?_
      refine zi_goto (tgt := 58) d_Pa_settingAt_54 rfl ?_
      cases h
      exact zo_ret d_Pa_settingAt_58 (Nat.le_of_ble_eq_true rfl) (Nat.le_of_ble_eq_true rfl) rfl
  · rw [if_neg c1] at h
    refine zi_aload_n 0 d_Pa_settingAt_18 rfl ?_
    refine zi_aload_n 1 d_Pa_settingAt_19 rfl ?_
    refine zi_iload 4 d_Pa_settingAt_20 rfl ?_
    obtain ⟨u3, eu3, h⟩ := zbind h
    obtain ⟨q4, eq4, h⟩ := zbind h
    refine zo_virt (k' := 0) (n' := 0) 25 [.ref a1, .int x4] [] [.int (bI q4.1)] zkd_4 (zck_s eu3) (C_Pa_fitsSeen n E S a0 a1 x4 M q4.1 q4.2 eq4) d_Pa_settingAt_22 tw_1048 tw_1045 tw_1047 ts_29 tw_12 dd_Pa_fitsSeen ⟨Nat.le_of_ble_eq_true rfl, Nat.le_of_ble_eq_true rfl, Nat.le_of_ble_eq_true rfl, Nat.le_of_ble_eq_true rfl⟩ (Nat.le_of_ble_eq_true rfl) rfl rfl rfl rfl ?_
    refine zo_ifeqB d_Pa_settingAt_25 rfl 28 rfl (fun c5 => ?_) (fun c5 => ?_)
    · rw [if_neg c5] at h
      refine zi_lo [(0, .ref a0), (1, .ref a1), (2, .int x2), (3, .int x3), (4, .int x4)] [0, 1, 2, 3, 4] rfl ?_
      exact K_Pa_settingAt_b42 n E S r10 a0 a1 x2 x3 x4 q4.2 r M' hr10 h
    · rw [if_pos c5] at h
      refine zi_iload_n 3 d_Pa_settingAt_28 rfl ?_
      refine zi_iload_n 2 d_Pa_settingAt_29 rfl ?_
      refine zi_icmp_ne (tgt := 39) d_Pa_settingAt_30 rfl (fun c6 => ?_) (fun c6 => ?_)
      · rw [if_neg c6] at h
        refine zi_iinc 3 (x3 + 1) [(3, .int (x3 + 1)), (0, .ref a0), (1, .ref a1), (2, .int x2), (4, .int x4)] d_Pa_settingAt_39 rfl rfl (by decide) rfl ?_
        refine zi_lo [(0, .ref a0), (1, .ref a1), (2, .int x2), (3, .int (x3 + 1)), (4, .int x4)] [1, 2, 3, 0, 4] rfl ?_
        exact K_Pa_settingAt_b42 n E S r10 a0 a1 x2 (x3 + 1) x4 q4.2 r M' hr10 h
      · rw [if_pos c6] at h
        refine zi_iload 4 d_Pa_settingAt_33 rfl ?_
        obtain ⟨q7, eq7, h⟩ := zbind h
        refine zo_stat (k' := 0) (n' := 0) 38 [.int x4] [] [.int q7.1] (C_Pa_asDecimal n E S x4 q4.2 q7.1 q7.2 eq7) d_Pa_settingAt_35 tw_1059 tw_1057 tw_1058 tw_12 dd_Pa_asDecimal ⟨Nat.le_of_ble_eq_true rfl, Nat.le_of_ble_eq_true rfl, Nat.le_of_ble_eq_true rfl, Nat.le_of_ble_eq_true rfl⟩ (Nat.le_of_ble_eq_true rfl) rfl rfl rfl rfl ?_
        cases h
        exact zo_ret d_Pa_settingAt_38 (Nat.le_of_ble_eq_true rfl) (Nat.le_of_ble_eq_true rfl) rfl
theorem K_Pa_settingAt_b10 (n : Nat) (E : zE) (S : zS) (a0 : Nat) (a1 : Nat) (x2 : Int32) (x3 : Int32) (x4 : Int32) (M : zH) (r : Int32) (M' : zH)  (h : F_Pa_settingAt_b10 n E S (a0, a1, x2, x3, x4, M) = some (r, M')) : zG E Y_Pa_settingAt (some (.int r), S, M') 10 [(0, .ref a0), (1, .ref a1), (2, .int x2), (3, .int x3), (4, .int x4)] [] S M 0 0 := by
  have key : ∀ (k : Nat) (a0 : Nat) (a1 : Nat) (x2 : Int32) (x3 : Int32) (x4 : Int32) (M : zH), zfix (fun r10 s => F_Pa_settingAt_L10 n E S r10 s.1 s.2.1 s.2.2.1 s.2.2.2.1 s.2.2.2.2.1 s.2.2.2.2.2) k (a0, a1, x2, x3, x4, M) = some (r, M') → zG E Y_Pa_settingAt (some (.int r), S, M') 10 [(0, .ref a0), (1, .ref a1), (2, .int x2), (3, .int x3), (4, .int x4)] [] S M 0 0 := by
    intro k
    induction k with
    | zero => intro a0 a1 x2 x3 x4 M h; cases h
    | succ k ih => intro a0 a1 x2 x3 x4 M h; exact K_Pa_settingAt_L10 n E S _ a0 a1 x2 x3 x4 M r M'  (fun a0 a1 x2 x3 x4 M h => ih a0 a1 x2 x3 x4 M h) h
  exact key n a0 a1 x2 x3 x4 M h
theorem K_Pa_settingAt (n : Nat) (E : zE) (S : zS) (a0 : Nat) (a1 : Nat) (x2 : Int32) (M : zH) (r : Int32) (M' : zH)  (h : F_Pa_settingAt n E S a0 a1 x2 M = some (r, M')) : zG E Y_Pa_settingAt (some (.int r), S, M') 0 [(0, .ref a0), (1, .ref a1), (2, .int x2)] [] S M 0 0 := by
  unfold F_Pa_settingAt at h
  refine zi_aload_n 0 d_Pa_settingAt_0 rfl ?_
  refine zi_aload_n 1 d_Pa_settingAt_1 rfl ?_
  obtain ⟨u8, eu8, h⟩ := zbind h
  obtain ⟨q9, eq9, h⟩ := zbind h
  refine zo_virt (k' := 0) (n' := 0) 5 [.ref a1] [] [] zkd_4 (zck_s eu8) (C_Pa_findShares n E S a0 a1 M q9 eq9) d_Pa_settingAt_2 tw_1039 tw_1036 tw_1038 ts_28 tw_12 dd_Pa_findShares ⟨Nat.le_of_ble_eq_true rfl, Nat.le_of_ble_eq_true rfl, Nat.le_of_ble_eq_true rfl, Nat.le_of_ble_eq_true rfl⟩ (Nat.le_of_ble_eq_true rfl) rfl rfl rfl rfl ?_
  refine zi_iconst 0 d_Pa_settingAt_5 rfl ?_
  refine zi_istore_n [(3, .int 0), (0, .ref a0), (1, .ref a1), (2, .int x2)] d_Pa_settingAt_6 (by decide) rfl ?_
  refine zi_iconst 0 d_Pa_settingAt_7 rfl ?_
  refine zi_istore [(4, .int 0), (3, .int 0), (0, .ref a0), (1, .ref a1), (2, .int x2)] d_Pa_settingAt_8 (by decide) rfl ?_
  refine zi_lo [(0, .ref a0), (1, .ref a1), (2, .int x2), (3, .int 0), (4, .int 0)] [2, 3, 4, 1, 0] rfl ?_
  exact K_Pa_settingAt_b10 n E S a0 a1 x2 0 0 q9 r M'  h
theorem C_Pa_settingAt (n : Nat) (E : zE) (S : zS) (a0 : Nat) (a1 : Nat) (x2 : Int32) (M : zH) (r : Int32) (M' : zH) (h : F_Pa_settingAt n E S a0 a1 x2 M = some (r, M')) : zC E Y_Pa_settingAt [.ref a0, .ref a1, .int x2] S M (some (.int r), S, M') :=
  zC.of (Or.inl (show plainName "NightColander$Paper" = true by decide)) (Nat.le_of_ble_eq_true rfl) (trivial) (K_Pa_settingAt n E S a0 a1 x2 M r M' h)
theorem d_NC_settings_0 : decode (yB Y_NC_settings) 0 = .ok (.iload_n 1, 1) := by decide +kernel
theorem d_NC_settings_1 : decode (yB Y_NC_settings) 1 = .ok (.iconst (-1), 1) := by decide +kernel
theorem d_NC_settings_2 : decode (yB Y_NC_settings) 2 = .ok (.if_icmp .ge 7, 3) := by decide +kernel
theorem d_NC_settings_5 : decode (yB Y_NC_settings) 5 = .ok (.iconst (-1), 1) := by decide +kernel
theorem d_NC_settings_6 : decode (yB Y_NC_settings) 6 = .ok (.goto 15, 3) := by decide +kernel
theorem d_NC_settings_9 : decode (yB Y_NC_settings) 9 = .ok (.aload_n 0, 1) := by decide +kernel
theorem d_NC_settings_10 : decode (yB Y_NC_settings) 10 = .ok (.getfield 86, 3) := by decide +kernel
theorem d_NC_settings_13 : decode (yB Y_NC_settings) 13 = .ok (.aload_n 0, 1) := by decide +kernel
theorem d_NC_settings_14 : decode (yB Y_NC_settings) 14 = .ok (.getfield 12, 3) := by decide +kernel
theorem d_NC_settings_17 : decode (yB Y_NC_settings) 17 = .ok (.iload_n 1, 1) := by decide +kernel
theorem d_NC_settings_18 : decode (yB Y_NC_settings) 18 = .ok (.invokevirtual 279, 3) := by decide +kernel
theorem d_NC_settings_21 : decode (yB Y_NC_settings) 21 = .ok (.ireturn, 1) := by decide +kernel
def F_NC_settings (n : Nat) (E : zE) (S : zS) (a0 : Nat) (x1 : Int32) (M : zH) : Option (Int32 × zH) :=
  if (-1) ≤ x1 then
    (zgR S a0 10 12).bind fun b2 =>
    (zgR S a0 10 0).bind fun b3 =>
    (zck S b2 4).bind fun u4 =>
    (F_Pa_settingAt n E S b2 b3 x1 M).bind fun q5 =>
    some (q5.1, q5.2)
  else
    some ((-1), M)
theorem K_NC_settings (n : Nat) (E : zE) (S : zS) (a0 : Nat) (x1 : Int32) (M : zH) (r : Int32) (M' : zH)  (h : F_NC_settings n E S a0 x1 M = some (r, M')) : zG E Y_NC_settings (some (.int r), S, M') 0 [(0, .ref a0), (1, .int x1)] [] S M 0 0 := by
  unfold F_NC_settings at h
  refine zi_iload_n 1 d_NC_settings_0 rfl ?_
  refine zi_iconst (-1) d_NC_settings_1 rfl ?_
  refine zi_icmp_ge (tgt := 9) d_NC_settings_2 rfl (fun c1 => ?_) (fun c1 => ?_)
  · rw [if_pos c1] at h
    refine zi_aload_n 0 d_NC_settings_9 rfl ?_
    obtain ⟨b2, eb2, h⟩ := zbind h
    refine zo_getR 13 zkd_10 12 d_NC_settings_10 eb2 rfl tw_344 rfl ?_
    refine zi_aload_n 0 d_NC_settings_13 rfl ?_
    obtain ⟨b3, eb3, h⟩ := zbind h
    refine zo_getR 17 zkd_10 0 d_NC_settings_14 eb3 rfl tw_332 rfl ?_
    refine zi_iload_n 1 d_NC_settings_17 rfl ?_
    obtain ⟨u4, eu4, h⟩ := zbind h
    obtain ⟨q5, eq5, h⟩ := zbind h
    refine zo_virt (k' := 0) (n' := 0) 21 [.ref b3, .int x1] [] [.int q5.1] zkd_4 (zck_s eu4) (C_Pa_settingAt n E S b2 b3 x1 M q5.1 q5.2 eq5) d_NC_settings_18 tw_1035 tw_1032 tw_1033 tw_1034 tw_12 dd_Pa_settingAt ⟨Nat.le_of_ble_eq_true rfl, Nat.le_of_ble_eq_true rfl, Nat.le_of_ble_eq_true rfl, Nat.le_of_ble_eq_true rfl⟩ (Nat.le_of_ble_eq_true rfl) rfl rfl rfl rfl ?_
    cases h
    exact zo_ret d_NC_settings_21 (Nat.le_of_ble_eq_true rfl) (Nat.le_of_ble_eq_true rfl) rfl
  · rw [if_neg c1] at h
    refine zi_iconst (-1) d_NC_settings_5 rfl ?_
    refine zi_goto (tgt := 21) d_NC_settings_6 rfl ?_
    cases h
    exact zo_ret d_NC_settings_21 (Nat.le_of_ble_eq_true rfl) (Nat.le_of_ble_eq_true rfl) rfl
theorem C_NC_settings (n : Nat) (E : zE) (S : zS) (a0 : Nat) (x1 : Int32) (M : zH) (r : Int32) (M' : zH) (h : F_NC_settings n E S a0 x1 M = some (r, M')) : zC E Y_NC_settings [.ref a0, .int x1] S M (some (.int r), S, M') :=
  zC.of (Or.inl (show plainName "NightColander" = true by decide)) (Nat.le_of_ble_eq_true rfl) (trivial) (K_NC_settings n E S a0 x1 M r M' h)
theorem d_Pa_findFitting_0 : decode (yB Y_Pa_findFitting) 0 = .ok (.aload_n 0, 1) := by decide +kernel
theorem d_Pa_findFitting_1 : decode (yB Y_Pa_findFitting) 1 = .ok (.aload_n 1, 1) := by decide +kernel
theorem d_Pa_findFitting_2 : decode (yB Y_Pa_findFitting) 2 = .ok (.invokevirtual 134, 3) := by decide +kernel
theorem d_Pa_findFitting_5 : decode (yB Y_Pa_findFitting) 5 = .ok (.iconst 0, 1) := by decide +kernel
theorem d_Pa_findFitting_6 : decode (yB Y_Pa_findFitting) 6 = .ok (.istore_n 2, 1) := by decide +kernel
theorem d_Pa_findFitting_7 : decode (yB Y_Pa_findFitting) 7 = .ok (.iconst 0, 1) := by decide +kernel
theorem d_Pa_findFitting_8 : decode (yB Y_Pa_findFitting) 8 = .ok (.istore_n 3, 1) := by decide +kernel
theorem d_Pa_findFitting_9 : decode (yB Y_Pa_findFitting) 9 = .ok (.iload_n 3, 1) := by decide +kernel
theorem d_Pa_findFitting_10 : decode (yB Y_Pa_findFitting) 10 = .ok (.aload_n 0, 1) := by decide +kernel
theorem d_Pa_findFitting_11 : decode (yB Y_Pa_findFitting) 11 = .ok (.getfield 28, 3) := by decide +kernel
theorem d_Pa_findFitting_14 : decode (yB Y_Pa_findFitting) 14 = .ok (.arraylength, 1) := by decide +kernel
theorem d_Pa_findFitting_15 : decode (yB Y_Pa_findFitting) 15 = .ok (.if_icmp .ge 77, 3) := by decide +kernel
theorem d_Pa_findFitting_18 : decode (yB Y_Pa_findFitting) 18 = .ok (.iconst 0, 1) := by decide +kernel
theorem d_Pa_findFitting_19 : decode (yB Y_Pa_findFitting) 19 = .ok (.istore 4, 2) := by decide +kernel
theorem d_Pa_findFitting_21 : decode (yB Y_Pa_findFitting) 21 = .ok (.iconst 0, 1) := by decide +kernel
theorem d_Pa_findFitting_22 : decode (yB Y_Pa_findFitting) 22 = .ok (.istore 5, 2) := by decide +kernel
theorem d_Pa_findFitting_24 : decode (yB Y_Pa_findFitting) 24 = .ok (.iload 5, 2) := by decide +kernel
theorem d_Pa_findFitting_26 : decode (yB Y_Pa_findFitting) 26 = .ok (.bipush 8, 2) := by decide +kernel
theorem d_Pa_findFitting_28 : decode (yB Y_Pa_findFitting) 28 = .ok (.if_icmp .ge 37, 3) := by decide +kernel
theorem d_Pa_findFitting_31 : decode (yB Y_Pa_findFitting) 31 = .ok (.iload 4, 2) := by decide +kernel
theorem d_Pa_findFitting_33 : decode (yB Y_Pa_findFitting) 33 = .ok (.aload_n 0, 1) := by decide +kernel
theorem d_Pa_findFitting_34 : decode (yB Y_Pa_findFitting) 34 = .ok (.aload_n 1, 1) := by decide +kernel
theorem d_Pa_findFitting_35 : decode (yB Y_Pa_findFitting) 35 = .ok (.iload_n 3, 1) := by decide +kernel
theorem d_Pa_findFitting_36 : decode (yB Y_Pa_findFitting) 36 = .ok (.bipush 8, 2) := by decide +kernel
theorem d_Pa_findFitting_38 : decode (yB Y_Pa_findFitting) 38 = .ok (.imul, 1) := by decide +kernel
theorem d_Pa_findFitting_39 : decode (yB Y_Pa_findFitting) 39 = .ok (.iload 5, 2) := by decide +kernel
theorem d_Pa_findFitting_41 : decode (yB Y_Pa_findFitting) 41 = .ok (.iadd, 1) := by decide +kernel
theorem d_Pa_findFitting_42 : decode (yB Y_Pa_findFitting) 42 = .ok (.invokevirtual 137, 3) := by decide +kernel
theorem d_Pa_findFitting_45 : decode (yB Y_Pa_findFitting) 45 = .ok (.ifCond .eq 10, 3) := by decide +kernel
theorem d_Pa_findFitting_48 : decode (yB Y_Pa_findFitting) 48 = .ok (.iconst 1, 1) := by decide +kernel
theorem d_Pa_findFitting_49 : decode (yB Y_Pa_findFitting) 49 = .ok (.iload 5, 2) := by decide +kernel
theorem d_Pa_findFitting_51 : decode (yB Y_Pa_findFitting) 51 = .ok (.ishl, 1) := by decide +kernel
theorem d_Pa_findFitting_52 : decode (yB Y_Pa_findFitting) 52 = .ok (.goto 4, 3) := by decide +kernel
theorem d_Pa_findFitting_55 : decode (yB Y_Pa_findFitting) 55 = .ok (.iconst 0, 1) := by decide +kernel
theorem d_Pa_findFitting_56 : decode (yB Y_Pa_findFitting) 56 = .ok (.ior, 1) := by decide +kernel
theorem d_Pa_findFitting_57 : decode (yB Y_Pa_findFitting) 57 = .ok (.istore 4, 2) := by decide +kernel
theorem d_Pa_findFitting_59 : decode (yB Y_Pa_findFitting) 59 = .ok (.iinc 5 1, 3) := by decide +kernel
theorem d_Pa_findFitting_62 : decode (yB Y_Pa_findFitting) 62 = .ok (.goto (-38), 3) := by decide +kernel
theorem d_Pa_findFitting_65 : decode (yB Y_Pa_findFitting) 65 = .ok (.aload_n 0, 1) := by decide +kernel
theorem d_Pa_findFitting_66 : decode (yB Y_Pa_findFitting) 66 = .ok (.getfield 28, 3) := by decide +kernel
theorem d_Pa_findFitting_69 : decode (yB Y_Pa_findFitting) 69 = .ok (.iload_n 3, 1) := by decide +kernel
theorem d_Pa_findFitting_70 : decode (yB Y_Pa_findFitting) 70 = .ok (.iload 4, 2) := by decide +kernel
theorem d_Pa_findFitting_72 : decode (yB Y_Pa_findFitting) 72 = .ok (.iastore, 1) := by decide +kernel
theorem d_Pa_findFitting_73 : decode (yB Y_Pa_findFitting) 73 = .ok (.iload_n 2, 1) := by decide +kernel
theorem d_Pa_findFitting_74 : decode (yB Y_Pa_findFitting) 74 = .ok (.iload 4, 2) := by decide +kernel
theorem d_Pa_findFitting_76 : decode (yB Y_Pa_findFitting) 76 = .ok (.ifCond .eq 7, 3) := by decide +kernel
theorem d_Pa_findFitting_79 : decode (yB Y_Pa_findFitting) 79 = .ok (.iconst 1, 1) := by decide +kernel
theorem d_Pa_findFitting_80 : decode (yB Y_Pa_findFitting) 80 = .ok (.goto 4, 3) := by decide +kernel
theorem d_Pa_findFitting_83 : decode (yB Y_Pa_findFitting) 83 = .ok (.iconst 0, 1) := by decide +kernel
theorem d_Pa_findFitting_84 : decode (yB Y_Pa_findFitting) 84 = .ok (.ior, 1) := by decide +kernel
theorem d_Pa_findFitting_85 : decode (yB Y_Pa_findFitting) 85 = .ok (.istore_n 2, 1) := by decide +kernel
theorem d_Pa_findFitting_86 : decode (yB Y_Pa_findFitting) 86 = .ok (.iinc 3 1, 3) := by decide +kernel
theorem d_Pa_findFitting_89 : decode (yB Y_Pa_findFitting) 89 = .ok (.goto (-80), 3) := by decide +kernel
theorem d_Pa_findFitting_92 : decode (yB Y_Pa_findFitting) 92 = .ok (.iload_n 2, 1) := by decide +kernel
theorem d_Pa_findFitting_93 : decode (yB Y_Pa_findFitting) 93 = .ok (.ireturn, 1) := by decide +kernel
def F_Pa_findFitting_b56 (n : Nat) (E : zE) (S : zS) (r9 : Nat × Nat × Int32 × Int32 × zH → Option (Bool × zH)) (r24 : Nat × Nat × Int32 × Int32 × Int32 × Int32 × zH → Option (Bool × zH)) (a0 : Nat) (a1 : Nat) (x2 : Int32) (x3 : Int32) (x5 : Int32) (s0 : Int32) (s1 : Int32) (M : zH) : Option (Bool × zH) :=
  r24 (a0, a1, x2, x3, s1 ||| s0, x5 + 1, M)
def F_Pa_findFitting_b84 (n : Nat) (E : zE) (S : zS) (r9 : Nat × Nat × Int32 × Int32 × zH → Option (Bool × zH)) (a0 : Nat) (a1 : Nat) (x3 : Int32) (s0 : Int32) (s1 : Int32) (M : zH) : Option (Bool × zH) :=
  r9 (a0, a1, s1 ||| s0, x3 + 1, M)
def F_Pa_findFitting_L24 (n : Nat) (E : zE) (S : zS) (r9 : Nat × Nat × Int32 × Int32 × zH → Option (Bool × zH)) (r24 : Nat × Nat × Int32 × Int32 × Int32 × Int32 × zH → Option (Bool × zH)) (a0 : Nat) (a1 : Nat) (x2 : Int32) (x3 : Int32) (x4 : Int32) (x5 : Int32) (M : zH) : Option (Bool × zH) :=
  if 8 ≤ x5 then
    (zgR S a0 4 5).bind fun b2 =>
    (zstI S M b2 x3 x4).bind fun m3 =>
    if x4 = 0 then
      F_Pa_findFitting_b84 n E S r9 a0 a1 x3 0 x2 m3
    else
      F_Pa_findFitting_b84 n E S r9 a0 a1 x3 1 x2 m3
  else
    (zck S a0 4).bind fun u5 =>
    (F_Pa_fitsSeen n E S a0 a1 ((x3 * 8) + x5) M).bind fun q6 =>
    if q6.1 = true then
      F_Pa_findFitting_b56 n E S r9 r24 a0 a1 x2 x3 x5 ((1 : Int32) <<< (x5 &&& (31 : Int32))) x4 q6.2
    else
      F_Pa_findFitting_b56 n E S r9 r24 a0 a1 x2 x3 x5 0 x4 q6.2
def F_Pa_findFitting_b24 (n : Nat) (E : zE) (S : zS) (r9 : Nat × Nat × Int32 × Int32 × zH → Option (Bool × zH)) : Nat × Nat × Int32 × Int32 × Int32 × Int32 × zH → Option (Bool × zH) := zfix (fun r24 s => F_Pa_findFitting_L24 n E S r9 r24 s.1 s.2.1 s.2.2.1 s.2.2.2.1 s.2.2.2.2.1 s.2.2.2.2.2.1 s.2.2.2.2.2.2) n
def F_Pa_findFitting_L9 (n : Nat) (E : zE) (S : zS) (r9 : Nat × Nat × Int32 × Int32 × zH → Option (Bool × zH)) (a0 : Nat) (a1 : Nat) (x2 : Int32) (x3 : Int32) (M : zH) : Option (Bool × zH) :=
  (zgR S a0 4 5).bind fun b8 =>
  (zlen S 12 b8).bind fun v9 =>
  if v9 ≤ x3 then
    (zbl x2).bind fun z11 =>
    some (z11, M)
  else
    F_Pa_findFitting_b24 n E S r9 (a0, a1, x2, x3, 0, 0, M)
def F_Pa_findFitting_b9 (n : Nat) (E : zE) (S : zS) : Nat × Nat × Int32 × Int32 × zH → Option (Bool × zH) := zfix (fun r9 s => F_Pa_findFitting_L9 n E S r9 s.1 s.2.1 s.2.2.1 s.2.2.2.1 s.2.2.2.2) n
def F_Pa_findFitting (n : Nat) (E : zE) (S : zS) (a0 : Nat) (a1 : Nat) (M : zH) : Option (Bool × zH) :=
  (zck S a0 4).bind fun u12 =>
  (F_Pa_findShares n E S a0 a1 M).bind fun q13 =>
  F_Pa_findFitting_b9 n E S (a0, a1, 0, 0, q13)
theorem K_Pa_findFitting_b56 (n : Nat) (E : zE) (S : zS) (r9 : Nat × Nat × Int32 × Int32 × zH → Option (Bool × zH)) (r24 : Nat × Nat × Int32 × Int32 × Int32 × Int32 × zH → Option (Bool × zH)) (a0 : Nat) (a1 : Nat) (x2 : Int32) (x3 : Int32) (x5 : Int32) (s0 : Int32) (s1 : Int32) (M : zH) (r : Bool) (M' : zH) (hr9 : ∀ (a0 : Nat) (a1 : Nat) (x2 : Int32) (x3 : Int32) (M : zH), r9 (a0, a1, x2, x3, M) = some (r, M') → zG E Y_Pa_findFitting (some (.int (bI r)), S, M') 9 [(0, .ref a0), (1, .ref a1), (2, .int x2), (3, .int x3)] [] S M 0 0) (hr24 : ∀ (a0 : Nat) (a1 : Nat) (x2 : Int32) (x3 : Int32) (x4 : Int32) (x5 : Int32) (M : zH), r24 (a0, a1, x2, x3, x4, x5, M) = some (r, M') → zG E Y_Pa_findFitting (some (.int (bI r)), S, M') 24 [(0, .ref a0), (1, .ref a1), (2, .int x2), (3, .int x3), (4, .int x4), (5, .int x5)] [] S M 0 0) (h : F_Pa_findFitting_b56 n E S r9 r24 a0 a1 x2 x3 x5 s0 s1 M = some (r, M')) : zG E Y_Pa_findFitting (some (.int (bI r)), S, M') 56 [(0, .ref a0), (1, .ref a1), (2, .int x2), (3, .int x3), (5, .int x5)] [.int s0, .int s1] S M 0 0 := by
  unfold F_Pa_findFitting_b56 at h
  refine zi_ior d_Pa_findFitting_56 ?_
  refine zi_istore [(4, .int (s1 ||| s0)), (0, .ref a0), (1, .ref a1), (2, .int x2), (3, .int x3), (5, .int x5)] d_Pa_findFitting_57 (by decide) rfl ?_
  refine zi_iinc 5 (x5 + 1) [(5, .int (x5 + 1)), (4, .int (s1 ||| s0)), (0, .ref a0), (1, .ref a1), (2, .int x2), (3, .int x3)] d_Pa_findFitting_59 rfl rfl (by decide) rfl ?_
  refine zi_goto (tgt := 24) d_Pa_findFitting_62 rfl ?_
  refine zi_lo [(0, .ref a0), (1, .ref a1), (2, .int x2), (3, .int x3), (4, .int (s1 ||| s0)), (5, .int (x5 + 1))] [2, 3, 4, 5, 1, 0] rfl ?_
  exact hr24 a0 a1 x2 x3 (s1 ||| s0) (x5 + 1) M h
theorem K_Pa_findFitting_b84 (n : Nat) (E : zE) (S : zS) (r9 : Nat × Nat × Int32 × Int32 × zH → Option (Bool × zH)) (a0 : Nat) (a1 : Nat) (x3 : Int32) (s0 : Int32) (s1 : Int32) (M : zH) (r : Bool) (M' : zH) (hr9 : ∀ (a0 : Nat) (a1 : Nat) (x2 : Int32) (x3 : Int32) (M : zH), r9 (a0, a1, x2, x3, M) = some (r, M') → zG E Y_Pa_findFitting (some (.int (bI r)), S, M') 9 [(0, .ref a0), (1, .ref a1), (2, .int x2), (3, .int x3)] [] S M 0 0) (h : F_Pa_findFitting_b84 n E S r9 a0 a1 x3 s0 s1 M = some (r, M')) : zG E Y_Pa_findFitting (some (.int (bI r)), S, M') 84 [(0, .ref a0), (1, .ref a1), (3, .int x3)] [.int s0, .int s1] S M 0 0 := by
  unfold F_Pa_findFitting_b84 at h
  refine zi_ior d_Pa_findFitting_84 ?_
  refine zi_istore_n [(2, .int (s1 ||| s0)), (0, .ref a0), (1, .ref a1), (3, .int x3)] d_Pa_findFitting_85 (by decide) rfl ?_
  refine zi_iinc 3 (x3 + 1) [(3, .int (x3 + 1)), (2, .int (s1 ||| s0)), (0, .ref a0), (1, .ref a1)] d_Pa_findFitting_86 rfl rfl (by decide) rfl ?_
  refine zi_goto (tgt := 9) d_Pa_findFitting_89 rfl ?_
  refine zi_lo [(0, .ref a0), (1, .ref a1), (2, .int (s1 ||| s0)), (3, .int (x3 + 1))] [2, 3, 1, 0] rfl ?_
  exact hr9 a0 a1 (s1 ||| s0) (x3 + 1) M h
theorem K_Pa_findFitting_L24 (n : Nat) (E : zE) (S : zS) (r9 : Nat × Nat × Int32 × Int32 × zH → Option (Bool × zH)) (r24 : Nat × Nat × Int32 × Int32 × Int32 × Int32 × zH → Option (Bool × zH)) (a0 : Nat) (a1 : Nat) (x2 : Int32) (x3 : Int32) (x4 : Int32) (x5 : Int32) (M : zH) (r : Bool) (M' : zH) (hr9 : ∀ (a0 : Nat) (a1 : Nat) (x2 : Int32) (x3 : Int32) (M : zH), r9 (a0, a1, x2, x3, M) = some (r, M') → zG E Y_Pa_findFitting (some (.int (bI r)), S, M') 9 [(0, .ref a0), (1, .ref a1), (2, .int x2), (3, .int x3)] [] S M 0 0) (hr24 : ∀ (a0 : Nat) (a1 : Nat) (x2 : Int32) (x3 : Int32) (x4 : Int32) (x5 : Int32) (M : zH), r24 (a0, a1, x2, x3, x4, x5, M) = some (r, M') → zG E Y_Pa_findFitting (some (.int (bI r)), S, M') 24 [(0, .ref a0), (1, .ref a1), (2, .int x2), (3, .int x3), (4, .int x4), (5, .int x5)] [] S M 0 0) (h : F_Pa_findFitting_L24 n E S r9 r24 a0 a1 x2 x3 x4 x5 M = some (r, M')) : zG E Y_Pa_findFitting (some (.int (bI r)), S, M') 24 [(0, .ref a0), (1, .ref a1), (2, .int x2), (3, .int x3), (4, .int x4), (5, .int x5)] [] S M 0 0 := by
  unfold F_Pa_findFitting_L24 at h
  refine zi_iload 5 d_Pa_findFitting_24 rfl ?_
  refine zi_bipush 8 d_Pa_findFitting_26 rfl ?_
  refine zi_icmp_ge (tgt := 65) d_Pa_findFitting_28 rfl (fun c1 => ?_) (fun c1 => ?_)
  · rw [if_pos c1] at h
    refine zi_aload_n 0 d_Pa_findFitting_65 rfl ?_
    obtain ⟨b2, eb2, h⟩ := zbind h
    refine zo_getR 69 zkd_4 5 d_Pa_findFitting_66 eb2 rfl tw_303 rfl ?_
    refine zi_iload_n 3 d_Pa_findFitting_69 rfl ?_
    refine zi_iload 4 d_Pa_findFitting_70 rfl ?_
    obtain ⟨m3, em3, h⟩ := zbind h
    refine zo_iast 73 d_Pa_findFitting_72 em3 rfl ?_
    refine zi_iload_n 2 d_Pa_findFitting_73 rfl ?_
    refine zi_iload 4 d_Pa_findFitting_74 rfl ?_
    refine zi_if_eq (tgt := 83) d_Pa_findFitting_76 rfl (fun c4 => ?_) (fun c4 => ?_)
    · rw [if_pos c4] at h
      refine zi_iconst 0 d_Pa_findFitting_83 rfl ?_
      refine zi_lo [(0, .ref a0), (1, .ref a1), (3, .int x3)] [0, 1, 3] rfl ?_
      exact K_Pa_findFitting_b84 n E S r9 a0 a1 x3 0 x2 m3 r M' hr9 h
    · rw [if_neg c4] at h
      refine zi_iconst 1 d_Pa_findFitting_79 rfl ?_
      refine zi_goto (tgt := 84) d_Pa_findFitting_80 rfl ?_
      refine zi_lo [(0, .ref a0), (1, .ref a1), (3, .int x3)] [0, 1, 3] rfl ?_
      exact K_Pa_findFitting_b84 n E S r9 a0 a1 x3 1 x2 m3 r M' hr9 h
  · rw [if_neg c1] at h
    refine zi_iload 4 d_Pa_findFitting_31 rfl ?_
    refine zi_aload_n 0 d_Pa_findFitting_33 rfl ?_
    refine zi_aload_n 1 d_Pa_findFitting_34 rfl ?_
    refine zi_iload_n 3 d_Pa_findFitting_35 rfl ?_
    refine zi_bipush 8 d_Pa_findFitting_36 rfl ?_
    refine zi_imul d_Pa_findFitting_38 ?_
    refine zi_iload 5 d_Pa_findFitting_39 rfl ?_
    refine zi_iadd d_Pa_findFitting_41 ?_
    obtain ⟨u5, eu5, h⟩ := zbind h
    obtain ⟨q6, eq6, h⟩ := zbind h
    refine zo_virt (k' := 0) (n' := 0) 45 [.ref a1, .int ((x3 * 8) + x5)] [.int x4] [.int (bI q6.1), .int x4] zkd_4 (zck_s eu5) (C_Pa_fitsSeen n E S a0 a1 ((x3 * 8) + x5) M q6.1 q6.2 eq6) d_Pa_findFitting_42 tw_1048 tw_1045 tw_1047 ts_29 tw_12 dd_Pa_fitsSeen ⟨Nat.le_of_ble_eq_true rfl, Nat.le_of_ble_eq_true rfl, Nat.le_of_ble_eq_true rfl, Nat.le_of_ble_eq_true rfl⟩ (Nat.le_of_ble_eq_true rfl) rfl rfl rfl rfl ?_
    refine zo_ifeqB d_Pa_findFitting_45 rfl 48 rfl (fun c7 => ?_) (fun c7 => ?_)
    · rw [if_neg c7] at h
      refine zi_iconst 0 d_Pa_findFitting_55 rfl ?_
      refine zi_lo [(0, .ref a0), (1, .ref a1), (2, .int x2), (3, .int x3), (5, .int x5)] [0, 1, 2, 3, 5] rfl ?_
      exact K_Pa_findFitting_b56 n E S r9 r24 a0 a1 x2 x3 x5 0 x4 q6.2 r M' hr9 hr24 h
    · rw [if_pos c7] at h
      refine zi_iconst 1 d_Pa_findFitting_48 rfl ?_
      refine zi_iload 5 d_Pa_findFitting_49 rfl ?_
      refine zi_ishl d_Pa_findFitting_51 ?_
      refine zi_goto (tgt := 56) d_Pa_findFitting_52 rfl ?_
      refine zi_lo [(0, .ref a0), (1, .ref a1), (2, .int x2), (3, .int x3), (5, .int x5)] [0, 1, 2, 3, 5] rfl ?_
      exact K_Pa_findFitting_b56 n E S r9 r24 a0 a1 x2 x3 x5 ((1 : Int32) <<< (x5 &&& (31 : Int32))) x4 q6.2 r M' hr9 hr24 h
theorem K_Pa_findFitting_b24 (n : Nat) (E : zE) (S : zS) (r9 : Nat × Nat × Int32 × Int32 × zH → Option (Bool × zH)) (a0 : Nat) (a1 : Nat) (x2 : Int32) (x3 : Int32) (x4 : Int32) (x5 : Int32) (M : zH) (r : Bool) (M' : zH) (hr9 : ∀ (a0 : Nat) (a1 : Nat) (x2 : Int32) (x3 : Int32) (M : zH), r9 (a0, a1, x2, x3, M) = some (r, M') → zG E Y_Pa_findFitting (some (.int (bI r)), S, M') 9 [(0, .ref a0), (1, .ref a1), (2, .int x2), (3, .int x3)] [] S M 0 0) (h : F_Pa_findFitting_b24 n E S r9 (a0, a1, x2, x3, x4, x5, M) = some (r, M')) : zG E Y_Pa_findFitting (some (.int (bI r)), S, M') 24 [(0, .ref a0), (1, .ref a1), (2, .int x2), (3, .int x3), (4, .int x4), (5, .int x5)] [] S M 0 0 := by
  have key : ∀ (k : Nat) (a0 : Nat) (a1 : Nat) (x2 : Int32) (x3 : Int32) (x4 : Int32) (x5 : Int32) (M : zH), zfix (fun r24 s => F_Pa_findFitting_L24 n E S r9 r24 s.1 s.2.1 s.2.2.1 s.2.2.2.1 s.2.2.2.2.1 s.2.2.2.2.2.1 s.2.2.2.2.2.2) k (a0, a1, x2, x3, x4, x5, M) = some (r, M') → zG E Y_Pa_findFitting (some (.int (bI r)), S, M') 24 [(0, .ref a0), (1, .ref a1), (2, .int x2), (3, .int x3), (4, .int x4), (5, .int x5)] [] S M 0 0 := by
    intro k
    induction k with
    | zero => intro a0 a1 x2 x3 x4 x5 M h; cases h
    | succ k ih => intro a0 a1 x2 x3 x4 x5 M h; exact K_Pa_findFitting_L24 n E S r9 _ a0 a1 x2 x3 x4 x5 M r M' hr9 (fun a0 a1 x2 x3 x4 x5 M h => ih a0 a1 x2 x3 x4 x5 M h) h
  exact key n a0 a1 x2 x3 x4 x5 M h
theorem K_Pa_findFitting_L9 (n : Nat) (E : zE) (S : zS) (r9 : Nat × Nat × Int32 × Int32 × zH → Option (Bool × zH)) (a0 : Nat) (a1 : Nat) (x2 : Int32) (x3 : Int32) (M : zH) (r : Bool) (M' : zH) (hr9 : ∀ (a0 : Nat) (a1 : Nat) (x2 : Int32) (x3 : Int32) (M : zH), r9 (a0, a1, x2, x3, M) = some (r, M') → zG E Y_Pa_findFitting (some (.int (bI r)), S, M') 9 [(0, .ref a0), (1, .ref a1), (2, .int x2), (3, .int x3)] [] S M 0 0) (h : F_Pa_findFitting_L9 n E S r9 a0 a1 x2 x3 M = some (r, M')) : zG E Y_Pa_findFitting (some (.int (bI r)), S, M') 9 [(0, .ref a0), (1, .ref a1), (2, .int x2), (3, .int x3)] [] S M 0 0 := by
  unfold F_Pa_findFitting_L9 at h
  refine zi_iload_n 3 d_Pa_findFitting_9 rfl ?_
  refine zi_aload_n 0 d_Pa_findFitting_10 rfl ?_
  obtain ⟨b8, eb8, h⟩ := zbind h
  refine zo_getR 14 zkd_4 5 d_Pa_findFitting_11 eb8 rfl tw_303 rfl ?_
  obtain ⟨v9, ev9, h⟩ := zbind h
  refine zo_alen 15 d_Pa_findFitting_14 ev9 (by decide) rfl ?_
  refine zi_icmp_ge (tgt := 92) d_Pa_findFitting_15 rfl (fun c10 => ?_) (fun c10 => ?_)
  · rw [if_pos c10] at h
    refine zi_iload_n 2 d_Pa_findFitting_92 rfl ?_
    obtain ⟨z11, ez11, h⟩ := zbind h
    cases h
    exact zo_retB d_Pa_findFitting_93 (Nat.le_of_ble_eq_true rfl) (Nat.le_of_ble_eq_true rfl) (zbl_s ez11)
  · rw [if_neg c10] at h
    refine zi_iconst 0 d_Pa_findFitting_18 rfl ?_
    refine zi_istore [(4, .int 0), (0, .ref a0), (1, .ref a1), (2, .int x2), (3, .int x3)] d_Pa_findFitting_19 (by decide) rfl ?_
    refine zi_iconst 0 d_Pa_findFitting_21 rfl ?_
    refine zi_istore [(5, .int 0), (4, .int 0), (0, .ref a0), (1, .ref a1), (2, .int x2), (3, .int x3)] d_Pa_findFitting_22 (by decide) rfl ?_
    refine zi_lo [(0, .ref a0), (1, .ref a1), (2, .int x2), (3, .int x3), (4, .int 0), (5, .int 0)] [2, 3, 4, 5, 1, 0] rfl ?_
    exact K_Pa_findFitting_b24 n E S r9 a0 a1 x2 x3 0 0 M r M' hr9 h
theorem K_Pa_findFitting_b9 (n : Nat) (E : zE) (S : zS) (a0 : Nat) (a1 : Nat) (x2 : Int32) (x3 : Int32) (M : zH) (r : Bool) (M' : zH)  (h : F_Pa_findFitting_b9 n E S (a0, a1, x2, x3, M) = some (r, M')) : zG E Y_Pa_findFitting (some (.int (bI r)), S, M') 9 [(0, .ref a0), (1, .ref a1), (2, .int x2), (3, .int x3)] [] S M 0 0 := by
  have key : ∀ (k : Nat) (a0 : Nat) (a1 : Nat) (x2 : Int32) (x3 : Int32) (M : zH), zfix (fun r9 s => F_Pa_findFitting_L9 n E S r9 s.1 s.2.1 s.2.2.1 s.2.2.2.1 s.2.2.2.2) k (a0, a1, x2, x3, M) = some (r, M') → zG E Y_Pa_findFitting (some (.int (bI r)), S, M') 9 [(0, .ref a0), (1, .ref a1), (2, .int x2), (3, .int x3)] [] S M 0 0 := by
    intro k
    induction k with
    | zero => intro a0 a1 x2 x3 M h; cases h
    | succ k ih => intro a0 a1 x2 x3 M h; exact K_Pa_findFitting_L9 n E S _ a0 a1 x2 x3 M r M'  (fun a0 a1 x2 x3 M h => ih a0 a1 x2 x3 M h) h
  exact key n a0 a1 x2 x3 M h
theorem K_Pa_findFitting (n : Nat) (E : zE) (S : zS) (a0 : Nat) (a1 : Nat) (M : zH) (r : Bool) (M' : zH)  (h : F_Pa_findFitting n E S a0 a1 M = some (r, M')) : zG E Y_Pa_findFitting (some (.int (bI r)), S, M') 0 [(0, .ref a0), (1, .ref a1)] [] S M 0 0 := by
  unfold F_Pa_findFitting at h
  refine zi_aload_n 0 d_Pa_findFitting_0 rfl ?_
  refine zi_aload_n 1 d_Pa_findFitting_1 rfl ?_
  obtain ⟨u12, eu12, h⟩ := zbind h
  obtain ⟨q13, eq13, h⟩ := zbind h
  refine zo_virt (k' := 0) (n' := 0) 5 [.ref a1] [] [] zkd_4 (zck_s eu12) (C_Pa_findShares n E S a0 a1 M q13 eq13) d_Pa_findFitting_2 tw_1039 tw_1036 tw_1038 ts_28 tw_12 dd_Pa_findShares ⟨Nat.le_of_ble_eq_true rfl, Nat.le_of_ble_eq_true rfl, Nat.le_of_ble_eq_true rfl, Nat.le_of_ble_eq_true rfl⟩ (Nat.le_of_ble_eq_true rfl) rfl rfl rfl rfl ?_
  refine zi_iconst 0 d_Pa_findFitting_5 rfl ?_
  refine zi_istore_n [(2, .int 0), (0, .ref a0), (1, .ref a1)] d_Pa_findFitting_6 (by decide) rfl ?_
  refine zi_iconst 0 d_Pa_findFitting_7 rfl ?_
  refine zi_istore_n [(3, .int 0), (2, .int 0), (0, .ref a0), (1, .ref a1)] d_Pa_findFitting_8 (by decide) rfl ?_
  refine zi_lo [(0, .ref a0), (1, .ref a1), (2, .int 0), (3, .int 0)] [2, 3, 1, 0] rfl ?_
  exact K_Pa_findFitting_b9 n E S a0 a1 0 0 q13 r M'  h
theorem C_Pa_findFitting (n : Nat) (E : zE) (S : zS) (a0 : Nat) (a1 : Nat) (M : zH) (r : Bool) (M' : zH) (h : F_Pa_findFitting n E S a0 a1 M = some (r, M')) : zC E Y_Pa_findFitting [.ref a0, .ref a1] S M (some (.int (bI r)), S, M') :=
  zC.of (Or.inl (show plainName "NightColander$Paper" = true by decide)) (Nat.le_of_ble_eq_true rfl) (bI_nar r) (K_Pa_findFitting n E S a0 a1 M r M' h)
theorem d_Pa_mostAlike_0 : decode (yB Y_Pa_mostAlike) 0 = .ok (.aload_n 0, 1) := by decide +kernel
theorem d_Pa_mostAlike_1 : decode (yB Y_Pa_mostAlike) 1 = .ok (.getfield 31, 3) := by decide +kernel
theorem d_Pa_mostAlike_4 : decode (yB Y_Pa_mostAlike) 4 = .ok (.iconst 0, 1) := by decide +kernel
theorem d_Pa_mostAlike_5 : decode (yB Y_Pa_mostAlike) 5 = .ok (.invokestatic 109, 3) := by decide +kernel
theorem d_Pa_mostAlike_8 : decode (yB Y_Pa_mostAlike) 8 = .ok (.iconst 0, 1) := by decide +kernel
theorem d_Pa_mostAlike_9 : decode (yB Y_Pa_mostAlike) 9 = .ok (.istore_n 2, 1) := by decide +kernel
theorem d_Pa_mostAlike_10 : decode (yB Y_Pa_mostAlike) 10 = .ok (.iconst 0, 1) := by decide +kernel
theorem d_Pa_mostAlike_11 : decode (yB Y_Pa_mostAlike) 11 = .ok (.istore_n 3, 1) := by decide +kernel
theorem d_Pa_mostAlike_12 : decode (yB Y_Pa_mostAlike) 12 = .ok (.iload_n 3, 1) := by decide +kernel
theorem d_Pa_mostAlike_13 : decode (yB Y_Pa_mostAlike) 13 = .ok (.aload_n 0, 1) := by decide +kernel
theorem d_Pa_mostAlike_14 : decode (yB Y_Pa_mostAlike) 14 = .ok (.getfield 28, 3) := by decide +kernel
theorem d_Pa_mostAlike_17 : decode (yB Y_Pa_mostAlike) 17 = .ok (.arraylength, 1) := by decide +kernel
theorem d_Pa_mostAlike_18 : decode (yB Y_Pa_mostAlike) 18 = .ok (.if_icmp .ge 113, 3) := by decide +kernel
theorem d_Pa_mostAlike_21 : decode (yB Y_Pa_mostAlike) 21 = .ok (.aload_n 0, 1) := by decide +kernel
theorem d_Pa_mostAlike_22 : decode (yB Y_Pa_mostAlike) 22 = .ok (.getfield 28, 3) := by decide +kernel
theorem d_Pa_mostAlike_25 : decode (yB Y_Pa_mostAlike) 25 = .ok (.iload_n 3, 1) := by decide +kernel
theorem d_Pa_mostAlike_26 : decode (yB Y_Pa_mostAlike) 26 = .ok (.iaload, 1) := by decide +kernel
theorem d_Pa_mostAlike_27 : decode (yB Y_Pa_mostAlike) 27 = .ok (.ifCond .ne 6, 3) := by decide +kernel
theorem d_Pa_mostAlike_30 : decode (yB Y_Pa_mostAlike) 30 = .ok (.goto 95, 3) := by decide +kernel
theorem d_Pa_mostAlike_33 : decode (yB Y_Pa_mostAlike) 33 = .ok (.aload_n 0, 1) := by decide +kernel
theorem d_Pa_mostAlike_34 : decode (yB Y_Pa_mostAlike) 34 = .ok (.iload_n 3, 1) := by decide +kernel
theorem d_Pa_mostAlike_35 : decode (yB Y_Pa_mostAlike) 35 = .ok (.iload_n 1, 1) := by decide +kernel
theorem d_Pa_mostAlike_36 : decode (yB Y_Pa_mostAlike) 36 = .ok (.invokevirtual 119, 3) := by decide +kernel
theorem d_Pa_mostAlike_39 : decode (yB Y_Pa_mostAlike) 39 = .ok (.istore 4, 2) := by decide +kernel
theorem d_Pa_mostAlike_41 : decode (yB Y_Pa_mostAlike) 41 = .ok (.iconst 0, 1) := by decide +kernel
theorem d_Pa_mostAlike_42 : decode (yB Y_Pa_mostAlike) 42 = .ok (.istore 5, 2) := by decide +kernel
theorem d_Pa_mostAlike_44 : decode (yB Y_Pa_mostAlike) 44 = .ok (.iload 5, 2) := by decide +kernel
theorem d_Pa_mostAlike_46 : decode (yB Y_Pa_mostAlike) 46 = .ok (.bipush 8, 2) := by decide +kernel
theorem d_Pa_mostAlike_48 : decode (yB Y_Pa_mostAlike) 48 = .ok (.if_icmp .ge 77, 3) := by decide +kernel
theorem d_Pa_mostAlike_51 : decode (yB Y_Pa_mostAlike) 51 = .ok (.iload 4, 2) := by decide +kernel
theorem d_Pa_mostAlike_53 : decode (yB Y_Pa_mostAlike) 53 = .ok (.aload_n 0, 1) := by decide +kernel
theorem d_Pa_mostAlike_54 : decode (yB Y_Pa_mostAlike) 54 = .ok (.getfield 18, 3) := by decide +kernel
theorem d_Pa_mostAlike_57 : decode (yB Y_Pa_mostAlike) 57 = .ok (.sipush 192, 3) := by decide +kernel
theorem d_Pa_mostAlike_60 : decode (yB Y_Pa_mostAlike) 60 = .ok (.iload 5, 2) := by decide +kernel
theorem d_Pa_mostAlike_62 : decode (yB Y_Pa_mostAlike) 62 = .ok (.bipush 8, 2) := by decide +kernel
theorem d_Pa_mostAlike_64 : decode (yB Y_Pa_mostAlike) 64 = .ok (.imul, 1) := by decide +kernel
theorem d_Pa_mostAlike_65 : decode (yB Y_Pa_mostAlike) 65 = .ok (.iadd, 1) := by decide +kernel
theorem d_Pa_mostAlike_66 : decode (yB Y_Pa_mostAlike) 66 = .ok (.iload_n 1, 1) := by decide +kernel
theorem d_Pa_mostAlike_67 : decode (yB Y_Pa_mostAlike) 67 = .ok (.iadd, 1) := by decide +kernel
theorem d_Pa_mostAlike_68 : decode (yB Y_Pa_mostAlike) 68 = .ok (.iaload, 1) := by decide +kernel
theorem d_Pa_mostAlike_69 : decode (yB Y_Pa_mostAlike) 69 = .ok (.iadd, 1) := by decide +kernel
theorem d_Pa_mostAlike_70 : decode (yB Y_Pa_mostAlike) 70 = .ok (.istore 6, 2) := by decide +kernel
theorem d_Pa_mostAlike_72 : decode (yB Y_Pa_mostAlike) 72 = .ok (.aload_n 0, 1) := by decide +kernel
theorem d_Pa_mostAlike_73 : decode (yB Y_Pa_mostAlike) 73 = .ok (.getfield 28, 3) := by decide +kernel
theorem d_Pa_mostAlike_76 : decode (yB Y_Pa_mostAlike) 76 = .ok (.iload_n 3, 1) := by decide +kernel
theorem d_Pa_mostAlike_77 : decode (yB Y_Pa_mostAlike) 77 = .ok (.iaload, 1) := by decide +kernel
theorem d_Pa_mostAlike_78 : decode (yB Y_Pa_mostAlike) 78 = .ok (.iconst 1, 1) := by decide +kernel
theorem d_Pa_mostAlike_79 : decode (yB Y_Pa_mostAlike) 79 = .ok (.iload 5, 2) := by decide +kernel
theorem d_Pa_mostAlike_81 : decode (yB Y_Pa_mostAlike) 81 = .ok (.ishl, 1) := by decide +kernel
theorem d_Pa_mostAlike_82 : decode (yB Y_Pa_mostAlike) 82 = .ok (.iand, 1) := by decide +kernel
theorem d_Pa_mostAlike_83 : decode (yB Y_Pa_mostAlike) 83 = .ok (.ifCond .eq 36, 3) := by decide +kernel
theorem d_Pa_mostAlike_86 : decode (yB Y_Pa_mostAlike) 86 = .ok (.iload 6, 2) := by decide +kernel
theorem d_Pa_mostAlike_88 : decode (yB Y_Pa_mostAlike) 88 = .ok (.aload_n 0, 1) := by decide +kernel
theorem d_Pa_mostAlike_89 : decode (yB Y_Pa_mostAlike) 89 = .ok (.getfield 31, 3) := by decide +kernel
theorem d_Pa_mostAlike_92 : decode (yB Y_Pa_mostAlike) 92 = .ok (.arraylength, 1) := by decide +kernel
theorem d_Pa_mostAlike_93 : decode (yB Y_Pa_mostAlike) 93 = .ok (.if_icmp .ge 26, 3) := by decide +kernel
theorem d_Pa_mostAlike_96 : decode (yB Y_Pa_mostAlike) 96 = .ok (.aload_n 0, 1) := by decide +kernel
theorem d_Pa_mostAlike_97 : decode (yB Y_Pa_mostAlike) 97 = .ok (.getfield 31, 3) := by decide +kernel
theorem d_Pa_mostAlike_100 : decode (yB Y_Pa_mostAlike) 100 = .ok (.iload 6, 2) := by decide +kernel
theorem d_Pa_mostAlike_102 : decode (yB Y_Pa_mostAlike) 102 = .ok (.dup2, 1) := by decide +kernel
theorem d_Pa_mostAlike_103 : decode (yB Y_Pa_mostAlike) 103 = .ok (.iaload, 1) := by decide +kernel
theorem d_Pa_mostAlike_104 : decode (yB Y_Pa_mostAlike) 104 = .ok (.iconst 1, 1) := by decide +kernel
theorem d_Pa_mostAlike_105 : decode (yB Y_Pa_mostAlike) 105 = .ok (.iadd, 1) := by decide +kernel
theorem d_Pa_mostAlike_106 : decode (yB Y_Pa_mostAlike) 106 = .ok (.iastore, 1) := by decide +kernel
theorem d_Pa_mostAlike_107 : decode (yB Y_Pa_mostAlike) 107 = .ok (.iload_n 2, 1) := by decide +kernel
theorem d_Pa_mostAlike_108 : decode (yB Y_Pa_mostAlike) 108 = .ok (.aload_n 0, 1) := by decide +kernel
theorem d_Pa_mostAlike_109 : decode (yB Y_Pa_mostAlike) 109 = .ok (.getfield 31, 3) := by decide +kernel
theorem d_Pa_mostAlike_112 : decode (yB Y_Pa_mostAlike) 112 = .ok (.iload 6, 2) := by decide +kernel
theorem d_Pa_mostAlike_114 : decode (yB Y_Pa_mostAlike) 114 = .ok (.iaload, 1) := by decide +kernel
theorem d_Pa_mostAlike_115 : decode (yB Y_Pa_mostAlike) 115 = .ok (.invokestatic 67, 3) := by decide +kernel
theorem d_Pa_mostAlike_118 : decode (yB Y_Pa_mostAlike) 118 = .ok (.istore_n 2, 1) := by decide +kernel
theorem d_Pa_mostAlike_119 : decode (yB Y_Pa_mostAlike) 119 = .ok (.iinc 5 1, 3) := by decide +kernel
theorem d_Pa_mostAlike_122 : decode (yB Y_Pa_mostAlike) 122 = .ok (.goto (-78), 3) := by decide +kernel
theorem d_Pa_mostAlike_125 : decode (yB Y_Pa_mostAlike) 125 = .ok (.iinc 3 1, 3) := by decide +kernel
theorem d_Pa_mostAlike_128 : decode (yB Y_Pa_mostAlike) 128 = .ok (.goto (-116), 3) := by decide +kernel
theorem d_Pa_mostAlike_131 : decode (yB Y_Pa_mostAlike) 131 = .ok (.iload_n 2, 1) := by decide +kernel
theorem d_Pa_mostAlike_132 : decode (yB Y_Pa_mostAlike) 132 = .ok (.ireturn, 1) := by decide +kernel
def F_Pa_mostAlike_b119 (n : Nat) (E : zE) (S : zS) (r12 : Nat × Int32 × Int32 × Int32 × zH → Option (Int32 × zH)) (r44 : Nat × Int32 × Int32 × Int32 × Int32 × Int32 × zH → Option (Int32 × zH)) (a0 : Nat) (x1 : Int32) (x2 : Int32) (x3 : Int32) (x4 : Int32) (x5 : Int32) (M : zH) : Option (Int32 × zH) :=
  r44 (a0, x1, x2, x3, x4, x5 + 1, M)
def F_Pa_mostAlike_b125 (n : Nat) (E : zE) (S : zS) (r12 : Nat × Int32 × Int32 × Int32 × zH → Option (Int32 × zH)) (a0 : Nat) (x1 : Int32) (x2 : Int32) (x3 : Int32) (M : zH) : Option (Int32 × zH) :=
  r12 (a0, x1, x2, x3 + 1, M)
def F_Pa_mostAlike_L44 (n : Nat) (E : zE) (S : zS) (r12 : Nat × Int32 × Int32 × Int32 × zH → Option (Int32 × zH)) (r44 : Nat × Int32 × Int32 × Int32 × Int32 × Int32 × zH → Option (Int32 × zH)) (a0 : Nat) (x1 : Int32) (x2 : Int32) (x3 : Int32) (x4 : Int32) (x5 : Int32) (M : zH) : Option (Int32 × zH) :=
  if 8 ≤ x5 then
    F_Pa_mostAlike_b125 n E S r12 a0 x1 x2 x3 M
  else
    (zgR S a0 4 2).bind fun b2 =>
    (zldI S M b2 ((192 + (x5 * 8)) + x1)).bind fun v3 =>
    (zgR S a0 4 5).bind fun b4 =>
    (zldI S M b4 x3).bind fun v5 =>
    if (v5 &&& ((1 : Int32) <<< (x5 &&& (31 : Int32)))) = 0 then
      F_Pa_mostAlike_b119 n E S r12 r44 a0 x1 x2 x3 x4 x5 M
    else
      (zgR S a0 4 6).bind fun b7 =>
      (zlen S 12 b7).bind fun v8 =>
      if v8 ≤ (x4 + v3) then
        F_Pa_mostAlike_b119 n E S r12 r44 a0 x1 x2 x3 x4 x5 M
      else
        (zldI S M b7 (x4 + v3)).bind fun v10 =>
        (zstI S M b7 (x4 + v3) (v10 + 1)).bind fun m11 =>
        (zldI S m11 b7 (x4 + v3)).bind fun v12 =>
        (F_Jm_max n E S x2 v12 m11).bind fun q13 =>
        F_Pa_mostAlike_b119 n E S r12 r44 a0 x1 q13.1 x3 x4 x5 q13.2
def F_Pa_mostAlike_b44 (n : Nat) (E : zE) (S : zS) (r12 : Nat × Int32 × Int32 × Int32 × zH → Option (Int32 × zH)) : Nat × Int32 × Int32 × Int32 × Int32 × Int32 × zH → Option (Int32 × zH) := zfix (fun r44 s => F_Pa_mostAlike_L44 n E S r12 r44 s.1 s.2.1 s.2.2.1 s.2.2.2.1 s.2.2.2.2.1 s.2.2.2.2.2.1 s.2.2.2.2.2.2) n
def F_Pa_mostAlike_L12 (n : Nat) (E : zE) (S : zS) (r12 : Nat × Int32 × Int32 × Int32 × zH → Option (Int32 × zH)) (a0 : Nat) (x1 : Int32) (x2 : Int32) (x3 : Int32) (M : zH) : Option (Int32 × zH) :=
  (zgR S a0 4 5).bind fun b14 =>
  (zlen S 12 b14).bind fun v15 =>
  if v15 ≤ x3 then
    some (x2, M)
  else
    (zldI S M b14 x3).bind fun v17 =>
    if v17 = 0 then
      F_Pa_mostAlike_b125 n E S r12 a0 x1 x2 x3 M
    else
      (F_Pa_threadsByThree n E S a0 x3 x1 M).bind fun q19 =>
      F_Pa_mostAlike_b44 n E S r12 (a0, x1, x2, x3, q19.1, 0, q19.2)
def F_Pa_mostAlike_b12 (n : Nat) (E : zE) (S : zS) : Nat × Int32 × Int32 × Int32 × zH → Option (Int32 × zH) := zfix (fun r12 s => F_Pa_mostAlike_L12 n E S r12 s.1 s.2.1 s.2.2.1 s.2.2.2.1 s.2.2.2.2) n
def F_Pa_mostAlike (n : Nat) (E : zE) (S : zS) (a0 : Nat) (x1 : Int32) (M : zH) : Option (Int32 × zH) :=
  (zgR S a0 4 6).bind fun b20 =>
  (F_Ja_fillI n E S b20 0 M).bind fun q21 =>
  F_Pa_mostAlike_b12 n E S (a0, x1, 0, 0, q21)
theorem K_Pa_mostAlike_b119 (n : Nat) (E : zE) (S : zS) (r12 : Nat × Int32 × Int32 × Int32 × zH → Option (Int32 × zH)) (r44 : Nat × Int32 × Int32 × Int32 × Int32 × Int32 × zH → Option (Int32 × zH)) (a0 : Nat) (x1 : Int32) (x2 : Int32) (x3 : Int32) (x4 : Int32) (x5 : Int32) (M : zH) (r : Int32) (M' : zH) (hr12 : ∀ (a0 : Nat) (x1 : Int32) (x2 : Int32) (x3 : Int32) (M : zH), r12 (a0, x1, x2, x3, M) = some (r, M') → zG E Y_Pa_mostAlike (some (.int r), S, M') 12 [(0, .ref a0), (1, .int x1), (2, .int x2), (3, .int x3)] [] S M 0 0) (hr44 : ∀ (a0 : Nat) (x1 : Int32) (x2 : Int32) (x3 : Int32) (x4 : Int32) (x5 : Int32) (M : zH), r44 (a0, x1, x2, x3, x4, x5, M) = some (r, M') → zG E Y_Pa_mostAlike (some (.int r), S, M') 44 [(0, .ref a0), (1, .int x1), (2, .int x2), (3, .int x3), (4, .int x4), (5, .int x5)] [] S M 0 0) (h : F_Pa_mostAlike_b119 n E S r12 r44 a0 x1 x2 x3 x4 x5 M = some (r, M')) : zG E Y_Pa_mostAlike (some (.int r), S, M') 119 [(0, .ref a0), (1, .int x1), (2, .int x2), (3, .int x3), (4, .int x4), (5, .int x5)] [] S M 0 0 := by
  unfold F_Pa_mostAlike_b119 at h
  refine zi_iinc 5 (x5 + 1) [(5, .int (x5 + 1)), (0, .ref a0), (1, .int x1), (2, .int x2), (3, .int x3), (4, .int x4)] d_Pa_mostAlike_119 rfl rfl (by decide) rfl ?_
  refine zi_goto (tgt := 44) d_Pa_mostAlike_122 rfl ?_
  refine zi_lo [(0, .ref a0), (1, .int x1), (2, .int x2), (3, .int x3), (4, .int x4), (5, .int (x5 + 1))] [1, 2, 3, 4, 5, 0] rfl ?_
  exact hr44 a0 x1 x2 x3 x4 (x5 + 1) M h
theorem K_Pa_mostAlike_b125 (n : Nat) (E : zE) (S : zS) (r12 : Nat × Int32 × Int32 × Int32 × zH → Option (Int32 × zH)) (a0 : Nat) (x1 : Int32) (x2 : Int32) (x3 : Int32) (M : zH) (r : Int32) (M' : zH) (hr12 : ∀ (a0 : Nat) (x1 : Int32) (x2 : Int32) (x3 : Int32) (M : zH), r12 (a0, x1, x2, x3, M) = some (r, M') → zG E Y_Pa_mostAlike (some (.int r), S, M') 12 [(0, .ref a0), (1, .int x1), (2, .int x2), (3, .int x3)] [] S M 0 0) (h : F_Pa_mostAlike_b125 n E S r12 a0 x1 x2 x3 M = some (r, M')) : zG E Y_Pa_mostAlike (some (.int r), S, M') 125 [(0, .ref a0), (1, .int x1), (2, .int x2), (3, .int x3)] [] S M 0 0 := by
  unfold F_Pa_mostAlike_b125 at h
  refine zi_iinc 3 (x3 + 1) [(3, .int (x3 + 1)), (0, .ref a0), (1, .int x1), (2, .int x2)] d_Pa_mostAlike_125 rfl rfl (by decide) rfl ?_
  refine zi_goto (tgt := 12) d_Pa_mostAlike_128 rfl ?_
  refine zi_lo [(0, .ref a0), (1, .int x1), (2, .int x2), (3, .int (x3 + 1))] [1, 2, 3, 0] rfl ?_
  exact hr12 a0 x1 x2 (x3 + 1) M h
theorem K_Pa_mostAlike_L44 (n : Nat) (E : zE) (S : zS) (r12 : Nat × Int32 × Int32 × Int32 × zH → Option (Int32 × zH)) (r44 : Nat × Int32 × Int32 × Int32 × Int32 × Int32 × zH → Option (Int32 × zH)) (a0 : Nat) (x1 : Int32) (x2 : Int32) (x3 : Int32) (x4 : Int32) (x5 : Int32) (M : zH) (r : Int32) (M' : zH) (hr12 : ∀ (a0 : Nat) (x1 : Int32) (x2 : Int32) (x3 : Int32) (M : zH), r12 (a0, x1, x2, x3, M) = some (r, M') → zG E Y_Pa_mostAlike (some (.int r), S, M') 12 [(0, .ref a0), (1, .int x1), (2, .int x2), (3, .int x3)] [] S M 0 0) (hr44 : ∀ (a0 : Nat) (x1 : Int32) (x2 : Int32) (x3 : Int32) (x4 : Int32) (x5 : Int32) (M : zH), r44 (a0, x1, x2, x3, x4, x5, M) = some (r, M') → zG E Y_Pa_mostAlike (some (.int r), S, M') 44 [(0, .ref a0), (1, .int x1), (2, .int x2), (3, .int x3), (4, .int x4), (5, .int x5)] [] S M 0 0) (h : F_Pa_mostAlike_L44 n E S r12 r44 a0 x1 x2 x3 x4 x5 M = some (r, M')) : zG E Y_Pa_mostAlike (some (.int r), S, M') 44 [(0, .ref a0), (1, .int x1), (2, .int x2), (3, .int x3), (4, .int x4), (5, .int x5)] [] S M 0 0 := by
  unfold F_Pa_mostAlike_L44 at h
  refine zi_iload 5 d_Pa_mostAlike_44 rfl ?_
  refine zi_bipush 8 d_Pa_mostAlike_46 rfl ?_
  refine zi_icmp_ge (tgt := 125) d_Pa_mostAlike_48 rfl (fun c1 => ?_) (fun c1 => ?_)
  · rw [if_pos c1] at h
    refine zi_lo [(0, .ref a0), (1, .int x1), (2, .int x2), (3, .int x3)] [0, 1, 2, 3] rfl ?_
    exact K_Pa_mostAlike_b125 n E S r12 a0 x1 x2 x3 M r M' hr12 h
  · rw [if_neg c1] at h
    refine zi_iload 4 d_Pa_mostAlike_51 rfl ?_
    refine zi_aload_n 0 d_Pa_mostAlike_53 rfl ?_
    obtain ⟨b2, eb2, h⟩ := zbind h
    refine zo_getR 57 zkd_4 2 d_Pa_mostAlike_54 eb2 rfl tw_300 rfl ?_
    refine zi_sipush 192 d_Pa_mostAlike_57 rfl ?_
    refine zi_iload 5 d_Pa_mostAlike_60 rfl ?_
    refine zi_bipush 8 d_Pa_mostAlike_62 rfl ?_
    refine zi_imul d_Pa_mostAlike_64 ?_
    refine zi_iadd d_Pa_mostAlike_65 ?_
    refine zi_iload_n 1 d_Pa_mostAlike_66 rfl ?_
    refine zi_iadd d_Pa_mostAlike_67 ?_
    obtain ⟨v3, ev3, h⟩ := zbind h
    refine zo_iald 69 d_Pa_mostAlike_68 ev3 rfl ?_
    refine zi_iadd d_Pa_mostAlike_69 ?_
    refine zi_istore [(6, .int (x4 + v3)), (0, .ref a0), (1, .int x1), (2, .int x2), (3, .int x3), (4, .int x4), (5, .int x5)] d_Pa_mostAlike_70 (by decide) rfl ?_
    refine zi_aload_n 1 d_Pa_mostAlike_72 rfl ?_
    obtain ⟨b4, eb4, h⟩ := zbind h
    refine zo_getR 76 zkd_4 5 d_Pa_mostAlike_73 eb4 rfl tw_303 rfl ?_
    refine zi_iload_n 4 d_Pa_mostAlike_76 rfl ?_
    obtain ⟨v5, ev5, h⟩ := zbind h
    refine zo_iald 78 d_Pa_mostAlike_77 ev5 rfl ?_
    refine zi_iconst 1 d_Pa_mostAlike_78 rfl ?_
    refine zi_iload 6 d_Pa_mostAlike_79 rfl ?_
    refine zi_ishl d_Pa_mostAlike_81 ?_
    refine zi_iand d_Pa_mostAlike_82 ?_
    refine zi_if_eq (tgt := 119) d_Pa_mostAlike_83 rfl (fun c6 => ?_) (fun c6 => ?_)
    · rw [if_pos c6] at h
      refine zi_lo [(0, .ref a0), (1, .int x1), (2, .int x2), (3, .int x3), (4, .int x4), (5, .int x5)] [1, 2, 3, 4, 5, 6] rfl ?_
      exact K_Pa_mostAlike_b119 n E S r12 r44 a0 x1 x2 x3 x4 x5 M r M' hr12 hr44 h
    · rw [if_neg c6] at h
      refine zi_iload 0 d_Pa_mostAlike_86 rfl ?_
      refine zi_aload_n 1 d_Pa_mostAlike_88 rfl ?_
      obtain ⟨b7, eb7, h⟩ := zbind h
      refine zo_getR 92 zkd_4 6 d_Pa_mostAlike_89 eb7 rfl tw_304 rfl ?_
      obtain ⟨v8, ev8, h⟩ := zbind h
      refine zo_alen 93 d_Pa_mostAlike_92 ev8 (by decide) rfl ?_
      refine zi_icmp_ge (tgt := 119) d_Pa_mostAlike_93 rfl (fun c9 => ?_) (fun c9 => ?_)
      · rw [if_pos c9] at h
        refine zi_lo [(0, .ref a0), (1, .int x1), (2, .int x2), (3, .int x3), (4, .int x4), (5, .int x5)] [1, 2, 3, 4, 5, 6] rfl ?_
        exact K_Pa_mostAlike_b119 n E S r12 r44 a0 x1 x2 x3 x4 x5 M r M' hr12 hr44 h
      · rw [if_neg c9] at h
        refine zi_aload_n 1 d_Pa_mostAlike_96 rfl ?_
        refine zo_getR 100 zkd_4 6 d_Pa_mostAlike_97 eb7 rfl tw_304 rfl ?_
        refine zi_iload 0 d_Pa_mostAlike_100 rfl ?_
        refine zi_dup2 d_Pa_mostAlike_102 rfl rfl ?_
        obtain ⟨v10, ev10, h⟩ := zbind h
        refine zo_iald 104 d_Pa_mostAlike_103 ev10 rfl ?_
        refine zi_iconst 1 d_Pa_mostAlike_104 rfl ?_
        refine zi_iadd d_Pa_mostAlike_105 ?_
        obtain ⟨m11, em11, h⟩ := zbind h
        refine zo_iast 107 d_Pa_mostAlike_106 em11 rfl ?_
        refine zi_iload_n 3 d_Pa_mostAlike_107 rfl ?_
        refine zi_aload_n 1 d_Pa_mostAlike_108 rfl ?_
        refine zo_getR 112 zkd_4 6 d_Pa_mostAlike_109 eb7 rfl tw_304 rfl ?_
        refine zi_iload 0 d_Pa_mostAlike_112 rfl ?_
        obtain ⟨v12, ev12, h⟩ := zbind h
        refine zo_iald 115 d_Pa_mostAlike_114 ev12 rfl ?_
        obtain ⟨q13, eq13, h⟩ := zbind h
        refine zo_stat (k' := 0) (n' := 0) 118 [.int x2, .int v12] [] [.int q13.1] (C_Jm_max n E S x2 v12 m11 q13.1 q13.2 eq13) d_Pa_mostAlike_115 tw_436 tw_1006 tw_435 tw_14 dd_Jm_max ⟨Nat.le_of_ble_eq_true rfl, Nat.le_of_ble_eq_true rfl, Nat.le_of_ble_eq_true rfl, Nat.le_of_ble_eq_true rfl⟩ (Nat.le_of_ble_eq_true rfl) rfl rfl rfl rfl ?_
        refine zi_istore_n [(2, .int q13.1), (6, .int (x4 + v3)), (0, .ref a0), (1, .int x1), (3, .int x3), (4, .int x4), (5, .int x5)] d_Pa_mostAlike_118 (by decide) rfl ?_
        refine zi_lo [(0, .ref a0), (1, .int x1), (2, .int q13.1), (3, .int x3), (4, .int x4), (5, .int x5)] [2, 3, 0, 4, 5, 6] rfl ?_
        exact K_Pa_mostAlike_b119 n E S r12 r44 a0 x1 q13.1 x3 x4 x5 q13.2 r M' hr12 hr44 h
theorem K_Pa_mostAlike_b44 (n : Nat) (E : zE) (S : zS) (r12 : Nat × Int32 × Int32 × Int32 × zH → Option (Int32 × zH)) (a0 : Nat) (x1 : Int32) (x2 : Int32) (x3 : Int32) (x4 : Int32) (x5 : Int32) (M : zH) (r : Int32) (M' : zH) (hr12 : ∀ (a0 : Nat) (x1 : Int32) (x2 : Int32) (x3 : Int32) (M : zH), r12 (a0, x1, x2, x3, M) = some (r, M') → zG E Y_Pa_mostAlike (some (.int r), S, M') 12 [(0, .ref a0), (1, .int x1), (2, .int x2), (3, .int x3)] [] S M 0 0) (h : F_Pa_mostAlike_b44 n E S r12 (a0, x1, x2, x3, x4, x5, M) = some (r, M')) : zG E Y_Pa_mostAlike (some (.int r), S, M') 44 [(0, .ref a0), (1, .int x1), (2, .int x2), (3, .int x3), (4, .int x4), (5, .int x5)] [] S M 0 0 := by
  have key : ∀ (k : Nat) (a0 : Nat) (x1 : Int32) (x2 : Int32) (x3 : Int32) (x4 : Int32) (x5 : Int32) (M : zH), zfix (fun r44 s => F_Pa_mostAlike_L44 n E S r12 r44 s.1 s.2.1 s.2.2.1 s.2.2.2.1 s.2.2.2.2.1 s.2.2.2.2.2.1 s.2.2.2.2.2.2) k (a0, x1, x2, x3, x4, x5, M) = some (r, M') → zG E Y_Pa_mostAlike (some (.int r), S, M') 44 [(0, .ref a0), (1, .int x1), (2, .int x2), (3, .int x3), (4, .int x4), (5, .int x5)] [] S M 0 0 := by
    intro k
    induction k with
    | zero => intro a0 x1 x2 x3 x4 x5 M h; cases h
    | succ k ih => intro a0 x1 x2 x3 x4 x5 M h; exact K_Pa_mostAlike_L44 n E S r12 _ a0 x1 x2 x3 x4 x5 M r M' hr12 (fun a0 x1 x2 x3 x4 x5 M h => ih a0 x1 x2 x3 x4 x5 M h) h
  exact key n a0 x1 x2 x3 x4 x5 M h
theorem K_Pa_mostAlike_L12 (n : Nat) (E : zE) (S : zS) (r12 : Nat × Int32 × Int32 × Int32 × zH → Option (Int32 × zH)) (a0 : Nat) (x1 : Int32) (x2 : Int32) (x3 : Int32) (M : zH) (r : Int32) (M' : zH) (hr12 : ∀ (a0 : Nat) (x1 : Int32) (x2 : Int32) (x3 : Int32) (M : zH), r12 (a0, x1, x2, x3, M) = some (r, M') → zG E Y_Pa_mostAlike (some (.int r), S, M') 12 [(0, .ref a0), (1, .int x1), (2, .int x2), (3, .int x3)] [] S M 0 0) (h : F_Pa_mostAlike_L12 n E S r12 a0 x1 x2 x3 M = some (r, M')) : zG E Y_Pa_mostAlike (some (.int r), S, M') 12 [(0, .ref a0), (1, .int x1), (2, .int x2), (3, .int x3)] [] S M 0 0 := by
  unfold F_Pa_mostAlike_L12 at h
  refine zi_iload_n 3 d_Pa_mostAlike_12 rfl ?_
  refine zi_aload_n 0 d_Pa_mostAlike_13 rfl ?_
  obtain ⟨b14, eb14, h⟩ := zbind h
  refine zo_getR 17 zkd_4 5 d_Pa_mostAlike_14 eb14 rfl tw_303 rfl ?_
  obtain ⟨v15, ev15, h⟩ := zbind h
  refine zo_alen 18 d_Pa_mostAlike_17 ev15 (by decide) rfl ?_
  refine zi_icmp_ge (tgt := 131) d_Pa_mostAlike_18 rfl (fun c16 => ?_) (fun c16 => ?_)
  · rw [if_pos c16] at h
    refine zi_iload_n 2 d_Pa_mostAlike_131 rfl ?_
    cases h
    exact zo_ret d_Pa_mostAlike_132 (Nat.le_of_ble_eq_true rfl) (Nat.le_of_ble_eq_true rfl) rfl
  · rw [if_neg c16] at h
    refine zi_aload_n 0 d_Pa_mostAlike_21 rfl ?_
    refine zo_getR 25 zkd_4 5 d_Pa_mostAlike_22 eb14 rfl tw_303 rfl ?_
    refine zi_iload_n 3 d_Pa_mostAlike_25 rfl ?_
    obtain ⟨v17, ev17, h⟩ := zbind h
    refine zo_iald 27 d_Pa_mostAlike_26 ev17 rfl ?_
    refine zi_if_ne (tgt := 33) d_Pa_mostAlike_27 rfl (fun c18 => ?_) (fun c18 => ?_)
    · rw [if_neg c18] at h
      refine zi_aload_n 0 d_Pa_mostAlike_33 rfl ?_
      refine zi_iload_n 3 d_Pa_mostAlike_34 rfl ?_
      refine zi_iload_n 1 d_Pa_mostAlike_35 rfl ?_
      obtain ⟨q19, eq19, h⟩ := zbind h
      refine zo_virt (k' := 0) (n' := 0) 39 [.int x3, .int x1] [] [.int q19.1] zkd_4 (zgR_s eb14).1 (C_Pa_threadsByThree n E S a0 x3 x1 M q19.1 q19.2 eq19) d_Pa_mostAlike_36 tw_1056 tw_1053 tw_1055 ts_31 tw_12 dd_Pa_threadsByThree ⟨Nat.le_of_ble_eq_true rfl, Nat.le_of_ble_eq_true rfl, Nat.le_of_ble_eq_true rfl, Nat.le_of_ble_eq_true rfl⟩ (Nat.le_of_ble_eq_true rfl) rfl rfl rfl rfl ?_
      refine zi_istore [(4, .int q19.1), (0, .ref a0), (1, .int x1), (2, .int x2), (3, .int x3)] d_Pa_mostAlike_39 (by decide) rfl ?_
      refine zi_iconst 0 d_Pa_mostAlike_41 rfl ?_
      refine zi_istore [(5, .int 0), (4, .int q19.1), (0, .ref a0), (1, .int x1), (2, .int x2), (3, .int x3)] d_Pa_mostAlike_42 (by decide) rfl ?_
      refine zi_lo [(0, .ref a0), (1, .int x1), (2, .int x2), (3, .int x3), (4, .int q19.1), (5, .int 0)] [2, 3, 4, 5, 1, 0] rfl ?_
      exact K_Pa_mostAlike_b44 n E S r12 a0 x1 x2 x3 q19.1 0 q19.2 r M' hr12 h
    · rw [if_pos c18] at h
      refine zi_goto (tgt := 125) d_Pa_mostAlike_30 rfl ?_
      refine zi_lo [(0, .ref a0), (1, .int x1), (2, .int x2), (3, .int x3)] [0, 1, 2, 3] rfl ?_
      exact K_Pa_mostAlike_b125 n E S r12 a0 x1 x2 x3 M r M' hr12 h
theorem K_Pa_mostAlike_b12 (n : Nat) (E : zE) (S : zS) (a0 : Nat) (x1 : Int32) (x2 : Int32) (x3 : Int32) (M : zH) (r : Int32) (M' : zH)  (h : F_Pa_mostAlike_b12 n E S (a0, x1, x2, x3, M) = some (r, M')) : zG E Y_Pa_mostAlike (some (.int r), S, M') 12 [(0, .ref a0), (1, .int x1), (2, .int x2), (3, .int x3)] [] S M 0 0 := by
  have key : ∀ (k : Nat) (a0 : Nat) (x1 : Int32) (x2 : Int32) (x3 : Int32) (M : zH), zfix (fun r12 s => F_Pa_mostAlike_L12 n E S r12 s.1 s.2.1 s.2.2.1 s.2.2.2.1 s.2.2.2.2) k (a0, x1, x2, x3, M) = some (r, M') → zG E Y_Pa_mostAlike (some (.int r), S, M') 12 [(0, .ref a0), (1, .int x1), (2, .int x2), (3, .int x3)] [] S M 0 0 := by
    intro k
    induction k with
    | zero => intro a0 x1 x2 x3 M h; cases h
    | succ k ih => intro a0 x1 x2 x3 M h; exact K_Pa_mostAlike_L12 n E S _ a0 x1 x2 x3 M r M'  (fun a0 x1 x2 x3 M h => ih a0 x1 x2 x3 M h) h
  exact key n a0 x1 x2 x3 M h
theorem K_Pa_mostAlike (n : Nat) (E : zE) (S : zS) (a0 : Nat) (x1 : Int32) (M : zH) (r : Int32) (M' : zH)  (h : F_Pa_mostAlike n E S a0 x1 M = some (r, M')) : zG E Y_Pa_mostAlike (some (.int r), S, M') 0 [(0, .ref a0), (1, .int x1)] [] S M 0 0 := by
  unfold F_Pa_mostAlike at h
  refine zi_aload_n 0 d_Pa_mostAlike_0 rfl ?_
  obtain ⟨b20, eb20, h⟩ := zbind h
  refine zo_getR 4 zkd_4 6 d_Pa_mostAlike_1 eb20 rfl tw_304 rfl ?_
  refine zi_iconst 0 d_Pa_mostAlike_4 rfl ?_
  obtain ⟨q21, eq21, h⟩ := zbind h
  refine zo_stat (k' := 0) (n' := 0) 8 [.ref b20, .int 0] [] [] (C_Ja_fillI n E S b20 0 M q21 eq21) d_Pa_mostAlike_5 tw_40 tw_1040 tw_39 tw_3 dd_Ja_fillI ⟨Nat.le_of_ble_eq_true rfl, Nat.le_of_ble_eq_true rfl, Nat.le_of_ble_eq_true rfl, Nat.le_of_ble_eq_true rfl⟩ (Nat.le_of_ble_eq_true rfl) rfl rfl rfl rfl ?_
  refine zi_iconst 0 d_Pa_mostAlike_8 rfl ?_
  refine zi_istore_n [(2, .int 0), (0, .ref a0), (1, .int x1)] d_Pa_mostAlike_9 (by decide) rfl ?_
  refine zi_iconst 0 d_Pa_mostAlike_10 rfl ?_
  refine zi_istore_n [(3, .int 0), (2, .int 0), (0, .ref a0), (1, .int x1)] d_Pa_mostAlike_11 (by decide) rfl ?_
  refine zi_lo [(0, .ref a0), (1, .int x1), (2, .int 0), (3, .int 0)] [2, 3, 1, 0] rfl ?_
  exact K_Pa_mostAlike_b12 n E S a0 x1 0 0 q21 r M'  h
theorem C_Pa_mostAlike (n : Nat) (E : zE) (S : zS) (a0 : Nat) (x1 : Int32) (M : zH) (r : Int32) (M' : zH) (h : F_Pa_mostAlike n E S a0 x1 M = some (r, M')) : zC E Y_Pa_mostAlike [.ref a0, .int x1] S M (some (.int r), S, M') :=
  zC.of (Or.inl (show plainName "NightColander$Paper" = true by decide)) (Nat.le_of_ble_eq_true rfl) (trivial) (K_Pa_mostAlike n E S a0 x1 M r M' h)
theorem d_Pa_findLook_0 : decode (yB Y_Pa_findLook) 0 = .ok (.aload_n 0, 1) := by decide +kernel
theorem d_Pa_findLook_1 : decode (yB Y_Pa_findLook) 1 = .ok (.aload_n 1, 1) := by decide +kernel
theorem d_Pa_findLook_2 : decode (yB Y_Pa_findLook) 2 = .ok (.invokevirtual 145, 3) := by decide +kernel
theorem d_Pa_findLook_5 : decode (yB Y_Pa_findLook) 5 = .ok (.ifCond .ne 5, 3) := by decide +kernel
theorem d_Pa_findLook_8 : decode (yB Y_Pa_findLook) 8 = .ok (.iconst 0, 1) := by decide +kernel
theorem d_Pa_findLook_9 : decode (yB Y_Pa_findLook) 9 = .ok (.ireturn, 1) := by decide +kernel
theorem d_Pa_findLook_10 : decode (yB Y_Pa_findLook) 10 = .ok (.aload_n 0, 1) := by decide +kernel
theorem d_Pa_findLook_11 : decode (yB Y_Pa_findLook) 11 = .ok (.sipush 4097, 3) := by decide +kernel
theorem d_Pa_findLook_14 : decode (yB Y_Pa_findLook) 14 = .ok (.putfield 38, 3) := by decide +kernel
theorem d_Pa_findLook_17 : decode (yB Y_Pa_findLook) 17 = .ok (.iconst 0, 1) := by decide +kernel
theorem d_Pa_findLook_18 : decode (yB Y_Pa_findLook) 18 = .ok (.istore_n 2, 1) := by decide +kernel
theorem d_Pa_findLook_19 : decode (yB Y_Pa_findLook) 19 = .ok (.iload_n 2, 1) := by decide +kernel
theorem d_Pa_findLook_20 : decode (yB Y_Pa_findLook) 20 = .ok (.bipush 8, 2) := by decide +kernel
theorem d_Pa_findLook_22 : decode (yB Y_Pa_findLook) 22 = .ok (.if_icmp .ge 33, 3) := by decide +kernel
theorem d_Pa_findLook_25 : decode (yB Y_Pa_findLook) 25 = .ok (.aload_n 0, 1) := by decide +kernel
theorem d_Pa_findLook_26 : decode (yB Y_Pa_findLook) 26 = .ok (.iload_n 2, 1) := by decide +kernel
theorem d_Pa_findLook_27 : decode (yB Y_Pa_findLook) 27 = .ok (.invokevirtual 149, 3) := by decide +kernel
theorem d_Pa_findLook_30 : decode (yB Y_Pa_findLook) 30 = .ok (.istore_n 3, 1) := by decide +kernel
theorem d_Pa_findLook_31 : decode (yB Y_Pa_findLook) 31 = .ok (.iload_n 3, 1) := by decide +kernel
theorem d_Pa_findLook_32 : decode (yB Y_Pa_findLook) 32 = .ok (.aload_n 0, 1) := by decide +kernel
theorem d_Pa_findLook_33 : decode (yB Y_Pa_findLook) 33 = .ok (.getfield 38, 3) := by decide +kernel
theorem d_Pa_findLook_36 : decode (yB Y_Pa_findLook) 36 = .ok (.if_icmp .ge 13, 3) := by decide +kernel
theorem d_Pa_findLook_39 : decode (yB Y_Pa_findLook) 39 = .ok (.aload_n 0, 1) := by decide +kernel
theorem d_Pa_findLook_40 : decode (yB Y_Pa_findLook) 40 = .ok (.iload_n 3, 1) := by decide +kernel
theorem d_Pa_findLook_41 : decode (yB Y_Pa_findLook) 41 = .ok (.putfield 38, 3) := by decide +kernel
theorem d_Pa_findLook_44 : decode (yB Y_Pa_findLook) 44 = .ok (.aload_n 0, 1) := by decide +kernel
theorem d_Pa_findLook_45 : decode (yB Y_Pa_findLook) 45 = .ok (.iload_n 2, 1) := by decide +kernel
theorem d_Pa_findLook_46 : decode (yB Y_Pa_findLook) 46 = .ok (.putfield 42, 3) := by decide +kernel
theorem d_Pa_findLook_49 : decode (yB Y_Pa_findLook) 49 = .ok (.iinc 2 1, 3) := by decide +kernel
theorem d_Pa_findLook_52 : decode (yB Y_Pa_findLook) 52 = .ok (.goto (-33), 3) := by decide +kernel
theorem d_Pa_findLook_55 : decode (yB Y_Pa_findLook) 55 = .ok (.iconst 1, 1) := by decide +kernel
theorem d_Pa_findLook_56 : decode (yB Y_Pa_findLook) 56 = .ok (.ireturn, 1) := by decide +kernel
def F_Pa_findLook_b49 (n : Nat) (E : zE) (S : zS) (r19 : Nat × Int32 × zH → Option (Bool × zH)) (a0 : Nat) (x2 : Int32) (M : zH) : Option (Bool × zH) :=
  r19 (a0, x2 + 1, M)
def F_Pa_findLook_L19 (n : Nat) (E : zE) (S : zS) (r19 : Nat × Int32 × zH → Option (Bool × zH)) (a0 : Nat) (x2 : Int32) (M : zH) : Option (Bool × zH) :=
  if 8 ≤ x2 then
    some (true, M)
  else
    (zck S a0 4).bind fun u2 =>
    (F_Pa_mostAlike n E S a0 x2 M).bind fun q3 =>
    (zgI S q3.2 a0 4 8).bind fun v4 =>
    if v4 ≤ q3.1 then
      F_Pa_findLook_b49 n E S r19 a0 x2 q3.2
    else
      (zpI S q3.2 a0 4 8 q3.1).bind fun m6 =>
      (zpI S m6 a0 4 9 x2).bind fun m7 =>
      F_Pa_findLook_b49 n E S r19 a0 x2 m7
def F_Pa_findLook_b19 (n : Nat) (E : zE) (S : zS) : Nat × Int32 × zH → Option (Bool × zH) := zfix (fun r19 s => F_Pa_findLook_L19 n E S r19 s.1 s.2.1 s.2.2) n
def F_Pa_findLook (n : Nat) (E : zE) (S : zS) (a0 : Nat) (a1 : Nat) (M : zH) : Option (Bool × zH) :=
  (zck S a0 4).bind fun u8 =>
  (F_Pa_findFitting n E S a0 a1 M).bind fun q9 =>
  if q9.1 = true then
    (zpI S q9.2 a0 4 8 4097).bind fun m11 =>
    F_Pa_findLook_b19 n E S (a0, 0, m11)
  else
    some (false, q9.2)
theorem K_Pa_findLook_b49 (n : Nat) (E : zE) (S : zS) (r19 : Nat × Int32 × zH → Option (Bool × zH)) (a0 : Nat) (x2 : Int32) (M : zH) (r : Bool) (M' : zH) (hr19 : ∀ (a0 : Nat) (x2 : Int32) (M : zH), r19 (a0, x2, M) = some (r, M') → zG E Y_Pa_findLook (some (.int (bI r)), S, M') 19 [(0, .ref a0), (2, .int x2)] [] S M 0 0) (h : F_Pa_findLook_b49 n E S r19 a0 x2 M = some (r, M')) : zG E Y_Pa_findLook (some (.int (bI r)), S, M') 49 [(0, .ref a0), (2, .int x2)] [] S M 0 0 := by
  unfold F_Pa_findLook_b49 at h
  refine zi_iinc 1 (x2 + 1) [(2, .int (x2 + 1)), (0, .ref a0)] d_Pa_findLook_49 rfl rfl (by decide) rfl ?_
  refine zi_goto (tgt := 19) d_Pa_findLook_52 rfl ?_
  refine zi_lo [(0, .ref a0), (2, .int (x2 + 1))] [1, 0] rfl ?_
  exact hr19 a0 (x2 + 1) M h
theorem K_Pa_findLook_L19 (n : Nat) (E : zE) (S : zS) (r19 : Nat × Int32 × zH → Option (Bool × zH)) (a0 : Nat) (x2 : Int32) (M : zH) (r : Bool) (M' : zH) (hr19 : ∀ (a0 : Nat) (x2 : Int32) (M : zH), r19 (a0, x2, M) = some (r, M') → zG E Y_Pa_findLook (some (.int (bI r)), S, M') 19 [(0, .ref a0), (2, .int x2)] [] S M 0 0) (h : F_Pa_findLook_L19 n E S r19 a0 x2 M = some (r, M')) : zG E Y_Pa_findLook (some (.int (bI r)), S, M') 19 [(0, .ref a0), (2, .int x2)] [] S M 0 0 := by
  unfold F_Pa_findLook_L19 at h
  refine zi_iload_n 1 d_Pa_findLook_19 rfl ?_
  refine zi_bipush 8 d_Pa_findLook_20 rfl ?_
  refine zi_icmp_ge (tgt := 55) d_Pa_findLook_22 rfl (fun c1 => ?_) (fun c1 => ?_)
  · rw [if_pos c1] at h
    refine zi_iconst 1 d_Pa_findLook_55 rfl ?_
    cases h
    exact zo_retB d_Pa_findLook_56 (Nat.le_of_ble_eq_true rfl) (Nat.le_of_ble_eq_true rfl) rfl
  · rw [if_neg c1] at h
    refine zi_aload_n 0 d_Pa_findLook_25 rfl ?_
    refine zi_iload_n 1 d_Pa_findLook_26 rfl ?_
    obtain ⟨u2, eu2, h⟩ := zbind h
    obtain ⟨q3, eq3, h⟩ := zbind h
    refine zo_virt (k' := 0) (n' := 0) 30 [.int x2] [] [.int q3.1] zkd_4 (zck_s eu2) (C_Pa_mostAlike n E S a0 x2 M q3.1 q3.2 eq3) d_Pa_findLook_27 tw_1075 tw_1072 tw_1074 ts_33 tw_12 dd_Pa_mostAlike ⟨Nat.le_of_ble_eq_true rfl, Nat.le_of_ble_eq_true rfl, Nat.le_of_ble_eq_true rfl, Nat.le_of_ble_eq_true rfl⟩ (Nat.le_of_ble_eq_true rfl) rfl rfl rfl rfl ?_
    refine zi_istore_n [(3, .int q3.1), (0, .ref a0), (2, .int x2)] d_Pa_findLook_30 (by decide) rfl ?_
    refine zi_iload_n 0 d_Pa_findLook_31 rfl ?_
    refine zi_aload_n 1 d_Pa_findLook_32 rfl ?_
    obtain ⟨v4, ev4, h⟩ := zbind h
    refine zo_getI 36 zkd_4 8 d_Pa_findLook_33 ev4 rfl tw_306 rfl ?_
    refine zi_icmp_ge (tgt := 49) d_Pa_findLook_36 rfl (fun c5 => ?_) (fun c5 => ?_)
    · rw [if_pos c5] at h
      refine zi_lo [(0, .ref a0), (2, .int x2)] [1, 2] rfl ?_
      exact K_Pa_findLook_b49 n E S r19 a0 x2 q3.2 r M' hr19 h
    · rw [if_neg c5] at h
      refine zi_aload_n 1 d_Pa_findLook_39 rfl ?_
      refine zi_iload_n 0 d_Pa_findLook_40 rfl ?_
      obtain ⟨m6, em6, h⟩ := zbind h
      refine zo_putI 44 zkd_4 8 d_Pa_findLook_41 em6 rfl rfl rfl tw_306 rfl ?_
      refine zi_aload_n 1 d_Pa_findLook_44 rfl ?_
      refine zi_iload_n 2 d_Pa_findLook_45 rfl ?_
      obtain ⟨m7, em7, h⟩ := zbind h
      refine zo_putI 49 zkd_4 9 d_Pa_findLook_46 em7 rfl rfl rfl tw_308 rfl ?_
      refine zi_lo [(0, .ref a0), (2, .int x2)] [1, 2] rfl ?_
      exact K_Pa_findLook_b49 n E S r19 a0 x2 m7 r M' hr19 h
theorem K_Pa_findLook_b19 (n : Nat) (E : zE) (S : zS) (a0 : Nat) (x2 : Int32) (M : zH) (r : Bool) (M' : zH)  (h : F_Pa_findLook_b19 n E S (a0, x2, M) = some (r, M')) : zG E Y_Pa_findLook (some (.int (bI r)), S, M') 19 [(0, .ref a0), (2, .int x2)] [] S M 0 0 := by
  have key : ∀ (k : Nat) (a0 : Nat) (x2 : Int32) (M : zH), zfix (fun r19 s => F_Pa_findLook_L19 n E S r19 s.1 s.2.1 s.2.2) k (a0, x2, M) = some (r, M') → zG E Y_Pa_findLook (some (.int (bI r)), S, M') 19 [(0, .ref a0), (2, .int x2)] [] S M 0 0 := by
    intro k
    induction k with
    | zero => intro a0 x2 M h; cases h
    | succ k ih => intro a0 x2 M h; exact K_Pa_findLook_L19 n E S _ a0 x2 M r M'  (fun a0 x2 M h => ih a0 x2 M h) h
  exact key n a0 x2 M h
theorem K_Pa_findLook (n : Nat) (E : zE) (S : zS) (a0 : Nat) (a1 : Nat) (M : zH) (r : Bool) (M' : zH)  (h : F_Pa_findLook n E S a0 a1 M = some (r, M')) : zG E Y_Pa_findLook (some (.int (bI r)), S, M') 0 [(0, .ref a0), (1, .ref a1)] [] S M 0 0 := by
  unfold F_Pa_findLook at h
  refine zi_aload_n 0 d_Pa_findLook_0 rfl ?_
  refine zi_aload_n 1 d_Pa_findLook_1 rfl ?_
  obtain ⟨u8, eu8, h⟩ := zbind h
  obtain ⟨q9, eq9, h⟩ := zbind h
  refine zo_virt (k' := 0) (n' := 0) 5 [.ref a1] [] [.int (bI q9.1)] zkd_4 (zck_s eu8) (C_Pa_findFitting n E S a0 a1 M q9.1 q9.2 eq9) d_Pa_findLook_2 tw_1071 tw_1068 tw_1070 ts_32 tw_12 dd_Pa_findFitting ⟨Nat.le_of_ble_eq_true rfl, Nat.le_of_ble_eq_true rfl, Nat.le_of_ble_eq_true rfl, Nat.le_of_ble_eq_true rfl⟩ (Nat.le_of_ble_eq_true rfl) rfl rfl rfl rfl ?_
  refine zo_ifneB d_Pa_findLook_5 rfl 8 rfl (fun c10 => ?_) (fun c10 => ?_)
  · rw [if_pos c10] at h
    refine zi_aload_n 0 d_Pa_findLook_10 rfl ?_
    refine zi_sipush 4097 d_Pa_findLook_11 rfl ?_
    obtain ⟨m11, em11, h⟩ := zbind h
    refine zo_putI 17 zkd_4 8 d_Pa_findLook_14 em11 rfl rfl rfl tw_306 rfl ?_
    refine zi_iconst 0 d_Pa_findLook_17 rfl ?_
    refine zi_istore_n [(2, .int 0), (0, .ref a0), (1, .ref a1)] d_Pa_findLook_18 (by decide) rfl ?_
    refine zi_lo [(0, .ref a0), (2, .int 0)] [1, 0] rfl ?_
    exact K_Pa_findLook_b19 n E S a0 0 m11 r M'  h
  · rw [if_neg c10] at h
    refine zi_iconst 0 d_Pa_findLook_8 rfl ?_
    cases h
    exact zo_retB d_Pa_findLook_9 (Nat.le_of_ble_eq_true rfl) (Nat.le_of_ble_eq_true rfl) rfl
theorem C_Pa_findLook (n : Nat) (E : zE) (S : zS) (a0 : Nat) (a1 : Nat) (M : zH) (r : Bool) (M' : zH) (h : F_Pa_findLook n E S a0 a1 M = some (r, M')) : zC E Y_Pa_findLook [.ref a0, .ref a1] S M (some (.int (bI r)), S, M') :=
  zC.of (Or.inl (show plainName "NightColander$Paper" = true by decide)) (Nat.le_of_ble_eq_true rfl) (bI_nar r) (K_Pa_findLook n E S a0 a1 M r M' h)
theorem d_NC_look_0 : decode (yB Y_NC_look) 0 = .ok (.iload_n 1, 1) := by decide +kernel
theorem d_NC_look_1 : decode (yB Y_NC_look) 1 = .ok (.iconst 0, 1) := by decide +kernel
theorem d_NC_look_2 : decode (yB Y_NC_look) 2 = .ok (.iconst 1, 1) := by decide +kernel
theorem d_NC_look_3 : decode (yB Y_NC_look) 3 = .ok (.invokestatic 132, 3) := by decide +kernel
theorem d_NC_look_6 : decode (yB Y_NC_look) 6 = .ok (.ifCond .eq 17, 3) := by decide +kernel
theorem d_NC_look_9 : decode (yB Y_NC_look) 9 = .ok (.aload_n 0, 1) := by decide +kernel
theorem d_NC_look_10 : decode (yB Y_NC_look) 10 = .ok (.getfield 86, 3) := by decide +kernel
theorem d_NC_look_13 : decode (yB Y_NC_look) 13 = .ok (.aload_n 0, 1) := by decide +kernel
theorem d_NC_look_14 : decode (yB Y_NC_look) 14 = .ok (.getfield 12, 3) := by decide +kernel
theorem d_NC_look_17 : decode (yB Y_NC_look) 17 = .ok (.invokevirtual 282, 3) := by decide +kernel
theorem d_NC_look_20 : decode (yB Y_NC_look) 20 = .ok (.ifCond .ne 5, 3) := by decide +kernel
theorem d_NC_look_23 : decode (yB Y_NC_look) 23 = .ok (.iconst (-1), 1) := by decide +kernel
theorem d_NC_look_24 : decode (yB Y_NC_look) 24 = .ok (.ireturn, 1) := by decide +kernel
theorem d_NC_look_25 : decode (yB Y_NC_look) 25 = .ok (.iload_n 1, 1) := by decide +kernel
theorem d_NC_look_26 : decode (yB Y_NC_look) 26 = .ok (.ifCond .ne 13, 3) := by decide +kernel
theorem d_NC_look_29 : decode (yB Y_NC_look) 29 = .ok (.aload_n 0, 1) := by decide +kernel
theorem d_NC_look_30 : decode (yB Y_NC_look) 30 = .ok (.getfield 86, 3) := by decide +kernel
theorem d_NC_look_33 : decode (yB Y_NC_look) 33 = .ok (.getfield 286, 3) := by decide +kernel
theorem d_NC_look_36 : decode (yB Y_NC_look) 36 = .ok (.goto 10, 3) := by decide +kernel
theorem d_NC_look_39 : decode (yB Y_NC_look) 39 = .ok (.aload_n 0, 1) := by decide +kernel
theorem d_NC_look_40 : decode (yB Y_NC_look) 40 = .ok (.getfield 86, 3) := by decide +kernel
theorem d_NC_look_43 : decode (yB Y_NC_look) 43 = .ok (.getfield 267, 3) := by decide +kernel
theorem d_NC_look_46 : decode (yB Y_NC_look) 46 = .ok (.ireturn, 1) := by decide +kernel
def F_NC_look (n : Nat) (E : zE) (S : zS) (a0 : Nat) (x1 : Int32) (M : zH) : Option (Int32 × zH) :=
  (F_NC_within n E S x1 0 1 M).bind fun q1 =>
  if q1.1 = true then
    (zgR S a0 10 12).bind fun b3 =>
    (zgR S a0 10 0).bind fun b4 =>
    (zck S b3 4).bind fun u5 =>
    (F_Pa_findLook n E S b3 b4 q1.2).bind fun q6 =>
    if q6.1 = true then
      if x1 = 0 then
        (zgI S q6.2 b3 4 9).bind fun v9 =>
        some (v9, q6.2)
      else
        (zgI S q6.2 b3 4 8).bind fun v10 =>
        some (v10, q6.2)
    else
      some ((-1), q6.2)
  else
    some ((-1), q1.2)
theorem K_NC_look (n : Nat) (E : zE) (S : zS) (a0 : Nat) (x1 : Int32) (M : zH) (r : Int32) (M' : zH)  (h : F_NC_look n E S a0 x1 M = some (r, M')) : zG E Y_NC_look (some (.int r), S, M') 0 [(0, .ref a0), (1, .int x1)] [] S M 0 0 := by
  unfold F_NC_look at h
  refine zi_iload_n 1 d_NC_look_0 rfl ?_
  refine zi_iconst 0 d_NC_look_1 rfl ?_
  refine zi_iconst 1 d_NC_look_2 rfl ?_
  obtain ⟨q1, eq1, h⟩ := zbind h
  refine zo_stat (k' := 0) (n' := 0) 6 [.int x1, .int 0, .int 1] [] [.int (bI q1.1)] (C_NC_within n E S x1 0 1 M q1.1 q1.2 eq1) d_NC_look_3 tw_399 tw_397 tw_398 tw_1 dd_NC_within ⟨Nat.le_of_ble_eq_true rfl, Nat.le_of_ble_eq_true rfl, Nat.le_of_ble_eq_true rfl, Nat.le_of_ble_eq_true rfl⟩ (Nat.le_of_ble_eq_true rfl) rfl rfl rfl rfl ?_
  refine zo_ifeqB d_NC_look_6 rfl 9 rfl (fun c2 => ?_) (fun c2 => ?_)
  · rw [if_neg c2] at h
    refine zi_iconst (-1) d_NC_look_23 rfl ?_
    cases h
    exact zo_ret d_NC_look_24 (Nat.le_of_ble_eq_true rfl) (Nat.le_of_ble_eq_true rfl) rfl
  · rw [if_pos c2] at h
    refine zi_aload_n 0 d_NC_look_9 rfl ?_
    obtain ⟨b3, eb3, h⟩ := zbind h
    refine zo_getR 13 zkd_10 12 d_NC_look_10 eb3 rfl tw_344 rfl ?_
    refine zi_aload_n 0 d_NC_look_13 rfl ?_
    obtain ⟨b4, eb4, h⟩ := zbind h
    refine zo_getR 17 zkd_10 0 d_NC_look_14 eb4 rfl tw_332 rfl ?_
    obtain ⟨u5, eu5, h⟩ := zbind h
    obtain ⟨q6, eq6, h⟩ := zbind h
    refine zo_virt (k' := 0) (n' := 0) 20 [.ref b4] [] [.int (bI q6.1)] zkd_4 (zck_s eu5) (C_Pa_findLook n E S b3 b4 q1.2 q6.1 q6.2 eq6) d_NC_look_17 tw_1067 tw_1064 tw_1065 tw_1066 tw_12 dd_Pa_findLook ⟨Nat.le_of_ble_eq_true rfl, Nat.le_of_ble_eq_true rfl, Nat.le_of_ble_eq_true rfl, Nat.le_of_ble_eq_true rfl⟩ (Nat.le_of_ble_eq_true rfl) rfl rfl rfl rfl ?_
    refine zo_ifneB d_NC_look_20 rfl 23 rfl (fun c7 => ?_) (fun c7 => ?_)
    · rw [if_pos c7] at h
      refine zi_iload_n 1 d_NC_look_25 rfl ?_
      refine zi_if_ne (tgt := 39) d_NC_look_26 rfl (fun c8 => ?_) (fun c8 => ?_)
      · rw [if_neg c8] at h
        refine zi_aload_n 0 d_NC_look_39 rfl ?_
        refine zo_getR 43 zkd_10 12 d_NC_look_40 eb3 rfl tw_344 rfl ?_
        obtain ⟨v10, ev10, h⟩ := zbind h
        refine zo_getI 46 zkd_4 8 d_NC_look_43 ev10 rfl tw_307 rfl ?_
        cases h
        exact zo_ret d_NC_look_46 (Nat.le_of_ble_eq_true rfl) (Nat.le_of_ble_eq_true rfl) rfl
      · rw [if_pos c8] at h
        refine zi_aload_n 0 d_NC_look_29 rfl ?_
        refine zo_getR 33 zkd_10 12 d_NC_look_30 eb3 rfl tw_344 rfl ?_
        obtain ⟨v9, ev9, h⟩ := zbind h
        refine zo_getI 36 zkd_4 9 d_NC_look_33 ev9 rfl tw_309 rfl ?_
        refine zi_goto (tgt := 46) d_NC_look_36 rfl ?_
        cases h
        exact zo_ret d_NC_look_46 (Nat.le_of_ble_eq_true rfl) (Nat.le_of_ble_eq_true rfl) rfl
    · rw [if_neg c7] at h
      refine zi_iconst (-1) d_NC_look_23 rfl ?_
      cases h
      exact zo_ret d_NC_look_24 (Nat.le_of_ble_eq_true rfl) (Nat.le_of_ble_eq_true rfl) rfl
theorem C_NC_look (n : Nat) (E : zE) (S : zS) (a0 : Nat) (x1 : Int32) (M : zH) (r : Int32) (M' : zH) (h : F_NC_look n E S a0 x1 M = some (r, M')) : zC E Y_NC_look [.ref a0, .int x1] S M (some (.int r), S, M') :=
  zC.of (Or.inl (show plainName "NightColander" = true by decide)) (Nat.le_of_ble_eq_true rfl) (trivial) (K_NC_look n E S a0 x1 M r M' h)
theorem d_Pa_givesWanted_0 : decode (yB Y_Pa_givesWanted) 0 = .ok (.iconst 0, 1) := by decide +kernel
theorem d_Pa_givesWanted_1 : decode (yB Y_Pa_givesWanted) 1 = .ok (.istore_n 3, 1) := by decide +kernel
theorem d_Pa_givesWanted_2 : decode (yB Y_Pa_givesWanted) 2 = .ok (.iload_n 3, 1) := by decide +kernel
theorem d_Pa_givesWanted_3 : decode (yB Y_Pa_givesWanted) 3 = .ok (.bipush 8, 2) := by decide +kernel
theorem d_Pa_givesWanted_5 : decode (yB Y_Pa_givesWanted) 5 = .ok (.if_icmp .ge 36, 3) := by decide +kernel
theorem d_Pa_givesWanted_8 : decode (yB Y_Pa_givesWanted) 8 = .ok (.aload_n 1, 1) := by decide +kernel
theorem d_Pa_givesWanted_9 : decode (yB Y_Pa_givesWanted) 9 = .ok (.getfield 161, 3) := by decide +kernel
theorem d_Pa_givesWanted_12 : decode (yB Y_Pa_givesWanted) 12 = .ok (.iload_n 3, 1) := by decide +kernel
theorem d_Pa_givesWanted_13 : decode (yB Y_Pa_givesWanted) 13 = .ok (.iaload, 1) := by decide +kernel
theorem d_Pa_givesWanted_14 : decode (yB Y_Pa_givesWanted) 14 = .ok (.iconst (-1), 1) := by decide +kernel
theorem d_Pa_givesWanted_15 : decode (yB Y_Pa_givesWanted) 15 = .ok (.if_icmp .eq 20, 3) := by decide +kernel
theorem d_Pa_givesWanted_18 : decode (yB Y_Pa_givesWanted) 18 = .ok (.aload_n 0, 1) := by decide +kernel
theorem d_Pa_givesWanted_19 : decode (yB Y_Pa_givesWanted) 19 = .ok (.iload_n 2, 1) := by decide +kernel
theorem d_Pa_givesWanted_20 : decode (yB Y_Pa_givesWanted) 20 = .ok (.iload_n 3, 1) := by decide +kernel
theorem d_Pa_givesWanted_21 : decode (yB Y_Pa_givesWanted) 21 = .ok (.invokevirtual 128, 3) := by decide +kernel
theorem d_Pa_givesWanted_24 : decode (yB Y_Pa_givesWanted) 24 = .ok (.aload_n 1, 1) := by decide +kernel
theorem d_Pa_givesWanted_25 : decode (yB Y_Pa_givesWanted) 25 = .ok (.getfield 161, 3) := by decide +kernel
theorem d_Pa_givesWanted_28 : decode (yB Y_Pa_givesWanted) 28 = .ok (.iload_n 3, 1) := by decide +kernel
theorem d_Pa_givesWanted_29 : decode (yB Y_Pa_givesWanted) 29 = .ok (.iaload, 1) := by decide +kernel
theorem d_Pa_givesWanted_30 : decode (yB Y_Pa_givesWanted) 30 = .ok (.if_icmp .eq 5, 3) := by decide +kernel
theorem d_Pa_givesWanted_33 : decode (yB Y_Pa_givesWanted) 33 = .ok (.iconst 0, 1) := by decide +kernel
theorem d_Pa_givesWanted_34 : decode (yB Y_Pa_givesWanted) 34 = .ok (.ireturn, 1) := by decide +kernel
theorem d_Pa_givesWanted_35 : decode (yB Y_Pa_givesWanted) 35 = .ok (.iinc 3 1, 3) := by decide +kernel
theorem d_Pa_givesWanted_38 : decode (yB Y_Pa_givesWanted) 38 = .ok (.goto (-36), 3) := by decide +kernel
theorem d_Pa_givesWanted_41 : decode (yB Y_Pa_givesWanted) 41 = .ok (.iconst 1, 1) := by decide +kernel
theorem d_Pa_givesWanted_42 : decode (yB Y_Pa_givesWanted) 42 = .ok (.ireturn, 1) := by decide +kernel
def F_Pa_givesWanted_b35 (n : Nat) (E : zE) (S : zS) (r2 : Nat × Nat × Int32 × Int32 × zH → Option (Bool × zH)) (a0 : Nat) (a1 : Nat) (x2 : Int32) (x3 : Int32) (M : zH) : Option (Bool × zH) :=
  r2 (a0, a1, x2, x3 + 1, M)
def F_Pa_givesWanted_L2 (n : Nat) (E : zE) (S : zS) (r2 : Nat × Nat × Int32 × Int32 × zH → Option (Bool × zH)) (a0 : Nat) (a1 : Nat) (x2 : Int32) (x3 : Int32) (M : zH) : Option (Bool × zH) :=
  if 8 ≤ x3 then
    some (true, M)
  else
    (zgR S a1 3 6).bind fun b2 =>
    (zldI S M b2 x3).bind fun v3 =>
    if v3 = (-1) then
      F_Pa_givesWanted_b35 n E S r2 a0 a1 x2 x3 M
    else
      (zck S a0 4).bind fun u5 =>
      (F_Pa_threadsBy n E S a0 x2 x3 M).bind fun q6 =>
      (zldI S q6.2 b2 x3).bind fun v7 =>
      if q6.1 = v7 then
        F_Pa_givesWanted_b35 n E S r2 a0 a1 x2 x3 q6.2
      else
        some (false, q6.2)
def F_Pa_givesWanted_b2 (n : Nat) (E : zE) (S : zS) : Nat × Nat × Int32 × Int32 × zH → Option (Bool × zH) := zfix (fun r2 s => F_Pa_givesWanted_L2 n E S r2 s.1 s.2.1 s.2.2.1 s.2.2.2.1 s.2.2.2.2) n
def F_Pa_givesWanted (n : Nat) (E : zE) (S : zS) (a0 : Nat) (a1 : Nat) (x2 : Int32) (M : zH) : Option (Bool × zH) :=
  F_Pa_givesWanted_b2 n E S (a0, a1, x2, 0, M)
theorem K_Pa_givesWanted_b35 (n : Nat) (E : zE) (S : zS) (r2 : Nat × Nat × Int32 × Int32 × zH → Option (Bool × zH)) (a0 : Nat) (a1 : Nat) (x2 : Int32) (x3 : Int32) (M : zH) (r : Bool) (M' : zH) (hr2 : ∀ (a0 : Nat) (a1 : Nat) (x2 : Int32) (x3 : Int32) (M : zH), r2 (a0, a1, x2, x3, M) = some (r, M') → zG E Y_Pa_givesWanted (some (.int (bI r)), S, M') 2 [(0, .ref a0), (1, .ref a1), (2, .int x2), (3, .int x3)] [] S M 0 0) (h : F_Pa_givesWanted_b35 n E S r2 a0 a1 x2 x3 M = some (r, M')) : zG E Y_Pa_givesWanted (some (.int (bI r)), S, M') 35 [(0, .ref a0), (1, .ref a1), (2, .int x2), (3, .int x3)] [] S M 0 0 := by
  unfold F_Pa_givesWanted_b35 at h
  refine zi_iinc 3 (x3 + 1) [(3, .int (x3 + 1)), (0, .ref a0), (1, .ref a1), (2, .int x2)] d_Pa_givesWanted_35 rfl rfl (by decide) rfl ?_
  refine zi_goto (tgt := 2) d_Pa_givesWanted_38 rfl ?_
  refine zi_lo [(0, .ref a0), (1, .ref a1), (2, .int x2), (3, .int (x3 + 1))] [1, 2, 3, 0] rfl ?_
  exact hr2 a0 a1 x2 (x3 + 1) M h
theorem K_Pa_givesWanted_L2 (n : Nat) (E : zE) (S : zS) (r2 : Nat × Nat × Int32 × Int32 × zH → Option (Bool × zH)) (a0 : Nat) (a1 : Nat) (x2 : Int32) (x3 : Int32) (M : zH) (r : Bool) (M' : zH) (hr2 : ∀ (a0 : Nat) (a1 : Nat) (x2 : Int32) (x3 : Int32) (M : zH), r2 (a0, a1, x2, x3, M) = some (r, M') → zG E Y_Pa_givesWanted (some (.int (bI r)), S, M') 2 [(0, .ref a0), (1, .ref a1), (2, .int x2), (3, .int x3)] [] S M 0 0) (h : F_Pa_givesWanted_L2 n E S r2 a0 a1 x2 x3 M = some (r, M')) : zG E Y_Pa_givesWanted (some (.int (bI r)), S, M') 2 [(0, .ref a0), (1, .ref a1), (2, .int x2), (3, .int x3)] [] S M 0 0 := by
  unfold F_Pa_givesWanted_L2 at h
  refine zi_iload_n 3 d_Pa_givesWanted_2 rfl ?_
  refine zi_bipush 8 d_Pa_givesWanted_3 rfl ?_
  refine zi_icmp_ge (tgt := 41) d_Pa_givesWanted_5 rfl (fun c1 => ?_) (fun c1 => ?_)
  · rw [if_pos c1] at h
    refine zi_iconst 1 d_Pa_givesWanted_41 rfl ?_
    cases h
    exact zo_retB d_Pa_givesWanted_42 (Nat.le_of_ble_eq_true rfl) (Nat.le_of_ble_eq_true rfl) rfl
  · rw [if_neg c1] at h
    refine zi_aload_n 1 d_Pa_givesWanted_8 rfl ?_
    obtain ⟨b2, eb2, h⟩ := zbind h
    refine zo_getR 12 zkd_3 6 d_Pa_givesWanted_9 eb2 rfl tw_75 rfl ?_
    refine zi_iload_n 3 d_Pa_givesWanted_12 rfl ?_
    obtain ⟨v3, ev3, h⟩ := zbind h
    refine zo_iald 14 d_Pa_givesWanted_13 ev3 rfl ?_
    refine zi_iconst (-1) d_Pa_givesWanted_14 rfl ?_
    refine zi_icmp_eq (tgt := 35) d_Pa_givesWanted_15 rfl (fun c4 => ?_) (fun c4 => ?_)
    · rw [if_pos c4] at h
      refine zi_lo [(0, .ref a0), (1, .ref a1), (2, .int x2), (3, .int x3)] [0, 1, 2, 3] rfl ?_
      exact K_Pa_givesWanted_b35 n E S r2 a0 a1 x2 x3 M r M' hr2 h
    · rw [if_neg c4] at h
      refine zi_aload_n 0 d_Pa_givesWanted_18 rfl ?_
      refine zi_iload_n 2 d_Pa_givesWanted_19 rfl ?_
      refine zi_iload_n 3 d_Pa_givesWanted_20 rfl ?_
      obtain ⟨u5, eu5, h⟩ := zbind h
      obtain ⟨q6, eq6, h⟩ := zbind h
      refine zo_virt (k' := 0) (n' := 0) 24 [.int x2, .int x3] [] [.int q6.1] zkd_4 (zck_s eu5) (C_Pa_threadsBy n E S a0 x2 x3 M q6.1 q6.2 eq6) d_Pa_givesWanted_21 tw_1052 tw_1049 tw_1051 ts_30 tw_12 dd_Pa_threadsBy ⟨Nat.le_of_ble_eq_true rfl, Nat.le_of_ble_eq_true rfl, Nat.le_of_ble_eq_true rfl, Nat.le_of_ble_eq_true rfl⟩ (Nat.le_of_ble_eq_true rfl) rfl rfl rfl rfl ?_
      refine zi_aload_n 1 d_Pa_givesWanted_24 rfl ?_
      refine zo_getR 28 zkd_3 6 d_Pa_givesWanted_25 eb2 rfl tw_75 rfl ?_
      refine zi_iload_n 3 d_Pa_givesWanted_28 rfl ?_
      obtain ⟨v7, ev7, h⟩ := zbind h
      refine zo_iald 30 d_Pa_givesWanted_29 ev7 rfl ?_
      refine zi_icmp_eq (tgt := 35) d_Pa_givesWanted_30 rfl (fun c8 => ?_) (fun c8 => ?_)
      · rw [if_pos c8] at h
        refine zi_lo [(0, .ref a0), (1, .ref a1), (2, .int x2), (3, .int x3)] [0, 1, 2, 3] rfl ?_
        exact K_Pa_givesWanted_b35 n E S r2 a0 a1 x2 x3 q6.2 r M' hr2 h
      · rw [if_neg c8] at h
        refine zi_iconst 0 d_Pa_givesWanted_33 rfl ?_
        cases h
        exact zo_retB d_Pa_givesWanted_34 (Nat.le_of_ble_eq_true rfl) (Nat.le_of_ble_eq_true rfl) rfl
theorem K_Pa_givesWanted_b2 (n : Nat) (E : zE) (S : zS) (a0 : Nat) (a1 : Nat) (x2 : Int32) (x3 : Int32) (M : zH) (r : Bool) (M' : zH)  (h : F_Pa_givesWanted_b2 n E S (a0, a1, x2, x3, M) = some (r, M')) : zG E Y_Pa_givesWanted (some (.int (bI r)), S, M') 2 [(0, .ref a0), (1, .ref a1), (2, .int x2), (3, .int x3)] [] S M 0 0 := by
  have key : ∀ (k : Nat) (a0 : Nat) (a1 : Nat) (x2 : Int32) (x3 : Int32) (M : zH), zfix (fun r2 s => F_Pa_givesWanted_L2 n E S r2 s.1 s.2.1 s.2.2.1 s.2.2.2.1 s.2.2.2.2) k (a0, a1, x2, x3, M) = some (r, M') → zG E Y_Pa_givesWanted (some (.int (bI r)), S, M') 2 [(0, .ref a0), (1, .ref a1), (2, .int x2), (3, .int x3)] [] S M 0 0 := by
    intro k
    induction k with
    | zero => intro a0 a1 x2 x3 M h; cases h
    | succ k ih => intro a0 a1 x2 x3 M h; exact K_Pa_givesWanted_L2 n E S _ a0 a1 x2 x3 M r M'  (fun a0 a1 x2 x3 M h => ih a0 a1 x2 x3 M h) h
  exact key n a0 a1 x2 x3 M h
theorem K_Pa_givesWanted (n : Nat) (E : zE) (S : zS) (a0 : Nat) (a1 : Nat) (x2 : Int32) (M : zH) (r : Bool) (M' : zH)  (h : F_Pa_givesWanted n E S a0 a1 x2 M = some (r, M')) : zG E Y_Pa_givesWanted (some (.int (bI r)), S, M') 0 [(0, .ref a0), (1, .ref a1), (2, .int x2)] [] S M 0 0 := by
  unfold F_Pa_givesWanted at h
  refine zi_iconst 0 d_Pa_givesWanted_0 rfl ?_
  refine zi_istore_n [(3, .int 0), (0, .ref a0), (1, .ref a1), (2, .int x2)] d_Pa_givesWanted_1 (by decide) rfl ?_
  refine zi_lo [(0, .ref a0), (1, .ref a1), (2, .int x2), (3, .int 0)] [1, 2, 3, 0] rfl ?_
  exact K_Pa_givesWanted_b2 n E S a0 a1 x2 0 M r M'  h
theorem C_Pa_givesWanted (n : Nat) (E : zE) (S : zS) (a0 : Nat) (a1 : Nat) (x2 : Int32) (M : zH) (r : Bool) (M' : zH) (h : F_Pa_givesWanted n E S a0 a1 x2 M = some (r, M')) : zC E Y_Pa_givesWanted [.ref a0, .ref a1, .int x2] S M (some (.int (bI r)), S, M') :=
  zC.of (Or.inl (show plainName "NightColander$Paper" = true by decide)) (Nat.le_of_ble_eq_true rfl) (bI_nar r) (K_Pa_givesWanted n E S a0 a1 x2 M r M' h)
theorem d_Pa_stepsTo_0 : decode (yB Y_Pa_stepsTo) 0 = .ok (.iconst 0, 1) := by decide +kernel
theorem d_Pa_stepsTo_1 : decode (yB Y_Pa_stepsTo) 1 = .ok (.istore_n 2, 1) := by decide +kernel
theorem d_Pa_stepsTo_2 : decode (yB Y_Pa_stepsTo) 2 = .ok (.iconst 0, 1) := by decide +kernel
theorem d_Pa_stepsTo_3 : decode (yB Y_Pa_stepsTo) 3 = .ok (.istore_n 3, 1) := by decide +kernel
theorem d_Pa_stepsTo_4 : decode (yB Y_Pa_stepsTo) 4 = .ok (.iload_n 3, 1) := by decide +kernel
theorem d_Pa_stepsTo_5 : decode (yB Y_Pa_stepsTo) 5 = .ok (.iconst 4, 1) := by decide +kernel
theorem d_Pa_stepsTo_6 : decode (yB Y_Pa_stepsTo) 6 = .ok (.if_icmp .ge 43, 3) := by decide +kernel
theorem d_Pa_stepsTo_9 : decode (yB Y_Pa_stepsTo) 9 = .ok (.iload_n 1, 1) := by decide +kernel
theorem d_Pa_stepsTo_10 : decode (yB Y_Pa_stepsTo) 10 = .ok (.iconst 3, 1) := by decide +kernel
theorem d_Pa_stepsTo_11 : decode (yB Y_Pa_stepsTo) 11 = .ok (.iconst 3, 1) := by decide +kernel
theorem d_Pa_stepsTo_12 : decode (yB Y_Pa_stepsTo) 12 = .ok (.iload_n 3, 1) := by decide +kernel
theorem d_Pa_stepsTo_13 : decode (yB Y_Pa_stepsTo) 13 = .ok (.isub, 1) := by decide +kernel
theorem d_Pa_stepsTo_14 : decode (yB Y_Pa_stepsTo) 14 = .ok (.imul, 1) := by decide +kernel
theorem d_Pa_stepsTo_15 : decode (yB Y_Pa_stepsTo) 15 = .ok (.ishr, 1) := by decide +kernel
theorem d_Pa_stepsTo_16 : decode (yB Y_Pa_stepsTo) 16 = .ok (.aload_n 0, 1) := by decide +kernel
theorem d_Pa_stepsTo_17 : decode (yB Y_Pa_stepsTo) 17 = .ok (.getfield 106, 3) := by decide +kernel
theorem d_Pa_stepsTo_20 : decode (yB Y_Pa_stepsTo) 20 = .ok (.iload_n 3, 1) := by decide +kernel
theorem d_Pa_stepsTo_21 : decode (yB Y_Pa_stepsTo) 21 = .ok (.iaload, 1) := by decide +kernel
theorem d_Pa_stepsTo_22 : decode (yB Y_Pa_stepsTo) 22 = .ok (.isub, 1) := by decide +kernel
theorem d_Pa_stepsTo_23 : decode (yB Y_Pa_stepsTo) 23 = .ok (.bipush 8, 2) := by decide +kernel
theorem d_Pa_stepsTo_25 : decode (yB Y_Pa_stepsTo) 25 = .ok (.invokestatic 158, 3) := by decide +kernel
theorem d_Pa_stepsTo_28 : decode (yB Y_Pa_stepsTo) 28 = .ok (.istore 4, 2) := by decide +kernel
theorem d_Pa_stepsTo_30 : decode (yB Y_Pa_stepsTo) 30 = .ok (.iload_n 2, 1) := by decide +kernel
theorem d_Pa_stepsTo_31 : decode (yB Y_Pa_stepsTo) 31 = .ok (.iload 4, 2) := by decide +kernel
theorem d_Pa_stepsTo_33 : decode (yB Y_Pa_stepsTo) 33 = .ok (.bipush 8, 2) := by decide +kernel
theorem d_Pa_stepsTo_35 : decode (yB Y_Pa_stepsTo) 35 = .ok (.iload 4, 2) := by decide +kernel
theorem d_Pa_stepsTo_37 : decode (yB Y_Pa_stepsTo) 37 = .ok (.isub, 1) := by decide +kernel
theorem d_Pa_stepsTo_38 : decode (yB Y_Pa_stepsTo) 38 = .ok (.invokestatic 100, 3) := by decide +kernel
theorem d_Pa_stepsTo_41 : decode (yB Y_Pa_stepsTo) 41 = .ok (.iadd, 1) := by decide +kernel
theorem d_Pa_stepsTo_42 : decode (yB Y_Pa_stepsTo) 42 = .ok (.istore_n 2, 1) := by decide +kernel
theorem d_Pa_stepsTo_43 : decode (yB Y_Pa_stepsTo) 43 = .ok (.iinc 3 1, 3) := by decide +kernel
theorem d_Pa_stepsTo_46 : decode (yB Y_Pa_stepsTo) 46 = .ok (.goto (-42), 3) := by decide +kernel
theorem d_Pa_stepsTo_49 : decode (yB Y_Pa_stepsTo) 49 = .ok (.iload_n 2, 1) := by decide +kernel
theorem d_Pa_stepsTo_50 : decode (yB Y_Pa_stepsTo) 50 = .ok (.ireturn, 1) := by decide +kernel
def F_Pa_stepsTo_L4 (n : Nat) (E : zE) (S : zS) (r4 : Nat × Int32 × Int32 × Int32 × zH → Option (Int32 × zH)) (a0 : Nat) (x1 : Int32) (x2 : Int32) (x3 : Int32) (M : zH) : Option (Int32 × zH) :=
  if 4 ≤ x3 then
    some (x2, M)
  else
    (zgR S a0 3 2).bind fun b2 =>
    (zldI S M b2 x3).bind fun v3 =>
    (F_Jm_floorMod n E S ((x1 >>> ((3 * (3 - x3)) &&& (31 : Int32))) - v3) 8 M).bind fun q4 =>
    (F_Jm_min n E S q4.1 (8 - q4.1) q4.2).bind fun q5 =>
    r4 (a0, x1, x2 + q5.1, x3 + 1, q5.2)
def F_Pa_stepsTo_b4 (n : Nat) (E : zE) (S : zS) : Nat × Int32 × Int32 × Int32 × zH → Option (Int32 × zH) := zfix (fun r4 s => F_Pa_stepsTo_L4 n E S r4 s.1 s.2.1 s.2.2.1 s.2.2.2.1 s.2.2.2.2) n
def F_Pa_stepsTo (n : Nat) (E : zE) (S : zS) (a0 : Nat) (x1 : Int32) (M : zH) : Option (Int32 × zH) :=
  F_Pa_stepsTo_b4 n E S (a0, x1, 0, 0, M)
theorem K_Pa_stepsTo_L4 (n : Nat) (E : zE) (S : zS) (r4 : Nat × Int32 × Int32 × Int32 × zH → Option (Int32 × zH)) (a0 : Nat) (x1 : Int32) (x2 : Int32) (x3 : Int32) (M : zH) (r : Int32) (M' : zH) (hr4 : ∀ (a0 : Nat) (x1 : Int32) (x2 : Int32) (x3 : Int32) (M : zH), r4 (a0, x1, x2, x3, M) = some (r, M') → zG E Y_Pa_stepsTo (some (.int r), S, M') 4 [(0, .ref a0), (1, .int x1), (2, .int x2), (3, .int x3)] [] S M 0 0) (h : F_Pa_stepsTo_L4 n E S r4 a0 x1 x2 x3 M = some (r, M')) : zG E Y_Pa_stepsTo (some (.int r), S, M') 4 [(0, .ref a0), (1, .int x1), (2, .int x2), (3, .int x3)] [] S M 0 0 := by
  unfold F_Pa_stepsTo_L4 at h
  refine zi_iload_n 3 d_Pa_stepsTo_4 rfl ?_
  refine zi_iconst 4 d_Pa_stepsTo_5 rfl ?_
  refine zi_icmp_ge (tgt := 49) d_Pa_stepsTo_6 rfl (fun c1 => ?_) (fun c1 => ?_)
  · rw [if_pos c1] at h
    refine zi_iload_n 2 d_Pa_stepsTo_49 rfl ?_
    cases h
    exact zo_ret d_Pa_stepsTo_50 (Nat.le_of_ble_eq_true rfl) (Nat.le_of_ble_eq_true rfl) rfl
  · rw [if_neg c1] at h
    refine zi_iload_n 1 d_Pa_stepsTo_9 rfl ?_
    refine zi_iconst 3 d_Pa_stepsTo_10 rfl ?_
    refine zi_iconst 3 d_Pa_stepsTo_11 rfl ?_
    refine zi_iload_n 3 d_Pa_stepsTo_12 rfl ?_
    refine zi_isub d_Pa_stepsTo_13 ?_
    refine zi_imul d_Pa_stepsTo_14 ?_
    refine zi_ishr d_Pa_stepsTo_15 ?_
    refine zi_aload_n 0 d_Pa_stepsTo_16 rfl ?_
    obtain ⟨b2, eb2, h⟩ := zbind h
    refine zo_getR 20 zkd_3 2 d_Pa_stepsTo_17 eb2 rfl tw_55 rfl ?_
    refine zi_iload_n 3 d_Pa_stepsTo_20 rfl ?_
    obtain ⟨v3, ev3, h⟩ := zbind h
    refine zo_iald 22 d_Pa_stepsTo_21 ev3 rfl ?_
    refine zi_isub d_Pa_stepsTo_22 ?_
    refine zi_bipush 8 d_Pa_stepsTo_23 rfl ?_
    obtain ⟨q4, eq4, h⟩ := zbind h
    refine zo_stat (k' := 0) (n' := 0) 28 [.int ((x1 >>> ((3 * (3 - x3)) &&& (31 : Int32))) - v3), .int 8] [] [.int q4.1] (C_Jm_floorMod n E S ((x1 >>> ((3 * (3 - x3)) &&& (31 : Int32))) - v3) 8 M q4.1 q4.2 eq4) d_Pa_stepsTo_25 tw_409 tw_1091 tw_408 tw_14 dd_Jm_floorMod ⟨Nat.le_of_ble_eq_true rfl, Nat.le_of_ble_eq_true rfl, Nat.le_of_ble_eq_true rfl, Nat.le_of_ble_eq_true rfl⟩ (Nat.le_of_ble_eq_true rfl) rfl rfl rfl rfl ?_
    refine zi_istore [(4, .int q4.1), (0, .ref a0), (1, .int x1), (2, .int x2), (3, .int x3)] d_Pa_stepsTo_28 (by decide) rfl ?_
    refine zi_iload_n 3 d_Pa_stepsTo_30 rfl ?_
    refine zi_iload 0 d_Pa_stepsTo_31 rfl ?_
    refine zi_bipush 8 d_Pa_stepsTo_33 rfl ?_
    refine zi_iload 0 d_Pa_stepsTo_35 rfl ?_
    refine zi_isub d_Pa_stepsTo_37 ?_
    obtain ⟨q5, eq5, h⟩ := zbind h
    refine zo_stat (k' := 0) (n' := 0) 41 [.int q4.1, .int (8 - q4.1)] [.int x2] [.int q5.1, .int x2] (C_Jm_min n E S q4.1 (8 - q4.1) q4.2 q5.1 q5.2 eq5) d_Pa_stepsTo_38 tw_433 tw_1004 tw_432 tw_14 dd_Jm_min ⟨Nat.le_of_ble_eq_true rfl, Nat.le_of_ble_eq_true rfl, Nat.le_of_ble_eq_true rfl, Nat.le_of_ble_eq_true rfl⟩ (Nat.le_of_ble_eq_true rfl) rfl rfl rfl rfl ?_
    refine zi_iadd d_Pa_stepsTo_41 ?_
    refine zi_istore_n [(2, .int (x2 + q5.1)), (4, .int q4.1), (0, .ref a0), (1, .int x1), (3, .int x3)] d_Pa_stepsTo_42 (by decide) rfl ?_
    refine zi_iinc 4 (x3 + 1) [(3, .int (x3 + 1)), (2, .int (x2 + q5.1)), (4, .int q4.1), (0, .ref a0), (1, .int x1)] d_Pa_stepsTo_43 rfl rfl (by decide) rfl ?_
    refine zi_goto (tgt := 4) d_Pa_stepsTo_46 rfl ?_
    refine zi_lo [(0, .ref a0), (1, .int x1), (2, .int (x2 + q5.1)), (3, .int (x3 + 1))] [3, 4, 1, 0] rfl ?_
    exact hr4 a0 x1 (x2 + q5.1) (x3 + 1) q5.2 h
theorem K_Pa_stepsTo_b4 (n : Nat) (E : zE) (S : zS) (a0 : Nat) (x1 : Int32) (x2 : Int32) (x3 : Int32) (M : zH) (r : Int32) (M' : zH)  (h : F_Pa_stepsTo_b4 n E S (a0, x1, x2, x3, M) = some (r, M')) : zG E Y_Pa_stepsTo (some (.int r), S, M') 4 [(0, .ref a0), (1, .int x1), (2, .int x2), (3, .int x3)] [] S M 0 0 := by
  have key : ∀ (k : Nat) (a0 : Nat) (x1 : Int32) (x2 : Int32) (x3 : Int32) (M : zH), zfix (fun r4 s => F_Pa_stepsTo_L4 n E S r4 s.1 s.2.1 s.2.2.1 s.2.2.2.1 s.2.2.2.2) k (a0, x1, x2, x3, M) = some (r, M') → zG E Y_Pa_stepsTo (some (.int r), S, M') 4 [(0, .ref a0), (1, .int x1), (2, .int x2), (3, .int x3)] [] S M 0 0 := by
    intro k
    induction k with
    | zero => intro a0 x1 x2 x3 M h; cases h
    | succ k ih => intro a0 x1 x2 x3 M h; exact K_Pa_stepsTo_L4 n E S _ a0 x1 x2 x3 M r M'  (fun a0 x1 x2 x3 M h => ih a0 x1 x2 x3 M h) h
  exact key n a0 x1 x2 x3 M h
theorem K_Pa_stepsTo (n : Nat) (E : zE) (S : zS) (a0 : Nat) (x1 : Int32) (M : zH) (r : Int32) (M' : zH)  (h : F_Pa_stepsTo n E S a0 x1 M = some (r, M')) : zG E Y_Pa_stepsTo (some (.int r), S, M') 0 [(0, .ref a0), (1, .int x1)] [] S M 0 0 := by
  unfold F_Pa_stepsTo at h
  refine zi_iconst 0 d_Pa_stepsTo_0 rfl ?_
  refine zi_istore_n [(2, .int 0), (0, .ref a0), (1, .int x1)] d_Pa_stepsTo_1 (by decide) rfl ?_
  refine zi_iconst 0 d_Pa_stepsTo_2 rfl ?_
  refine zi_istore_n [(3, .int 0), (2, .int 0), (0, .ref a0), (1, .int x1)] d_Pa_stepsTo_3 (by decide) rfl ?_
  refine zi_lo [(0, .ref a0), (1, .int x1), (2, .int 0), (3, .int 0)] [2, 3, 1, 0] rfl ?_
  exact K_Pa_stepsTo_b4 n E S a0 x1 0 0 M r M'  h
theorem C_Pa_stepsTo (n : Nat) (E : zE) (S : zS) (a0 : Nat) (x1 : Int32) (M : zH) (r : Int32) (M' : zH) (h : F_Pa_stepsTo n E S a0 x1 M = some (r, M')) : zC E Y_Pa_stepsTo [.ref a0, .int x1] S M (some (.int r), S, M') :=
  zC.of (Or.inl (show plainName "NightColander$Paper" = true by decide)) (Nat.le_of_ble_eq_true rfl) (trivial) (K_Pa_stepsTo n E S a0 x1 M r M' h)
theorem d_Pa_findTurns_0 : decode (yB Y_Pa_findTurns) 0 = .ok (.aload_n 0, 1) := by decide +kernel
theorem d_Pa_findTurns_1 : decode (yB Y_Pa_findTurns) 1 = .ok (.aload_n 1, 1) := by decide +kernel
theorem d_Pa_findTurns_2 : decode (yB Y_Pa_findTurns) 2 = .ok (.invokevirtual 134, 3) := by decide +kernel
theorem d_Pa_findTurns_5 : decode (yB Y_Pa_findTurns) 5 = .ok (.aload_n 0, 1) := by decide +kernel
theorem d_Pa_findTurns_6 : decode (yB Y_Pa_findTurns) 6 = .ok (.iconst (-1), 1) := by decide +kernel
theorem d_Pa_findTurns_7 : decode (yB Y_Pa_findTurns) 7 = .ok (.putfield 38, 3) := by decide +kernel
theorem d_Pa_findTurns_10 : decode (yB Y_Pa_findTurns) 10 = .ok (.iconst 0, 1) := by decide +kernel
theorem d_Pa_findTurns_11 : decode (yB Y_Pa_findTurns) 11 = .ok (.istore_n 2, 1) := by decide +kernel
theorem d_Pa_findTurns_12 : decode (yB Y_Pa_findTurns) 12 = .ok (.iload_n 2, 1) := by decide +kernel
theorem d_Pa_findTurns_13 : decode (yB Y_Pa_findTurns) 13 = .ok (.sipush 4096, 3) := by decide +kernel
theorem d_Pa_findTurns_16 : decode (yB Y_Pa_findTurns) 16 = .ok (.if_icmp .ge 57, 3) := by decide +kernel
theorem d_Pa_findTurns_19 : decode (yB Y_Pa_findTurns) 19 = .ok (.aload_n 0, 1) := by decide +kernel
theorem d_Pa_findTurns_20 : decode (yB Y_Pa_findTurns) 20 = .ok (.getfield 38, 3) := by decide +kernel
theorem d_Pa_findTurns_23 : decode (yB Y_Pa_findTurns) 23 = .ok (.ifCond .eq 50, 3) := by decide +kernel
theorem d_Pa_findTurns_26 : decode (yB Y_Pa_findTurns) 26 = .ok (.aload_n 0, 1) := by decide +kernel
theorem d_Pa_findTurns_27 : decode (yB Y_Pa_findTurns) 27 = .ok (.aload_n 1, 1) := by decide +kernel
theorem d_Pa_findTurns_28 : decode (yB Y_Pa_findTurns) 28 = .ok (.iload_n 2, 1) := by decide +kernel
theorem d_Pa_findTurns_29 : decode (yB Y_Pa_findTurns) 29 = .ok (.invokevirtual 152, 3) := by decide +kernel
theorem d_Pa_findTurns_32 : decode (yB Y_Pa_findTurns) 32 = .ok (.ifCond .eq 35, 3) := by decide +kernel
theorem d_Pa_findTurns_35 : decode (yB Y_Pa_findTurns) 35 = .ok (.aload_n 1, 1) := by decide +kernel
theorem d_Pa_findTurns_36 : decode (yB Y_Pa_findTurns) 36 = .ok (.iload_n 2, 1) := by decide +kernel
theorem d_Pa_findTurns_37 : decode (yB Y_Pa_findTurns) 37 = .ok (.invokestatic 155, 3) := by decide +kernel
theorem d_Pa_findTurns_40 : decode (yB Y_Pa_findTurns) 40 = .ok (.istore_n 3, 1) := by decide +kernel
theorem d_Pa_findTurns_41 : decode (yB Y_Pa_findTurns) 41 = .ok (.aload_n 0, 1) := by decide +kernel
theorem d_Pa_findTurns_42 : decode (yB Y_Pa_findTurns) 42 = .ok (.getfield 38, 3) := by decide +kernel
theorem d_Pa_findTurns_45 : decode (yB Y_Pa_findTurns) 45 = .ok (.iconst (-1), 1) := by decide +kernel
theorem d_Pa_findTurns_46 : decode (yB Y_Pa_findTurns) 46 = .ok (.if_icmp .eq 11, 3) := by decide +kernel
theorem d_Pa_findTurns_49 : decode (yB Y_Pa_findTurns) 49 = .ok (.iload_n 3, 1) := by decide +kernel
theorem d_Pa_findTurns_50 : decode (yB Y_Pa_findTurns) 50 = .ok (.aload_n 0, 1) := by decide +kernel
theorem d_Pa_findTurns_51 : decode (yB Y_Pa_findTurns) 51 = .ok (.getfield 38, 3) := by decide +kernel
theorem d_Pa_findTurns_54 : decode (yB Y_Pa_findTurns) 54 = .ok (.if_icmp .ge 13, 3) := by decide +kernel
theorem d_Pa_findTurns_57 : decode (yB Y_Pa_findTurns) 57 = .ok (.aload_n 0, 1) := by decide +kernel
theorem d_Pa_findTurns_58 : decode (yB Y_Pa_findTurns) 58 = .ok (.iload_n 3, 1) := by decide +kernel
theorem d_Pa_findTurns_59 : decode (yB Y_Pa_findTurns) 59 = .ok (.putfield 38, 3) := by decide +kernel
theorem d_Pa_findTurns_62 : decode (yB Y_Pa_findTurns) 62 = .ok (.aload_n 0, 1) := by decide +kernel
theorem d_Pa_findTurns_63 : decode (yB Y_Pa_findTurns) 63 = .ok (.iload_n 2, 1) := by decide +kernel
theorem d_Pa_findTurns_64 : decode (yB Y_Pa_findTurns) 64 = .ok (.putfield 42, 3) := by decide +kernel
theorem d_Pa_findTurns_67 : decode (yB Y_Pa_findTurns) 67 = .ok (.iinc 2 1, 3) := by decide +kernel
theorem d_Pa_findTurns_70 : decode (yB Y_Pa_findTurns) 70 = .ok (.goto (-58), 3) := by decide +kernel
theorem d_Pa_findTurns_73 : decode (yB Y_Pa_findTurns) 73 = .ok (.aload_n 0, 1) := by decide +kernel
theorem d_Pa_findTurns_74 : decode (yB Y_Pa_findTurns) 74 = .ok (.getfield 38, 3) := by decide +kernel
theorem d_Pa_findTurns_77 : decode (yB Y_Pa_findTurns) 77 = .ok (.iconst (-1), 1) := by decide +kernel
theorem d_Pa_findTurns_78 : decode (yB Y_Pa_findTurns) 78 = .ok (.if_icmp .eq 7, 3) := by decide +kernel
theorem d_Pa_findTurns_81 : decode (yB Y_Pa_findTurns) 81 = .ok (.iconst 1, 1) := by decide +kernel
theorem d_Pa_findTurns_82 : decode (yB Y_Pa_findTurns) 82 = .ok (.goto 4, 3) := by decide +kernel
theorem d_Pa_findTurns_85 : decode (yB Y_Pa_findTurns) 85 = .ok (.iconst 0, 1) := by decide +kernel
theorem d_Pa_findTurns_86 : decode (yB Y_Pa_findTurns) 86 = .ok (.ireturn, 1) := by decide +kernel
def F_Pa_findTurns_b67 (n : Nat) (E : zE) (S : zS) (r12 : Nat × Nat × Int32 × zH → Option (Bool × zH)) (a0 : Nat) (a1 : Nat) (x2 : Int32) (M : zH) : Option (Bool × zH) :=
  r12 (a0, a1, x2 + 1, M)
def F_Pa_findTurns_b57 (n : Nat) (E : zE) (S : zS) (r12 : Nat × Nat × Int32 × zH → Option (Bool × zH)) (a0 : Nat) (a1 : Nat) (x2 : Int32) (x3 : Int32) (M : zH) : Option (Bool × zH) :=
  (zpI S M a0 4 8 x3).bind fun m1 =>
  (zpI S m1 a0 4 9 x2).bind fun m2 =>
  F_Pa_findTurns_b67 n E S r12 a0 a1 x2 m2
def F_Pa_findTurns_b73 (n : Nat) (E : zE) (S : zS) (a0 : Nat) (M : zH) : Option (Bool × zH) :=
  (zgI S M a0 4 8).bind fun v3 =>
  if v3 = (-1) then
    some (false, M)
  else
    some (true, M)
def F_Pa_findTurns_L12 (n : Nat) (E : zE) (S : zS) (r12 : Nat × Nat × Int32 × zH → Option (Bool × zH)) (a0 : Nat) (a1 : Nat) (x2 : Int32) (M : zH) : Option (Bool × zH) :=
  if 4096 ≤ x2 then
    F_Pa_findTurns_b73 n E S a0 M
  else
    (zgI S M a0 4 8).bind fun v6 =>
    if v6 = 0 then
      F_Pa_findTurns_b73 n E S a0 M
    else
      (F_Pa_givesWanted n E S a0 a1 x2 M).bind fun q8 =>
      if q8.1 = true then
        (F_Pa_stepsTo n E S a1 x2 q8.2).bind fun q10 =>
        (zgI S q10.2 a0 4 8).bind fun v11 =>
        if v11 = (-1) then
          F_Pa_findTurns_b57 n E S r12 a0 a1 x2 q10.1 q10.2
        else
          (zgI S q10.2 a0 4 8).bind fun v13 =>
          if v13 ≤ q10.1 then
            F_Pa_findTurns_b67 n E S r12 a0 a1 x2 q10.2
          else
            F_Pa_findTurns_b57 n E S r12 a0 a1 x2 q10.1 q10.2
      else
        F_Pa_findTurns_b67 n E S r12 a0 a1 x2 q8.2
def F_Pa_findTurns_b12 (n : Nat) (E : zE) (S : zS) : Nat × Nat × Int32 × zH → Option (Bool × zH) := zfix (fun r12 s => F_Pa_findTurns_L12 n E S r12 s.1 s.2.1 s.2.2.1 s.2.2.2) n
def F_Pa_findTurns (n : Nat) (E : zE) (S : zS) (a0 : Nat) (a1 : Nat) (M : zH) : Option (Bool × zH) :=
  (zck S a0 4).bind fun u15 =>
  (F_Pa_findShares n E S a0 a1 M).bind fun q16 =>
  (zpI S q16 a0 4 8 (-1)).bind fun m17 =>
  F_Pa_findTurns_b12 n E S (a0, a1, 0, m17)
theorem K_Pa_findTurns_b67 (n : Nat) (E : zE) (S : zS) (r12 : Nat × Nat × Int32 × zH → Option (Bool × zH)) (a0 : Nat) (a1 : Nat) (x2 : Int32) (M : zH) (r : Bool) (M' : zH) (hr12 : ∀ (a0 : Nat) (a1 : Nat) (x2 : Int32) (M : zH), r12 (a0, a1, x2, M) = some (r, M') → zG E Y_Pa_findTurns (some (.int (bI r)), S, M') 12 [(0, .ref a0), (1, .ref a1), (2, .int x2)] [] S M 0 0) (h : F_Pa_findTurns_b67 n E S r12 a0 a1 x2 M = some (r, M')) : zG E Y_Pa_findTurns (some (.int (bI r)), S, M') 67 [(0, .ref a0), (1, .ref a1), (2, .int x2)] [] S M 0 0 := by
  unfold F_Pa_findTurns_b67 at h
  refine zi_iinc 2 (x2 + 1) [(2, .int (x2 + 1)), (0, .ref a0), (1, .ref a1)] d_Pa_findTurns_67 rfl rfl (by decide) rfl ?_
  refine zi_goto (tgt := 12) d_Pa_findTurns_70 rfl ?_
  refine zi_lo [(0, .ref a0), (1, .ref a1), (2, .int (x2 + 1))] [1, 2, 0] rfl ?_
  exact hr12 a0 a1 (x2 + 1) M h
theorem K_Pa_findTurns_b57 (n : Nat) (E : zE) (S : zS) (r12 : Nat × Nat × Int32 × zH → Option (Bool × zH)) (a0 : Nat) (a1 : Nat) (x2 : Int32) (x3 : Int32) (M : zH) (r : Bool) (M' : zH) (hr12 : ∀ (a0 : Nat) (a1 : Nat) (x2 : Int32) (M : zH), r12 (a0, a1, x2, M) = some (r, M') → zG E Y_Pa_findTurns (some (.int (bI r)), S, M') 12 [(0, .ref a0), (1, .ref a1), (2, .int x2)] [] S M 0 0) (h : F_Pa_findTurns_b57 n E S r12 a0 a1 x2 x3 M = some (r, M')) : zG E Y_Pa_findTurns (some (.int (bI r)), S, M') 57 [(0, .ref a0), (1, .ref a1), (2, .int x2), (3, .int x3)] [] S M 0 0 := by
  unfold F_Pa_findTurns_b57 at h
  refine zi_aload_n 0 d_Pa_findTurns_57 rfl ?_
  refine zi_iload_n 3 d_Pa_findTurns_58 rfl ?_
  obtain ⟨m1, em1, h⟩ := zbind h
  refine zo_putI 62 zkd_4 8 d_Pa_findTurns_59 em1 rfl rfl rfl tw_306 rfl ?_
  refine zi_aload_n 0 d_Pa_findTurns_62 rfl ?_
  refine zi_iload_n 2 d_Pa_findTurns_63 rfl ?_
  obtain ⟨m2, em2, h⟩ := zbind h
  refine zo_putI 67 zkd_4 9 d_Pa_findTurns_64 em2 rfl rfl rfl tw_308 rfl ?_
  refine zi_lo [(0, .ref a0), (1, .ref a1), (2, .int x2)] [0, 1, 2] rfl ?_
  exact K_Pa_findTurns_b67 n E S r12 a0 a1 x2 m2 r M' hr12 h
theorem K_Pa_findTurns_b73 (n : Nat) (E : zE) (S : zS) (a0 : Nat) (M : zH) (r : Bool) (M' : zH)  (h : F_Pa_findTurns_b73 n E S a0 M = some (r, M')) : zG E Y_Pa_findTurns (some (.int (bI r)), S, M') 73 [(0, .ref a0)] [] S M 0 0 := by
  unfold F_Pa_findTurns_b73 at h
  refine zi_aload_n 0 d_Pa_findTurns_73 rfl ?_
  obtain ⟨v3, ev3, h⟩ := zbind h
  refine zo_getI 77 zkd_4 8 d_Pa_findTurns_74 ev3 rfl tw_306 rfl ?_
  refine zi_iconst (-1) d_Pa_findTurns_77 rfl ?_
  refine zi_icmp_eq (tgt := 85) d_Pa_findTurns_78 rfl (fun c4 => ?_) (fun c4 => ?_)
  · rw [if_pos c4] at h
    refine zi_iconst 0 d_Pa_findTurns_85 rfl ?_
    cases h
    exact zo_retB d_Pa_findTurns_86 (Nat.le_of_ble_eq_true rfl) (Nat.le_of_ble_eq_true rfl) rfl
  · rw [if_neg c4] at h
    refine zi_iconst 1 d_Pa_findTurns_81 rfl ?_
    refine zi_goto (tgt := 86) d_Pa_findTurns_82 rfl ?_
    cases h
    exact zo_retB d_Pa_findTurns_86 (Nat.le_of_ble_eq_true rfl) (Nat.le_of_ble_eq_true rfl) rfl
theorem K_Pa_findTurns_L12 (n : Nat) (E : zE) (S : zS) (r12 : Nat × Nat × Int32 × zH → Option (Bool × zH)) (a0 : Nat) (a1 : Nat) (x2 : Int32) (M : zH) (r : Bool) (M' : zH) (hr12 : ∀ (a0 : Nat) (a1 : Nat) (x2 : Int32) (M : zH), r12 (a0, a1, x2, M) = some (r, M') → zG E Y_Pa_findTurns (some (.int (bI r)), S, M') 12 [(0, .ref a0), (1, .ref a1), (2, .int x2)] [] S M 0 0) (h : F_Pa_findTurns_L12 n E S r12 a0 a1 x2 M = some (r, M')) : zG E Y_Pa_findTurns (some (.int (bI r)), S, M') 12 [(0, .ref a0), (1, .ref a1), (2, .int x2)] [] S M 0 0 := by
  unfold F_Pa_findTurns_L12 at h
  refine zi_iload_n 2 d_Pa_findTurns_12 rfl ?_
  refine zi_sipush 4096 d_Pa_findTurns_13 rfl ?_
  refine zi_icmp_ge (tgt := 73) d_Pa_findTurns_16 rfl (fun c5 => ?_) (fun c5 => ?_)
  · rw [if_pos c5] at h
    refine zi_lo [(0, .ref a0)] [0] rfl ?_
    exact K_Pa_findTurns_b73 n E S a0 M r M'  h
  · rw [if_neg c5] at h
    refine zi_aload_n 0 d_Pa_findTurns_19 rfl ?_
    obtain ⟨v6, ev6, h⟩ := zbind h
    refine zo_getI 23 zkd_4 8 d_Pa_findTurns_20 ev6 rfl tw_306 rfl ?_
    refine zi_if_eq (tgt := 73) d_Pa_findTurns_23 rfl (fun c7 => ?_) (fun c7 => ?_)
    · rw [if_pos c7] at h
      refine zi_lo [(0, .ref a0)] [0] rfl ?_
      exact K_Pa_findTurns_b73 n E S a0 M r M'  h
    · rw [if_neg c7] at h
      refine zi_aload_n 0 d_Pa_findTurns_26 rfl ?_
      refine zi_aload_n 1 d_Pa_findTurns_27 rfl ?_
      refine zi_iload_n 2 d_Pa_findTurns_28 rfl ?_
      obtain ⟨q8, eq8, h⟩ := zbind h
      refine zo_virt (k' := 0) (n' := 0) 32 [.ref a1, .int x2] [] [.int (bI q8.1)] zkd_4 (zgI_s ev6).1 (C_Pa_givesWanted n E S a0 a1 x2 M q8.1 q8.2 eq8) d_Pa_findTurns_29 tw_1087 tw_1084 tw_1086 ts_34 tw_12 dd_Pa_givesWanted ⟨Nat.le_of_ble_eq_true rfl, Nat.le_of_ble_eq_true rfl, Nat.le_of_ble_eq_true rfl, Nat.le_of_ble_eq_true rfl⟩ (Nat.le_of_ble_eq_true rfl) rfl rfl rfl rfl ?_
      refine zo_ifeqB d_Pa_findTurns_32 rfl 35 rfl (fun c9 => ?_) (fun c9 => ?_)
      · rw [if_neg c9] at h
        refine zi_lo [(0, .ref a0), (1, .ref a1), (2, .int x2)] [0, 1, 2] rfl ?_
        exact K_Pa_findTurns_b67 n E S r12 a0 a1 x2 q8.2 r M' hr12 h
      · rw [if_pos c9] at h
        refine zi_aload_n 1 d_Pa_findTurns_35 rfl ?_
        refine zi_iload_n 2 d_Pa_findTurns_36 rfl ?_
        obtain ⟨q10, eq10, h⟩ := zbind h
        refine zo_stat (k' := 0) (n' := 0) 40 [.ref a1, .int x2] [] [.int q10.1] (C_Pa_stepsTo n E S a1 x2 q8.2 q10.1 q10.2 eq10) d_Pa_findTurns_37 tw_1090 tw_1088 tw_1089 tw_12 dd_Pa_stepsTo ⟨Nat.le_of_ble_eq_true rfl, Nat.le_of_ble_eq_true rfl, Nat.le_of_ble_eq_true rfl, Nat.le_of_ble_eq_true rfl⟩ (Nat.le_of_ble_eq_true rfl) rfl rfl rfl rfl ?_
        refine zi_istore_n [(3, .int q10.1), (0, .ref a0), (1, .ref a1), (2, .int x2)] d_Pa_findTurns_40 (by decide) rfl ?_
        refine zi_aload_n 1 d_Pa_findTurns_41 rfl ?_
        obtain ⟨v11, ev11, h⟩ := zbind h
        refine zo_getI 45 zkd_4 8 d_Pa_findTurns_42 ev11 rfl tw_306 rfl ?_
        refine zi_iconst (-1) d_Pa_findTurns_45 rfl ?_
        refine zi_icmp_eq (tgt := 57) d_Pa_findTurns_46 rfl (fun c12 => ?_) (fun c12 => ?_)
        · rw [if_pos c12] at h
          refine zi_lo [(0, .ref a0), (1, .ref a1), (2, .int x2), (3, .int q10.1)] [1, 2, 3, 0] rfl ?_
          exact K_Pa_findTurns_b57 n E S r12 a0 a1 x2 q10.1 q10.2 r M' hr12 h
        · rw [if_neg c12] at h
          refine zi_iload_n 0 d_Pa_findTurns_49 rfl ?_
          refine zi_aload_n 1 d_Pa_findTurns_50 rfl ?_
          obtain ⟨v13, ev13, h⟩ := zbind h
          refine zo_getI 54 zkd_4 8 d_Pa_findTurns_51 ev13 rfl tw_306 rfl ?_
          refine zi_icmp_ge (tgt := 67) d_Pa_findTurns_54 rfl (fun c14 => ?_) (fun c14 => ?_)
          · rw [if_pos c14] at h
            refine zi_lo [(0, .ref a0), (1, .ref a1), (2, .int x2)] [1, 2, 3] rfl ?_
            exact K_Pa_findTurns_b67 n E S r12 a0 a1 x2 q10.2 r M' hr12 h
          · rw [if_neg c14] at h
            refine zi_lo [(0, .ref a0), (1, .ref a1), (2, .int x2), (3, .int q10.1)] [1, 2, 3, 0] rfl ?_
            exact K_Pa_findTurns_b57 n E S r12 a0 a1 x2 q10.1 q10.2 r M' hr12 h
theorem K_Pa_findTurns_b12 (n : Nat) (E : zE) (S : zS) (a0 : Nat) (a1 : Nat) (x2 : Int32) (M : zH) (r : Bool) (M' : zH)  (h : F_Pa_findTurns_b12 n E S (a0, a1, x2, M) = some (r, M')) : zG E Y_Pa_findTurns (some (.int (bI r)), S, M') 12 [(0, .ref a0), (1, .ref a1), (2, .int x2)] [] S M 0 0 := by
  have key : ∀ (k : Nat) (a0 : Nat) (a1 : Nat) (x2 : Int32) (M : zH), zfix (fun r12 s => F_Pa_findTurns_L12 n E S r12 s.1 s.2.1 s.2.2.1 s.2.2.2) k (a0, a1, x2, M) = some (r, M') → zG E Y_Pa_findTurns (some (.int (bI r)), S, M') 12 [(0, .ref a0), (1, .ref a1), (2, .int x2)] [] S M 0 0 := by
    intro k
    induction k with
    | zero => intro a0 a1 x2 M h; cases h
    | succ k ih => intro a0 a1 x2 M h; exact K_Pa_findTurns_L12 n E S _ a0 a1 x2 M r M'  (fun a0 a1 x2 M h => ih a0 a1 x2 M h) h
  exact key n a0 a1 x2 M h
theorem K_Pa_findTurns (n : Nat) (E : zE) (S : zS) (a0 : Nat) (a1 : Nat) (M : zH) (r : Bool) (M' : zH)  (h : F_Pa_findTurns n E S a0 a1 M = some (r, M')) : zG E Y_Pa_findTurns (some (.int (bI r)), S, M') 0 [(0, .ref a0), (1, .ref a1)] [] S M 0 0 := by
  unfold F_Pa_findTurns at h
  refine zi_aload_n 0 d_Pa_findTurns_0 rfl ?_
  refine zi_aload_n 1 d_Pa_findTurns_1 rfl ?_
  obtain ⟨u15, eu15, h⟩ := zbind h
  obtain ⟨q16, eq16, h⟩ := zbind h
  refine zo_virt (k' := 0) (n' := 0) 5 [.ref a1] [] [] zkd_4 (zck_s eu15) (C_Pa_findShares n E S a0 a1 M q16 eq16) d_Pa_findTurns_2 tw_1039 tw_1036 tw_1038 ts_28 tw_12 dd_Pa_findShares ⟨Nat.le_of_ble_eq_true rfl, Nat.le_of_ble_eq_true rfl, Nat.le_of_ble_eq_true rfl, Nat.le_of_ble_eq_true rfl⟩ (Nat.le_of_ble_eq_true rfl) rfl rfl rfl rfl ?_
  refine zi_aload_n 0 d_Pa_findTurns_5 rfl ?_
  refine zi_iconst (-1) d_Pa_findTurns_6 rfl ?_
  obtain ⟨m17, em17, h⟩ := zbind h
  refine zo_putI 10 zkd_4 8 d_Pa_findTurns_7 em17 rfl rfl rfl tw_306 rfl ?_
  refine zi_iconst 0 d_Pa_findTurns_10 rfl ?_
  refine zi_istore_n [(2, .int 0), (0, .ref a0), (1, .ref a1)] d_Pa_findTurns_11 (by decide) rfl ?_
  refine zi_lo [(0, .ref a0), (1, .ref a1), (2, .int 0)] [1, 2, 0] rfl ?_
  exact K_Pa_findTurns_b12 n E S a0 a1 0 m17 r M'  h
theorem C_Pa_findTurns (n : Nat) (E : zE) (S : zS) (a0 : Nat) (a1 : Nat) (M : zH) (r : Bool) (M' : zH) (h : F_Pa_findTurns n E S a0 a1 M = some (r, M')) : zC E Y_Pa_findTurns [.ref a0, .ref a1] S M (some (.int (bI r)), S, M') :=
  zC.of (Or.inl (show plainName "NightColander$Paper" = true by decide)) (Nat.le_of_ble_eq_true rfl) (bI_nar r) (K_Pa_findTurns n E S a0 a1 M r M' h)
theorem d_NC_turned_0 : decode (yB Y_NC_turned) 0 = .ok (.iload_n 1, 1) := by decide +kernel
theorem d_NC_turned_1 : decode (yB Y_NC_turned) 1 = .ok (.iconst (-1), 1) := by decide +kernel
theorem d_NC_turned_2 : decode (yB Y_NC_turned) 2 = .ok (.iconst 3, 1) := by decide +kernel
theorem d_NC_turned_3 : decode (yB Y_NC_turned) 3 = .ok (.invokestatic 132, 3) := by decide +kernel
theorem d_NC_turned_6 : decode (yB Y_NC_turned) 6 = .ok (.ifCond .eq 17, 3) := by decide +kernel
theorem d_NC_turned_9 : decode (yB Y_NC_turned) 9 = .ok (.aload_n 0, 1) := by decide +kernel
theorem d_NC_turned_10 : decode (yB Y_NC_turned) 10 = .ok (.getfield 86, 3) := by decide +kernel
theorem d_NC_turned_13 : decode (yB Y_NC_turned) 13 = .ok (.aload_n 0, 1) := by decide +kernel
theorem d_NC_turned_14 : decode (yB Y_NC_turned) 14 = .ok (.getfield 12, 3) := by decide +kernel
theorem d_NC_turned_17 : decode (yB Y_NC_turned) 17 = .ok (.invokevirtual 289, 3) := by decide +kernel
theorem d_NC_turned_20 : decode (yB Y_NC_turned) 20 = .ok (.ifCond .ne 5, 3) := by decide +kernel
theorem d_NC_turned_23 : decode (yB Y_NC_turned) 23 = .ok (.iconst (-1), 1) := by decide +kernel
theorem d_NC_turned_24 : decode (yB Y_NC_turned) 24 = .ok (.ireturn, 1) := by decide +kernel
theorem d_NC_turned_25 : decode (yB Y_NC_turned) 25 = .ok (.iload_n 1, 1) := by decide +kernel
theorem d_NC_turned_26 : decode (yB Y_NC_turned) 26 = .ok (.iconst (-1), 1) := by decide +kernel
theorem d_NC_turned_27 : decode (yB Y_NC_turned) 27 = .ok (.if_icmp .ne 13, 3) := by decide +kernel
theorem d_NC_turned_30 : decode (yB Y_NC_turned) 30 = .ok (.aload_n 0, 1) := by decide +kernel
theorem d_NC_turned_31 : decode (yB Y_NC_turned) 31 = .ok (.getfield 86, 3) := by decide +kernel
theorem d_NC_turned_34 : decode (yB Y_NC_turned) 34 = .ok (.getfield 267, 3) := by decide +kernel
theorem d_NC_turned_37 : decode (yB Y_NC_turned) 37 = .ok (.goto 13, 3) := by decide +kernel
theorem d_NC_turned_40 : decode (yB Y_NC_turned) 40 = .ok (.aload_n 0, 1) := by decide +kernel
theorem d_NC_turned_41 : decode (yB Y_NC_turned) 41 = .ok (.getfield 86, 3) := by decide +kernel
theorem d_NC_turned_44 : decode (yB Y_NC_turned) 44 = .ok (.iconst 3, 1) := by decide +kernel
theorem d_NC_turned_45 : decode (yB Y_NC_turned) 45 = .ok (.iload_n 1, 1) := by decide +kernel
theorem d_NC_turned_46 : decode (yB Y_NC_turned) 46 = .ok (.isub, 1) := by decide +kernel
theorem d_NC_turned_47 : decode (yB Y_NC_turned) 47 = .ok (.invokevirtual 270, 3) := by decide +kernel
theorem d_NC_turned_50 : decode (yB Y_NC_turned) 50 = .ok (.ireturn, 1) := by decide +kernel
def F_NC_turned (n : Nat) (E : zE) (S : zS) (a0 : Nat) (x1 : Int32) (M : zH) : Option (Int32 × zH) :=
  (F_NC_within n E S x1 (-1) 3 M).bind fun q1 =>
  if q1.1 = true then
    (zgR S a0 10 12).bind fun b3 =>
    (zgR S a0 10 0).bind fun b4 =>
    (zck S b3 4).bind fun u5 =>
    (F_Pa_findTurns n E S b3 b4 q1.2).bind fun q6 =>
    if q6.1 = true then
      if x1 = (-1) then
        (zgI S q6.2 b3 4 8).bind fun v9 =>
        some (v9, q6.2)
      else
        (F_Pa_digitOfChoice n E S b3 (3 - x1) q6.2).bind fun q10 =>
        some (q10.1, q10.2)
    else
      some ((-1), q6.2)
  else
    some ((-1), q1.2)
theorem K_NC_turned (n : Nat) (E : zE) (S : zS) (a0 : Nat) (x1 : Int32) (M : zH) (r : Int32) (M' : zH)  (h : F_NC_turned n E S a0 x1 M = some (r, M')) : zG E Y_NC_turned (some (.int r), S, M') 0 [(0, .ref a0), (1, .int x1)] [] S M 0 0 := by
  unfold F_NC_turned at h
  refine zi_iload_n 1 d_NC_turned_0 rfl ?_
  refine zi_iconst (-1) d_NC_turned_1 rfl ?_
  refine zi_iconst 3 d_NC_turned_2 rfl ?_
  obtain ⟨q1, eq1, h⟩ := zbind h
  refine zo_stat (k' := 0) (n' := 0) 6 [.int x1, .int (-1), .int 3] [] [.int (bI q1.1)] (C_NC_within n E S x1 (-1) 3 M q1.1 q1.2 eq1) d_NC_turned_3 tw_399 tw_397 tw_398 tw_1 dd_NC_within ⟨Nat.le_of_ble_eq_true rfl, Nat.le_of_ble_eq_true rfl, Nat.le_of_ble_eq_true rfl, Nat.le_of_ble_eq_true rfl⟩ (Nat.le_of_ble_eq_true rfl) rfl rfl rfl rfl ?_
  refine zo_ifeqB d_NC_turned_6 rfl 9 rfl (fun c2 => ?_) (fun c2 => ?_)
  · rw [if_neg c2] at h
    refine zi_iconst (-1) d_NC_turned_23 rfl ?_
    cases h
    exact zo_ret d_NC_turned_24 (Nat.le_of_ble_eq_true rfl) (Nat.le_of_ble_eq_true rfl) rfl
  · rw [if_pos c2] at h
    refine zi_aload_n 0 d_NC_turned_9 rfl ?_
    obtain ⟨b3, eb3, h⟩ := zbind h
    refine zo_getR 13 zkd_10 12 d_NC_turned_10 eb3 rfl tw_344 rfl ?_
    refine zi_aload_n 0 d_NC_turned_13 rfl ?_
    obtain ⟨b4, eb4, h⟩ := zbind h
    refine zo_getR 17 zkd_10 0 d_NC_turned_14 eb4 rfl tw_332 rfl ?_
    obtain ⟨u5, eu5, h⟩ := zbind h
    obtain ⟨q6, eq6, h⟩ := zbind h
    refine zo_virt (k' := 0) (n' := 0) 20 [.ref b4] [] [.int (bI q6.1)] zkd_4 (zck_s eu5) (C_Pa_findTurns n E S b3 b4 q1.2 q6.1 q6.2 eq6) d_NC_turned_17 tw_1083 tw_1080 tw_1081 tw_1082 tw_12 dd_Pa_findTurns ⟨Nat.le_of_ble_eq_true rfl, Nat.le_of_ble_eq_true rfl, Nat.le_of_ble_eq_true rfl, Nat.le_of_ble_eq_true rfl⟩ (Nat.le_of_ble_eq_true rfl) rfl rfl rfl rfl ?_
    refine zo_ifneB d_NC_turned_20 rfl 23 rfl (fun c7 => ?_) (fun c7 => ?_)
    · rw [if_pos c7] at h
      refine zi_iload_n 1 d_NC_turned_25 rfl ?_
      refine zi_iconst (-1) d_NC_turned_26 rfl ?_
      refine zi_icmp_ne (tgt := 40) d_NC_turned_27 rfl (fun c8 => ?_) (fun c8 => ?_)
      · rw [if_neg c8] at h
        refine zi_aload_n 0 d_NC_turned_40 rfl ?_
        refine zo_getR 44 zkd_10 12 d_NC_turned_41 eb3 rfl tw_344 rfl ?_
        refine zi_iconst 3 d_NC_turned_44 rfl ?_
        refine zi_iload_n 1 d_NC_turned_45 rfl ?_
        refine zi_isub d_NC_turned_46 ?_
        obtain ⟨q10, eq10, h⟩ := zbind h
        refine zo_virt (k' := 0) (n' := 0) 50 [.int (3 - x1)] [] [.int q10.1] zkd_4 (zck_s eu5) (C_Pa_digitOfChoice n E S b3 (3 - x1) q6.2 q10.1 q10.2 eq10) d_NC_turned_47 tw_1014 tw_1011 tw_1012 tw_1013 tw_12 dd_Pa_digitOfChoice ⟨Nat.le_of_ble_eq_true rfl, Nat.le_of_ble_eq_true rfl, Nat.le_of_ble_eq_true rfl, Nat.le_of_ble_eq_true rfl⟩ (Nat.le_of_ble_eq_true rfl) rfl rfl rfl rfl ?_
        cases h
        exact zo_ret d_NC_turned_50 (Nat.le_of_ble_eq_true rfl) (Nat.le_of_ble_eq_true rfl) rfl
      · rw [if_pos c8] at h
        refine zi_aload_n 0 d_NC_turned_30 rfl ?_
        refine zo_getR 34 zkd_10 12 d_NC_turned_31 eb3 rfl tw_344 rfl ?_
        obtain ⟨v9, ev9, h⟩ := zbind h
        refine zo_getI 37 zkd_4 8 d_NC_turned_34 ev9 rfl tw_307 rfl ?_
        refine zi_goto (tgt := 50) d_NC_turned_37 rfl ?_
        cases h
        exact zo_ret d_NC_turned_50 (Nat.le_of_ble_eq_true rfl) (Nat.le_of_ble_eq_true rfl) rfl
    · rw [if_neg c7] at h
      refine zi_iconst (-1) d_NC_turned_23 rfl ?_
      cases h
      exact zo_ret d_NC_turned_24 (Nat.le_of_ble_eq_true rfl) (Nat.le_of_ble_eq_true rfl) rfl
theorem C_NC_turned (n : Nat) (E : zE) (S : zS) (a0 : Nat) (x1 : Int32) (M : zH) (r : Int32) (M' : zH) (h : F_NC_turned n E S a0 x1 M = some (r, M')) : zC E Y_NC_turned [.ref a0, .int x1] S M (some (.int r), S, M') :=
  zC.of (Or.inl (show plainName "NightColander" = true by decide)) (Nat.le_of_ble_eq_true rfl) (trivial) (K_NC_turned n E S a0 x1 M r M' h)
