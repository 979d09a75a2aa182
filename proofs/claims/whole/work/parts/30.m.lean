/-! METHODS (printed by gen/build.py): Pa_findFitting Pa_mostAlike Pa_findLook NC_look Pa_givesWanted Pa_stepsTo Pa_findTurns NC_turned Pa_sharesOf Ji_bitCount -/
theorem d_Pa_findFitting_0 : decode (yB Y_Pa_findFitting) 0 = .ok (.aload_n 0, 1) := by decide +kernel
theorem d_Pa_findFitting_1 : decode (yB Y_Pa_findFitting) 1 = .ok (.aload_n 1, 1) := by decide +kernel
theorem d_Pa_findFitting_2 : decode (yB Y_Pa_findFitting) 2 = .ok (.invokevirtual 134, 3) := by decide +kernel
theorem d_Pa_findFitting_5 : decode (yB Y_Pa_findFitting) 5 = .ok (.iconst 0, 1) := by decide +kernel
theorem d_Pa_findFitting_6 : decode (yB Y_Pa_findFitting) 6 = .ok (.istore_n 2, 1) := by decide +kernel
theorem d_Pa_findFitting_7 : decode (yB Y_Pa_findFitting) 7 = .ok (.iconst 0, 1) := by decide +kernel
theorem d_Pa_findFitting_8 : decode (yB Y_Pa_findFitting) 8 = .ok (.istore_n 3, 1) := by decide +kernel
theorem d_Pa_findFitting_9 : decode (yB Y_Pa_findFitting) 9 = .ok (.iload_n 3, 1) := by decide +kernel
theorem d_Pa_findFitting_10 : decode (yB Y_Pa_findFitting) 10 = .ok (.aload_n 0, 1) := by decide +kernel
theorem d_Pa_findFitting_11 : decode (yB Y_Pa_findFitting) 11 = .ok (.getfield 28, 3) := by decide +kernel
theorem d_Pa_findFitting_14 : decode (yB Y_Pa_findFitting) 14 = .ok (.arraylength, 1) := by decide +kernel
theorem d_Pa_findFitting_15 : decode (yB Y_Pa_findFitting) 15 = .ok (.if_icmp .ge 77, 3) := by decide +kernel
theorem d_Pa_findFitting_18 : decode (yB Y_Pa_findFitting) 18 = .ok (.iconst 0, 1) := by decide +kernel
theorem d_Pa_findFitting_19 : decode (yB Y_Pa_findFitting) 19 = .ok (.istore 4, 2) := by decide +kernel
theorem d_Pa_findFitting_21 : decode (yB Y_Pa_findFitting) 21 = .ok (.iconst 0, 1) := by decide +kernel
theorem d_Pa_findFitting_22 : decode (yB Y_Pa_findFitting) 22 = .ok (.istore 5, 2) := by decide +kernel
theorem d_Pa_findFitting_24 : decode (yB Y_Pa_findFitting) 24 = .ok (.iload 5, 2) := by decide +kernel
theorem d_Pa_findFitting_26 : decode (yB Y_Pa_findFitting) 26 = .ok (.bipush 8, 2) := by decide +kernel
theorem d_Pa_findFitting_28 : decode (yB Y_Pa_findFitting) 28 = .ok (.if_icmp .ge 37, 3) := by decide +kernel
theorem d_Pa_findFitting_31 : decode (yB Y_Pa_findFitting) 31 = .ok (.iload 4, 2) := by decide +kernel
theorem d_Pa_findFitting_33 : decode (yB Y_Pa_findFitting) 33 = .ok (.aload_n 0, 1) := by decide +kernel
theorem d_Pa_findFitting_34 : decode (yB Y_Pa_findFitting) 34 = .ok (.aload_n 1, 1) := by decide +kernel
theorem d_Pa_findFitting_35 : decode (yB Y_Pa_findFitting) 35 = .ok (.iload_n 3, 1) := by decide +kernel
theorem d_Pa_findFitting_36 : decode (yB Y_Pa_findFitting) 36 = .ok (.bipush 8, 2) := by decide +kernel
theorem d_Pa_findFitting_38 : decode (yB Y_Pa_findFitting) 38 = .ok (.imul, 1) := by decide +kernel
theorem d_Pa_findFitting_39 : decode (yB Y_Pa_findFitting) 39 = .ok (.iload 5, 2) := by decide +kernel
theorem d_Pa_findFitting_41 : decode (yB Y_Pa_findFitting) 41 = .ok (.iadd, 1) := by decide +kernel
theorem d_Pa_findFitting_42 : decode (yB Y_Pa_findFitting) 42 = .ok (.invokevirtual 137, 3) := by decide +kernel
theorem d_Pa_findFitting_45 : decode (yB Y_Pa_findFitting) 45 = .ok (.ifCond .eq 10, 3) := by decide +kernel
theorem d_Pa_findFitting_48 : decode (yB Y_Pa_findFitting) 48 = .ok (.iconst 1, 1) := by decide +kernel
theorem d_Pa_findFitting_49 : decode (yB Y_Pa_findFitting) 49 = .ok (.iload 5, 2) := by decide +kernel
theorem d_Pa_findFitting_51 : decode (yB Y_Pa_findFitting) 51 = .ok (.ishl, 1) := by decide +kernel
theorem d_Pa_findFitting_52 : decode (yB Y_Pa_findFitting) 52 = .ok (.goto 4, 3) := by decide +kernel
theorem d_Pa_findFitting_55 : decode (yB Y_Pa_findFitting) 55 = .ok (.iconst 0, 1) := by decide +kernel
theorem d_Pa_findFitting_56 : decode (yB Y_Pa_findFitting) 56 = .ok (.ior, 1) := by decide +kernel
theorem d_Pa_findFitting_57 : decode (yB Y_Pa_findFitting) 57 = .ok (.istore 4, 2) := by decide +kernel
theorem d_Pa_findFitting_59 : decode (yB Y_Pa_findFitting) 59 = .ok (.iinc 5 1, 3) := by decide +kernel
theorem d_Pa_findFitting_62 : decode (yB Y_Pa_findFitting) 62 = .ok (.goto (-38), 3) := by decide +kernel
theorem d_Pa_findFitting_65 : decode (yB Y_Pa_findFitting) 65 = .ok (.aload_n 0, 1) := by decide +kernel
theorem d_Pa_findFitting_66 : decode (yB Y_Pa_findFitting) 66 = .ok (.getfield 28, 3) := by decide +kernel
theorem d_Pa_findFitting_69 : decode (yB Y_Pa_findFitting) 69 = .ok (.iload_n 3, 1) := by decide +kernel
theorem d_Pa_findFitting_70 : decode (yB Y_Pa_findFitting) 70 = .ok (.iload 4, 2) := by decide +kernel
theorem d_Pa_findFitting_72 : decode (yB Y_Pa_findFitting) 72 = .ok (.iastore, 1) := by decide +kernel
theorem d_Pa_findFitting_73 : decode (yB Y_Pa_findFitting) 73 = .ok (.iload_n 2, 1) := by decide +kernel
theorem d_Pa_findFitting_74 : decode (yB Y_Pa_findFitting) 74 = .ok (.iload 4, 2) := by decide +kernel
theorem d_Pa_findFitting_76 : decode (yB Y_Pa_findFitting) 76 = .ok (.ifCond .eq 7, 3) := by decide +kernel
theorem d_Pa_findFitting_79 : decode (yB Y_Pa_findFitting) 79 = .ok (.iconst 1, 1) := by decide +kernel
theorem d_Pa_findFitting_80 : decode (yB Y_Pa_findFitting) 80 = .ok (.goto 4, 3) := by decide +kernel
theorem d_Pa_findFitting_83 : decode (yB Y_Pa_findFitting) 83 = .ok (.iconst 0, 1) := by decide +kernel
theorem d_Pa_findFitting_84 : decode (yB Y_Pa_findFitting) 84 = .ok (.ior, 1) := by decide +kernel
theorem d_Pa_findFitting_85 : decode (yB Y_Pa_findFitting) 85 = .ok (.istore_n 2, 1) := by decide +kernel
theorem d_Pa_findFitting_86 : decode (yB Y_Pa_findFitting) 86 = .ok (.iinc 3 1, 3) := by decide +kernel
theorem d_Pa_findFitting_89 : decode (yB Y_Pa_findFitting) 89 = .ok (.goto (-80), 3) := by decide +kernel
theorem d_Pa_findFitting_92 : decode (yB Y_Pa_findFitting) 92 = .ok (.iload_n 2, 1) := by decide +kernel
theorem d_Pa_findFitting_93 : decode (yB Y_Pa_findFitting) 93 = .ok (.ireturn, 1) := by decide +kernel
def F_Pa_findFitting_b56 (n : Nat) (E : zE) (S : zS) (r9 : Nat × Nat × Int32 × Int32 × zH → Option (Bool × zH)) (r24 : Nat × Nat × Int32 × Int32 × Int32 × Int32 × zH → Option (Bool × zH)) (a0 : Nat) (a1 : Nat) (x2 : Int32) (x3 : Int32) (x5 : Int32) (s0 : Int32) (s1 : Int32) (M : zH) : Option (Bool × zH) :=
  r24 (a0, a1, x2, x3, s1 ||| s0, x5 + 1, M)
def F_Pa_findFitting_b84 (n : Nat) (E : zE) (S : zS) (r9 : Nat × Nat × Int32 × Int32 × zH → Option (Bool × zH)) (a0 : Nat) (a1 : Nat) (x3 : Int32) (s0 : Int32) (s1 : Int32) (M : zH) : Option (Bool × zH) :=
  r9 (a0, a1, s1 ||| s0, x3 + 1, M)
def F_Pa_findFitting_L24 (n : Nat) (E : zE) (S : zS) (r9 : Nat × Nat × Int32 × Int32 × zH → Option (Bool × zH)) (r24 : Nat × Nat × Int32 × Int32 × Int32 × Int32 × zH → Option (Bool × zH)) (a0 : Nat) (a1 : Nat) (x2 : Int32) (x3 : Int32) (x4 : Int32) (x5 : Int32) (M : zH) : Option (Bool × zH) :=
  if 8 ≤ x5 then
    (zgR S a0 4 5).bind fun b_2 =>
    (zstI S M b_2 x3 x4).bind fun m_3 =>
    if x4 = 0 then
      F_Pa_findFitting_b84 n E S r9 a0 a1 x3 0 x2 m_3
    else
      F_Pa_findFitting_b84 n E S r9 a0 a1 x3 1 x2 m_3
  else
    (zck S a0 4).bind fun u_5 =>
    (F_Pa_fitsSeen n E S a0 a1 ((x3 * 8) + x5) M).bind fun q_6 =>
    if q_6.1 = true then
      F_Pa_findFitting_b56 n E S r9 r24 a0 a1 x2 x3 x5 ((1 : Int32) <<< (x5 &&& (31 : Int32))) x4 q_6.2
    else
      F_Pa_findFitting_b56 n E S r9 r24 a0 a1 x2 x3 x5 0 x4 q_6.2
def F_Pa_findFitting_b24 (n : Nat) (E : zE) (S : zS) (r9 : Nat × Nat × Int32 × Int32 × zH → Option (Bool × zH)) : Nat × Nat × Int32 × Int32 × Int32 × Int32 × zH → Option (Bool × zH) := zfix (fun r24 s => F_Pa_findFitting_L24 n E S r9 r24 s.1 s.2.1 s.2.2.1 s.2.2.2.1 s.2.2.2.2.1 s.2.2.2.2.2.1 s.2.2.2.2.2.2) n
def F_Pa_findFitting_L9 (n : Nat) (E : zE) (S : zS) (r9 : Nat × Nat × Int32 × Int32 × zH → Option (Bool × zH)) (a0 : Nat) (a1 : Nat) (x2 : Int32) (x3 : Int32) (M : zH) : Option (Bool × zH) :=
  (zgR S a0 4 5).bind fun b_8 =>
  (zlen S 12 b_8).bind fun v_9 =>
  if v_9 ≤ x3 then
    (zbl x2).bind fun z_11 =>
    some (z_11, M)
  else
    F_Pa_findFitting_b24 n E S r9 (a0, a1, x2, x3, 0, 0, M)
def F_Pa_findFitting_b9 (n : Nat) (E : zE) (S : zS) : Nat × Nat × Int32 × Int32 × zH → Option (Bool × zH) := zfix (fun r9 s => F_Pa_findFitting_L9 n E S r9 s.1 s.2.1 s.2.2.1 s.2.2.2.1 s.2.2.2.2) n
def F_Pa_findFitting (n : Nat) (E : zE) (S : zS) (a0 : Nat) (a1 : Nat) (M : zH) : Option (Bool × zH) :=
  (zck S a0 4).bind fun u_12 =>
  (F_Pa_findShares n E S a0 a1 M).bind fun q_13 =>
  F_Pa_findFitting_b9 n E S (a0, a1, 0, 0, q_13)
theorem K_Pa_findFitting_b56 (n : Nat) (E : zE) (S : zS) (r9 : Nat × Nat × Int32 × Int32 × zH → Option (Bool × zH)) (r24 : Nat × Nat × Int32 × Int32 × Int32 × Int32 × zH → Option (Bool × zH)) (a0 : Nat) (a1 : Nat) (x2 : Int32) (x3 : Int32) (x5 : Int32) (s0 : Int32) (s1 : Int32) (M : zH) (r : Bool) (M' : zH) (hr9 : ∀ (a0 : Nat) (a1 : Nat) (x2 : Int32) (x3 : Int32) (M : zH), r9 (a0, a1, x2, x3, M) = some (r, M') → zG E Y_Pa_findFitting (some (.int (bI r)), S, M') 9 [(0, .ref a0), (1, .ref a1), (2, .int x2), (3, .int x3)] [] S M 0 0) (hr24 : ∀ (a0 : Nat) (a1 : Nat) (x2 : Int32) (x3 : Int32) (x4 : Int32) (x5 : Int32) (M : zH), r24 (a0, a1, x2, x3, x4, x5, M) = some (r, M') → zG E Y_Pa_findFitting (some (.int (bI r)), S, M') 24 [(0, .ref a0), (1, .ref a1), (2, .int x2), (3, .int x3), (4, .int x4), (5, .int x5)] [] S M 0 0) (h : F_Pa_findFitting_b56 n E S r9 r24 a0 a1 x2 x3 x5 s0 s1 M = some (r, M')) : zG E Y_Pa_findFitting (some (.int (bI r)), S, M') 56 [(0, .ref a0), (1, .ref a1), (2, .int x2), (3, .int x3), (5, .int x5)] [.int s0, .int s1] S M 0 0 := by
  unfold F_Pa_findFitting_b56 at h
  refine zi_ior d_Pa_findFitting_56 ?_
  refine zi_istore [(4, .int (s1 ||| s0)), (0, .ref a0), (1, .ref a1), (2, .int x2), (3, .int x3), (5, .int x5)] d_Pa_findFitting_57 (by decide) rfl ?_
  refine zi_iinc 5 (x5 + 1) [(5, .int (x5 + 1)), (4, .int (s1 ||| s0)), (0, .ref a0), (1, .ref a1), (2, .int x2), (3, .int x3)] d_Pa_findFitting_59 rfl rfl (by decide) rfl ?_
  refine zi_goto (tgt := 24) d_Pa_findFitting_62 rfl ?_
  refine zi_lo [(0, .ref a0), (1, .ref a1), (2, .int x2), (3, .int x3), (4, .int (s1 ||| s0)), (5, .int (x5 + 1))] [2, 3, 4, 5, 1, 0] rfl ?_
  exact hr24 a0 a1 x2 x3 (s1 ||| s0) (x5 + 1) M h
theorem K_Pa_findFitting_b84 (n : Nat) (E : zE) (S : zS) (r9 : Nat × Nat × Int32 × Int32 × zH → Option (Bool × zH)) (a0 : Nat) (a1 : Nat) (x3 : Int32) (s0 : Int32) (s1 : Int32) (M : zH) (r : Bool) (M' : zH) (hr9 : ∀ (a0 : Nat) (a1 : Nat) (x2 : Int32) (x3 : Int32) (M : zH), r9 (a0, a1, x2, x3, M) = some (r, M') → zG E Y_Pa_findFitting (some (.int (bI r)), S, M') 9 [(0, .ref a0), (1, .ref a1), (2, .int x2), (3, .int x3)] [] S M 0 0) (h : F_Pa_findFitting_b84 n E S r9 a0 a1 x3 s0 s1 M = some (r, M')) : zG E Y_Pa_findFitting (some (.int (bI r)), S, M') 84 [(0, .ref a0), (1, .ref a1), (3, .int x3)] [.int s0, .int s1] S M 0 0 := by
  unfold F_Pa_findFitting_b84 at h
  refine zi_ior d_Pa_findFitting_84 ?_
  refine zi_istore_n [(2, .int (s1 ||| s0)), (0, .ref a0), (1, .ref a1), (3, .int x3)] d_Pa_findFitting_85 (by decide) rfl ?_
  refine zi_iinc 3 (x3 + 1) [(3, .int (x3 + 1)), (2, .int (s1 ||| s0)), (0, .ref a0), (1, .ref a1)] d_Pa_findFitting_86 rfl rfl (by decide) rfl ?_
  refine zi_goto (tgt := 9) d_Pa_findFitting_89 rfl ?_
  refine zi_lo [(0, .ref a0), (1, .ref a1), (2, .int (s1 ||| s0)), (3, .int (x3 + 1))] [2, 3, 1, 0] rfl ?_
  exact hr9 a0 a1 (s1 ||| s0) (x3 + 1) M h
theorem K_Pa_findFitting_L24 (n : Nat) (E : zE) (S : zS) (r9 : Nat × Nat × Int32 × Int32 × zH → Option (Bool × zH)) (r24 : Nat × Nat × Int32 × Int32 × Int32 × Int32 × zH → Option (Bool × zH)) (a0 : Nat) (a1 : Nat) (x2 : Int32) (x3 : Int32) (x4 : Int32) (x5 : Int32) (M : zH) (r : Bool) (M' : zH) (hr9 : ∀ (a0 : Nat) (a1 : Nat) (x2 : Int32) (x3 : Int32) (M : zH), r9 (a0, a1, x2, x3, M) = some (r, M') → zG E Y_Pa_findFitting (some (.int (bI r)), S, M') 9 [(0, .ref a0), (1, .ref a1), (2, .int x2), (3, .int x3)] [] S M 0 0) (hr24 : ∀ (a0 : Nat) (a1 : Nat) (x2 : Int32) (x3 : Int32) (x4 : Int32) (x5 : Int32) (M : zH), r24 (a0, a1, x2, x3, x4, x5, M) = some (r, M') → zG E Y_Pa_findFitting (some (.int (bI r)), S, M') 24 [(0, .ref a0), (1, .ref a1), (2, .int x2), (3, .int x3), (4, .int x4), (5, .int x5)] [] S M 0 0) (h : F_Pa_findFitting_L24 n E S r9 r24 a0 a1 x2 x3 x4 x5 M = some (r, M')) : zG E Y_Pa_findFitting (some (.int (bI r)), S, M') 24 [(0, .ref a0), (1, .ref a1), (2, .int x2), (3, .int x3), (4, .int x4), (5, .int x5)] [] S M 0 0 := by
  unfold F_Pa_findFitting_L24 at h
  refine zi_iload 5 d_Pa_findFitting_24 rfl ?_
  refine zi_bipush 8 d_Pa_findFitting_26 rfl ?_
  refine zi_icmp_ge (tgt := 65) d_Pa_findFitting_28 rfl (fun c_1 => ?_) (fun c_1 => ?_)
  · rw [if_pos c_1] at h
    refine zi_aload_n 0 d_Pa_findFitting_65 rfl ?_
    obtain ⟨b_2, eb_2, h⟩ := zbind h
    refine zo_getR 69 zkd_4 5 d_Pa_findFitting_66 eb_2 rfl tw_303 rfl ?_
    refine zi_iload_n 3 d_Pa_findFitting_69 rfl ?_
    refine zi_iload 4 d_Pa_findFitting_70 rfl ?_
    obtain ⟨m_3, em_3, h⟩ := zbind h
    refine zo_iast 73 d_Pa_findFitting_72 em_3 rfl ?_
    refine zi_iload_n 2 d_Pa_findFitting_73 rfl ?_
    refine zi_iload 4 d_Pa_findFitting_74 rfl ?_
    refine zi_if_eq (tgt := 83) d_Pa_findFitting_76 rfl (fun c_4 => ?_) (fun c_4 => ?_)
    · rw [if_pos c_4] at h
      refine zi_iconst 0 d_Pa_findFitting_83 rfl ?_
      refine zi_lo [(0, .ref a0), (1, .ref a1), (3, .int x3)] [0, 1, 3] rfl ?_
      exact K_Pa_findFitting_b84 n E S r9 a0 a1 x3 0 x2 m_3 r M' hr9 h
    · rw [if_neg c_4] at h
      refine zi_iconst 1 d_Pa_findFitting_79 rfl ?_
      refine zi_goto (tgt := 84) d_Pa_findFitting_80 rfl ?_
      refine zi_lo [(0, .ref a0), (1, .ref a1), (3, .int x3)] [0, 1, 3] rfl ?_
      exact K_Pa_findFitting_b84 n E S r9 a0 a1 x3 1 x2 m_3 r M' hr9 h
  · rw [if_neg c_1] at h
    refine zi_iload 4 d_Pa_findFitting_31 rfl ?_
    refine zi_aload_n 0 d_Pa_findFitting_33 rfl ?_
    refine zi_aload_n 1 d_Pa_findFitting_34 rfl ?_
    refine zi_iload_n 3 d_Pa_findFitting_35 rfl ?_
    refine zi_bipush 8 d_Pa_findFitting_36 rfl ?_
    refine zi_imul d_Pa_findFitting_38 ?_
    refine zi_iload 5 d_Pa_findFitting_39 rfl ?_
    refine zi_iadd d_Pa_findFitting_41 ?_
    obtain ⟨u_5, eu_5, h⟩ := zbind h
    obtain ⟨q_6, eq_6, h⟩ := zbind h
    refine zo_virt (k' := 0) (n' := 0) 45 [.ref a1, .int ((x3 * 8) + x5)] [.int x4] [.int (bI q_6.1), .int x4] zkd_4 (zck_s eu_5) (C_Pa_fitsSeen n E S a0 a1 ((x3 * 8) + x5) M q_6.1 q_6.2 eq_6) d_Pa_findFitting_42 tw_1046 tw_1043 tw_1045 ts_29 tw_12 dd_Pa_fitsSeen ⟨Nat.le_of_ble_eq_true rfl, Nat.le_of_ble_eq_true rfl, Nat.le_of_ble_eq_true rfl, Nat.le_of_ble_eq_true rfl⟩ (Nat.le_of_ble_eq_true rfl) rfl rfl rfl rfl ?_
    refine zo_ifeqB d_Pa_findFitting_45 rfl 48 rfl (fun c_7 => ?_) (fun c_7 => ?_)
    · rw [if_neg c_7] at h
      refine zi_iconst 0 d_Pa_findFitting_55 rfl ?_
      refine zi_lo [(0, .ref a0), (1, .ref a1), (2, .int x2), (3, .int x3), (5, .int x5)] [0, 1, 2, 3, 5] rfl ?_
      exact K_Pa_findFitting_b56 n E S r9 r24 a0 a1 x2 x3 x5 0 x4 q_6.2 r M' hr9 hr24 h
    · rw [if_pos c_7] at h
      refine zi_iconst 1 d_Pa_findFitting_48 rfl ?_
      refine zi_iload 5 d_Pa_findFitting_49 rfl ?_
      refine zi_ishl d_Pa_findFitting_51 ?_
      refine zi_goto (tgt := 56) d_Pa_findFitting_52 rfl ?_
      refine zi_lo [(0, .ref a0), (1, .ref a1), (2, .int x2), (3, .int x3), (5, .int x5)] [0, 1, 2, 3, 5] rfl ?_
      exact K_Pa_findFitting_b56 n E S r9 r24 a0 a1 x2 x3 x5 ((1 : Int32) <<< (x5 &&& (31 : Int32))) x4 q_6.2 r M' hr9 hr24 h
theorem K_Pa_findFitting_b24 (n : Nat) (E : zE) (S : zS) (r9 : Nat × Nat × Int32 × Int32 × zH → Option (Bool × zH)) (a0 : Nat) (a1 : Nat) (x2 : Int32) (x3 : Int32) (x4 : Int32) (x5 : Int32) (M : zH) (r : Bool) (M' : zH) (hr9 : ∀ (a0 : Nat) (a1 : Nat) (x2 : Int32) (x3 : Int32) (M : zH), r9 (a0, a1, x2, x3, M) = some (r, M') → zG E Y_Pa_findFitting (some (.int (bI r)), S, M') 9 [(0, .ref a0), (1, .ref a1), (2, .int x2), (3, .int x3)] [] S M 0 0) (h : F_Pa_findFitting_b24 n E S r9 (a0, a1, x2, x3, x4, x5, M) = some (r, M')) : zG E Y_Pa_findFitting (some (.int (bI r)), S, M') 24 [(0, .ref a0), (1, .ref a1), (2, .int x2), (3, .int x3), (4, .int x4), (5, .int x5)] [] S M 0 0 := by
  have key : ∀ (k : Nat) (a0 : Nat) (a1 : Nat) (x2 : Int32) (x3 : Int32) (x4 : Int32) (x5 : Int32) (M : zH), zfix (fun r24 s => F_Pa_findFitting_L24 n E S r9 r24 s.1 s.2.1 s.2.2.1 s.2.2.2.1 s.2.2.2.2.1 s.2.2.2.2.2.1 s.2.2.2.2.2.2) k (a0, a1, x2, x3, x4, x5, M) = some (r, M') → zG E Y_Pa_findFitting (some (.int (bI r)), S, M') 24 [(0, .ref a0), (1, .ref a1), (2, .int x2), (3, .int x3), (4, .int x4), (5, .int x5)] [] S M 0 0 := by
    intro k
    induction k with
    | zero => intro a0 a1 x2 x3 x4 x5 M h; cases h
    | succ k ih => intro a0 a1 x2 x3 x4 x5 M h; exact K_Pa_findFitting_L24 n E S r9 _ a0 a1 x2 x3 x4 x5 M r M' hr9 (fun a0 a1 x2 x3 x4 x5 M h => ih a0 a1 x2 x3 x4 x5 M h) h
  exact key n a0 a1 x2 x3 x4 x5 M h
theorem K_Pa_findFitting_L9 (n : Nat) (E : zE) (S : zS) (r9 : Nat × Nat × Int32 × Int32 × zH → Option (Bool × zH)) (a0 : Nat) (a1 : Nat) (x2 : Int32) (x3 : Int32) (M : zH) (r : Bool) (M' : zH) (hr9 : ∀ (a0 : Nat) (a1 : Nat) (x2 : Int32) (x3 : Int32) (M : zH), r9 (a0, a1, x2, x3, M) = some (r, M') → zG E Y_Pa_findFitting (some (.int (bI r)), S, M') 9 [(0, .ref a0), (1, .ref a1), (2, .int x2), (3, .int x3)] [] S M 0 0) (h : F_Pa_findFitting_L9 n E S r9 a0 a1 x2 x3 M = some (r, M')) : zG E Y_Pa_findFitting (some (.int (bI r)), S, M') 9 [(0, .ref a0), (1, .ref a1), (2, .int x2), (3, .int x3)] [] S M 0 0 := by
  unfold F_Pa_findFitting_L9 at h
  refine zi_iload_n 3 d_Pa_findFitting_9 rfl ?_
  refine zi_aload_n 0 d_Pa_findFitting_10 rfl ?_
  obtain ⟨b_8, eb_8, h⟩ := zbind h
  refine zo_getR 14 zkd_4 5 d_Pa_findFitting_11 eb_8 rfl tw_303 rfl ?_
  obtain ⟨v_9, ev_9, h⟩ := zbind h
  refine zo_alen 15 d_Pa_findFitting_14 ev_9 (by decide) rfl ?_
  refine zi_icmp_ge (tgt := 92) d_Pa_findFitting_15 rfl (fun c_10 => ?_) (fun c_10 => ?_)
  · rw [if_pos c_10] at h
    refine zi_iload_n 2 d_Pa_findFitting_92 rfl ?_
    obtain ⟨z_11, ez_11, h⟩ := zbind h
    cases h
    exact zo_retB d_Pa_findFitting_93 (Nat.le_of_ble_eq_true rfl) (Nat.le_of_ble_eq_true rfl) (zbl_s ez_11)
  · rw [if_neg c_10] at h
    refine zi_iconst 0 d_Pa_findFitting_18 rfl ?_
    refine zi_istore [(4, .int 0), (0, .ref a0), (1, .ref a1), (2, .int x2), (3, .int x3)] d_Pa_findFitting_19 (by decide) rfl ?_
    refine zi_iconst 0 d_Pa_findFitting_21 rfl ?_
    refine zi_istore [(5, .int 0), (4, .int 0), (0, .ref a0), (1, .ref a1), (2, .int x2), (3, .int x3)] d_Pa_findFitting_22 (by decide) rfl ?_
    refine zi_lo [(0, .ref a0), (1, .ref a1), (2, .int x2), (3, .int x3), (4, .int 0), (5, .int 0)] [2, 3, 4, 5, 1, 0] rfl ?_
    exact K_Pa_findFitting_b24 n E S r9 a0 a1 x2 x3 0 0 M r M' hr9 h
theorem K_Pa_findFitting_b9 (n : Nat) (E : zE) (S : zS) (a0 : Nat) (a1 : Nat) (x2 : Int32) (x3 : Int32) (M : zH) (r : Bool) (M' : zH)  (h : F_Pa_findFitting_b9 n E S (a0, a1, x2, x3, M) = some (r, M')) : zG E Y_Pa_findFitting (some (.int (bI r)), S, M') 9 [(0, .ref a0), (1, .ref a1), (2, .int x2), (3, .int x3)] [] S M 0 0 := by
  have key : ∀ (k : Nat) (a0 : Nat) (a1 : Nat) (x2 : Int32) (x3 : Int32) (M : zH), zfix (fun r9 s => F_Pa_findFitting_L9 n E S r9 s.1 s.2.1 s.2.2.1 s.2.2.2.1 s.2.2.2.2) k (a0, a1, x2, x3, M) = some (r, M') → zG E Y_Pa_findFitting (some (.int (bI r)), S, M') 9 [(0, .ref a0), (1, .ref a1), (2, .int x2), (3, .int x3)] [] S M 0 0 := by
    intro k
    induction k with
    | zero => intro a0 a1 x2 x3 M h; cases h
    | succ k ih => intro a0 a1 x2 x3 M h; exact K_Pa_findFitting_L9 n E S _ a0 a1 x2 x3 M r M'  (fun a0 a1 x2 x3 M h => ih a0 a1 x2 x3 M h) h
  exact key n a0 a1 x2 x3 M h
theorem K_Pa_findFitting (n : Nat) (E : zE) (S : zS) (a0 : Nat) (a1 : Nat) (M : zH) (r : Bool) (M' : zH)  (h : F_Pa_findFitting n E S a0 a1 M = some (r, M')) : zG E Y_Pa_findFitting (some (.int (bI r)), S, M') 0 [(0, .ref a0), (1, .ref a1)] [] S M 0 0 := by
  unfold F_Pa_findFitting at h
  refine zi_aload_n 0 d_Pa_findFitting_0 rfl ?_
  refine zi_aload_n 1 d_Pa_findFitting_1 rfl ?_
  obtain ⟨u_12, eu_12, h⟩ := zbind h
  obtain ⟨q_13, eq_13, h⟩ := zbind h
  refine zo_virt (k' := 0) (n' := 0) 5 [.ref a1] [] [] zkd_4 (zck_s eu_12) (C_Pa_findShares n E S a0 a1 M q_13 eq_13) d_Pa_findFitting_2 tw_1037 tw_1034 tw_1036 ts_28 tw_12 dd_Pa_findShares ⟨Nat.le_of_ble_eq_true rfl, Nat.le_of_ble_eq_true rfl, Nat.le_of_ble_eq_true rfl, Nat.le_of_ble_eq_true rfl⟩ (Nat.le_of_ble_eq_true rfl) rfl rfl rfl rfl ?_
  refine zi_iconst 0 d_Pa_findFitting_5 rfl ?_
  refine zi_istore_n [(2, .int 0), (0, .ref a0), (1, .ref a1)] d_Pa_findFitting_6 (by decide) rfl ?_
  refine zi_iconst 0 d_Pa_findFitting_7 rfl ?_
  refine zi_istore_n [(3, .int 0), (2, .int 0), (0, .ref a0), (1, .ref a1)] d_Pa_findFitting_8 (by decide) rfl ?_
  refine zi_lo [(0, .ref a0), (1, .ref a1), (2, .int 0), (3, .int 0)] [2, 3, 1, 0] rfl ?_
  exact K_Pa_findFitting_b9 n E S a0 a1 0 0 q_13 r M'  h
theorem C_Pa_findFitting (n : Nat) (E : zE) (S : zS) (a0 : Nat) (a1 : Nat) (M : zH) (r : Bool) (M' : zH) (h : F_Pa_findFitting n E S a0 a1 M = some (r, M')) : zC E Y_Pa_findFitting [.ref a0, .ref a1] S M (some (.int (bI r)), S, M') :=
  zC.of (Or.inl (show plainName "NightColander$Paper" = true by decide)) (Nat.le_of_ble_eq_true rfl) (bI_nar r) (K_Pa_findFitting n E S a0 a1 M r M' h)
theorem d_Pa_mostAlike_0 : decode (yB Y_Pa_mostAlike) 0 = .ok (.aload_n 0, 1) := by decide +kernel
theorem d_Pa_mostAlike_1 : decode (yB Y_Pa_mostAlike) 1 = .ok (.getfield 31, 3) := by decide +kernel
theorem d_Pa_mostAlike_4 : decode (yB Y_Pa_mostAlike) 4 = .ok (.iconst 0, 1) := by decide +kernel
theorem d_Pa_mostAlike_5 : decode (yB Y_Pa_mostAlike) 5 = .ok (.invokestatic 109, 3) := by decide +kernel
theorem d_Pa_mostAlike_8 : decode (yB Y_Pa_mostAlike) 8 = .ok (.iconst 0, 1) := by decide +kernel
theorem d_Pa_mostAlike_9 : decode (yB Y_Pa_mostAlike) 9 = .ok (.istore_n 2, 1) := by decide +kernel
theorem d_Pa_mostAlike_10 : decode (yB Y_Pa_mostAlike) 10 = .ok (.iconst 0, 1) := by decide +kernel
theorem d_Pa_mostAlike_11 : decode (yB Y_Pa_mostAlike) 11 = .ok (.istore_n 3, 1) := by decide +kernel
theorem d_Pa_mostAlike_12 : decode (yB Y_Pa_mostAlike) 12 = .ok (.iload_n 3, 1) := by decide +kernel
theorem d_Pa_mostAlike_13 : decode (yB Y_Pa_mostAlike) 13 = .ok (.aload_n 0, 1) := by decide +kernel
theorem d_Pa_mostAlike_14 : decode (yB Y_Pa_mostAlike) 14 = .ok (.getfield 28, 3) := by decide +kernel
theorem d_Pa_mostAlike_17 : decode (yB Y_Pa_mostAlike) 17 = .ok (.arraylength, 1) := by decide +kernel
theorem d_Pa_mostAlike_18 : decode (yB Y_Pa_mostAlike) 18 = .ok (.if_icmp .ge 113, 3) := by decide +kernel
theorem d_Pa_mostAlike_21 : decode (yB Y_Pa_mostAlike) 21 = .ok (.aload_n 0, 1) := by decide +kernel
theorem d_Pa_mostAlike_22 : decode (yB Y_Pa_mostAlike) 22 = .ok (.getfield 28, 3) := by decide +kernel
theorem d_Pa_mostAlike_25 : decode (yB Y_Pa_mostAlike) 25 = .ok (.iload_n 3, 1) := by decide +kernel
theorem d_Pa_mostAlike_26 : decode (yB Y_Pa_mostAlike) 26 = .ok (.iaload, 1) := by decide +kernel
theorem d_Pa_mostAlike_27 : decode (yB Y_Pa_mostAlike) 27 = .ok (.ifCond .ne 6, 3) := by decide +kernel
theorem d_Pa_mostAlike_30 : decode (yB Y_Pa_mostAlike) 30 = .ok (.goto 95, 3) := by decide +kernel
theorem d_Pa_mostAlike_33 : decode (yB Y_Pa_mostAlike) 33 = .ok (.aload_n 0, 1) := by decide +kernel
theorem d_Pa_mostAlike_34 : decode (yB Y_Pa_mostAlike) 34 = .ok (.iload_n 3, 1) := by decide +kernel
theorem d_Pa_mostAlike_35 : decode (yB Y_Pa_mostAlike) 35 = .ok (.iload_n 1, 1) := by decide +kernel
theorem d_Pa_mostAlike_36 : decode (yB Y_Pa_mostAlike) 36 = .ok (.invokevirtual 119, 3) := by decide +kernel
theorem d_Pa_mostAlike_39 : decode (yB Y_Pa_mostAlike) 39 = .ok (.istore 4, 2) := by decide +kernel
theorem d_Pa_mostAlike_41 : decode (yB Y_Pa_mostAlike) 41 = .ok (.iconst 0, 1) := by decide +kernel
theorem d_Pa_mostAlike_42 : decode (yB Y_Pa_mostAlike) 42 = .ok (.istore 5, 2) := by decide +kernel
theorem d_Pa_mostAlike_44 : decode (yB Y_Pa_mostAlike) 44 = .ok (.iload 5, 2) := by decide +kernel
theorem d_Pa_mostAlike_46 : decode (yB Y_Pa_mostAlike) 46 = .ok (.bipush 8, 2) := by decide +kernel
theorem d_Pa_mostAlike_48 : decode (yB Y_Pa_mostAlike) 48 = .ok (.if_icmp .ge 77, 3) := by decide +kernel
theorem d_Pa_mostAlike_51 : decode (yB Y_Pa_mostAlike) 51 = .ok (.iload 4, 2) := by decide +kernel
theorem d_Pa_mostAlike_53 : decode (yB Y_Pa_mostAlike) 53 = .ok (.aload_n 0, 1) := by decide +kernel
theorem d_Pa_mostAlike_54 : decode (yB Y_Pa_mostAlike) 54 = .ok (.getfield 18, 3) := by decide +kernel
theorem d_Pa_mostAlike_57 : decode (yB Y_Pa_mostAlike) 57 = .ok (.sipush 192, 3) := by decide +kernel
theorem d_Pa_mostAlike_60 : decode (yB Y_Pa_mostAlike) 60 = .ok (.iload 5, 2) := by decide +kernel
theorem d_Pa_mostAlike_62 : decode (yB Y_Pa_mostAlike) 62 = .ok (.bipush 8, 2) := by decide +kernel
theorem d_Pa_mostAlike_64 : decode (yB Y_Pa_mostAlike) 64 = .ok (.imul, 1) := by decide +kernel
theorem d_Pa_mostAlike_65 : decode (yB Y_Pa_mostAlike) 65 = .ok (.iadd, 1) := by decide +kernel
theorem d_Pa_mostAlike_66 : decode (yB Y_Pa_mostAlike) 66 = .ok (.iload_n 1, 1) := by decide +kernel
theorem d_Pa_mostAlike_67 : decode (yB Y_Pa_mostAlike) 67 = .ok (.iadd, 1) := by decide +kernel
theorem d_Pa_mostAlike_68 : decode (yB Y_Pa_mostAlike) 68 = .ok (.iaload, 1) := by decide +kernel
theorem d_Pa_mostAlike_69 : decode (yB Y_Pa_mostAlike) 69 = .ok (.iadd, 1) := by decide +kernel
theorem d_Pa_mostAlike_70 : decode (yB Y_Pa_mostAlike) 70 = .ok (.istore 6, 2) := by decide +kernel
theorem d_Pa_mostAlike_72 : decode (yB Y_Pa_mostAlike) 72 = .ok (.aload_n 0, 1) := by decide +kernel
theorem d_Pa_mostAlike_73 : decode (yB Y_Pa_mostAlike) 73 = .ok (.getfield 28, 3) := by decide +kernel
theorem d_Pa_mostAlike_76 : decode (yB Y_Pa_mostAlike) 76 = .ok (.iload_n 3, 1) := by decide +kernel
theorem d_Pa_mostAlike_77 : decode (yB Y_Pa_mostAlike) 77 = .ok (.iaload, 1) := by decide +kernel
theorem d_Pa_mostAlike_78 : decode (yB Y_Pa_mostAlike) 78 = .ok (.iconst 1, 1) := by decide +kernel
theorem d_Pa_mostAlike_79 : decode (yB Y_Pa_mostAlike) 79 = .ok (.iload 5, 2) := by decide +kernel
theorem d_Pa_mostAlike_81 : decode (yB Y_Pa_mostAlike) 81 = .ok (.ishl, 1) := by decide +kernel
theorem d_Pa_mostAlike_82 : decode (yB Y_Pa_mostAlike) 82 = .ok (.iand, 1) := by decide +kernel
theorem d_Pa_mostAlike_83 : decode (yB Y_Pa_mostAlike) 83 = .ok (.ifCond .eq 36, 3) := by decide +kernel
theorem d_Pa_mostAlike_86 : decode (yB Y_Pa_mostAlike) 86 = .ok (.iload 6, 2) := by decide +kernel
theorem d_Pa_mostAlike_88 : decode (yB Y_Pa_mostAlike) 88 = .ok (.aload_n 0, 1) := by decide +kernel
theorem d_Pa_mostAlike_89 : decode (yB Y_Pa_mostAlike) 89 = .ok (.getfield 31, 3) := by decide +kernel
theorem d_Pa_mostAlike_92 : decode (yB Y_Pa_mostAlike) 92 = .ok (.arraylength, 1) := by decide +kernel
theorem d_Pa_mostAlike_93 : decode (yB Y_Pa_mostAlike) 93 = .ok (.if_icmp .ge 26, 3) := by decide +kernel
theorem d_Pa_mostAlike_96 : decode (yB Y_Pa_mostAlike) 96 = .ok (.aload_n 0, 1) := by decide +kernel
theorem d_Pa_mostAlike_97 : decode (yB Y_Pa_mostAlike) 97 = .ok (.getfield 31, 3) := by decide +kernel
theorem d_Pa_mostAlike_100 : decode (yB Y_Pa_mostAlike) 100 = .ok (.iload 6, 2) := by decide +kernel
theorem d_Pa_mostAlike_102 : decode (yB Y_Pa_mostAlike) 102 = .ok (.dup2, 1) := by decide +kernel
theorem d_Pa_mostAlike_103 : decode (yB Y_Pa_mostAlike) 103 = .ok (.iaload, 1) := by decide +kernel
theorem d_Pa_mostAlike_104 : decode (yB Y_Pa_mostAlike) 104 = .ok (.iconst 1, 1) := by decide +kernel
theorem d_Pa_mostAlike_105 : decode (yB Y_Pa_mostAlike) 105 = .ok (.iadd, 1) := by decide +kernel
theorem d_Pa_mostAlike_106 : decode (yB Y_Pa_mostAlike) 106 = .ok (.iastore, 1) := by decide +kernel
theorem d_Pa_mostAlike_107 : decode (yB Y_Pa_mostAlike) 107 = .ok (.iload_n 2, 1) := by decide +kernel
theorem d_Pa_mostAlike_108 : decode (yB Y_Pa_mostAlike) 108 = .ok (.aload_n 0, 1) := by decide +kernel
theorem d_Pa_mostAlike_109 : decode (yB Y_Pa_mostAlike) 109 = .ok (.getfield 31, 3) := by decide +kernel
theorem d_Pa_mostAlike_112 : decode (yB Y_Pa_mostAlike) 112 = .ok (.iload 6, 2) := by decide +kernel
theorem d_Pa_mostAlike_114 : decode (yB Y_Pa_mostAlike) 114 = .ok (.iaload, 1) := by decide +kernel
theorem d_Pa_mostAlike_115 : decode (yB Y_Pa_mostAlike) 115 = .ok (.invokestatic 67, 3) := by decide +kernel
theorem d_Pa_mostAlike_118 : decode (yB Y_Pa_mostAlike) 118 = .ok (.istore_n 2, 1) := by decide +kernel
theorem d_Pa_mostAlike_119 : decode (yB Y_Pa_mostAlike) 119 = .ok (.iinc 5 1, 3) := by decide +kernel
theorem d_Pa_mostAlike_122 : decode (yB Y_Pa_mostAlike) 122 = .ok (.goto (-78), 3) := by decide +kernel
theorem d_Pa_mostAlike_125 : decode (yB Y_Pa_mostAlike) 125 = .ok (.iinc 3 1, 3) := by decide +kernel
theorem d_Pa_mostAlike_128 : decode (yB Y_Pa_mostAlike) 128 = .ok (.goto (-116), 3) := by decide +kernel
theorem d_Pa_mostAlike_131 : decode (yB Y_Pa_mostAlike) 131 = .ok (.iload_n 2, 1) := by decide +kernel
theorem d_Pa_mostAlike_132 : decode (yB Y_Pa_mostAlike) 132 = .ok (.ireturn, 1) := by decide +kernel
def F_Pa_mostAlike_b119 (n : Nat) (E : zE) (S : zS) (r12 : Nat × Int32 × Int32 × Int32 × zH → Option (Int32 × zH)) (r44 : Nat × Int32 × Int32 × Int32 × Int32 × Int32 × zH → Option (Int32 × zH)) (a0 : Nat) (x1 : Int32) (x2 : Int32) (x3 : Int32) (x4 : Int32) (x5 : Int32) (M : zH) : Option (Int32 × zH) :=
  r44 (a0, x1, x2, x3, x4, x5 + 1, M)
def F_Pa_mostAlike_b125 (n : Nat) (E : zE) (S : zS) (r12 : Nat × Int32 × Int32 × Int32 × zH → Option (Int32 × zH)) (a0 : Nat) (x1 : Int32) (x2 : Int32) (x3 : Int32) (M : zH) : Option (Int32 × zH) :=
  r12 (a0, x1, x2, x3 + 1, M)
def F_Pa_mostAlike_L44 (n : Nat) (E : zE) (S : zS) (r12 : Nat × Int32 × Int32 × Int32 × zH → Option (Int32 × zH)) (r44 : Nat × Int32 × Int32 × Int32 × Int32 × Int32 × zH → Option (Int32 × zH)) (a0 : Nat) (x1 : Int32) (x2 : Int32) (x3 : Int32) (x4 : Int32) (x5 : Int32) (M : zH) : Option (Int32 × zH) :=
  if 8 ≤ x5 then
    F_Pa_mostAlike_b125 n E S r12 a0 x1 x2 x3 M
  else
    (zgR S a0 4 2).bind fun b_2 =>
    (zldI S M b_2 ((192 + (x5 * 8)) + x1)).bind fun v_3 =>
    (zgR S a0 4 5).bind fun b_4 =>
    (zldI S M b_4 x3).bind fun v_5 =>
    if (v_5 &&& ((1 : Int32) <<< (x5 &&& (31 : Int32)))) = 0 then
      F_Pa_mostAlike_b119 n E S r12 r44 a0 x1 x2 x3 x4 x5 M
    else
      (zgR S a0 4 6).bind fun b_7 =>
      (zlen S 12 b_7).bind fun v_8 =>
      if v_8 ≤ (x4 + v_3) then
        F_Pa_mostAlike_b119 n E S r12 r44 a0 x1 x2 x3 x4 x5 M
      else
        (zldI S M b_7 (x4 + v_3)).bind fun v_10 =>
        (zstI S M b_7 (x4 + v_3) (v_10 + 1)).bind fun m_11 =>
        (zldI S m_11 b_7 (x4 + v_3)).bind fun v_12 =>
        (F_Jm_max n E S x2 v_12 m_11).bind fun q_13 =>
        F_Pa_mostAlike_b119 n E S r12 r44 a0 x1 q_13.1 x3 x4 x5 q_13.2
def F_Pa_mostAlike_b44 (n : Nat) (E : zE) (S : zS) (r12 : Nat × Int32 × Int32 × Int32 × zH → Option (Int32 × zH)) : Nat × Int32 × Int32 × Int32 × Int32 × Int32 × zH → Option (Int32 × zH) := zfix (fun r44 s => F_Pa_mostAlike_L44 n E S r12 r44 s.1 s.2.1 s.2.2.1 s.2.2.2.1 s.2.2.2.2.1 s.2.2.2.2.2.1 s.2.2.2.2.2.2) n
def F_Pa_mostAlike_L12 (n : Nat) (E : zE) (S : zS) (r12 : Nat × Int32 × Int32 × Int32 × zH → Option (Int32 × zH)) (a0 : Nat) (x1 : Int32) (x2 : Int32) (x3 : Int32) (M : zH) : Option (Int32 × zH) :=
  (zgR S a0 4 5).bind fun b_14 =>
  (zlen S 12 b_14).bind fun v_15 =>
  if v_15 ≤ x3 then
    some (x2, M)
  else
    (zldI S M b_14 x3).bind fun v_17 =>
    if v_17 = 0 then
      F_Pa_mostAlike_b125 n E S r12 a0 x1 x2 x3 M
    else
      (F_Pa_threadsByThree n E S a0 x3 x1 M).bind fun q_19 =>
      F_Pa_mostAlike_b44 n E S r12 (a0, x1, x2, x3, q_19.1, 0, q_19.2)
def F_Pa_mostAlike_b12 (n : Nat) (E : zE) (S : zS) : Nat × Int32 × Int32 × Int32 × zH → Option (Int32 × zH) := zfix (fun r12 s => F_Pa_mostAlike_L12 n E S r12 s.1 s.2.1 s.2.2.1 s.2.2.2.1 s.2.2.2.2) n
def F_Pa_mostAlike (n : Nat) (E : zE) (S : zS) (a0 : Nat) (x1 : Int32) (M : zH) : Option (Int32 × zH) :=
  (zgR S a0 4 6).bind fun b_20 =>
  (F_Ja_fillI n E S b_20 0 M).bind fun q_21 =>
  F_Pa_mostAlike_b12 n E S (a0, x1, 0, 0, q_21)
theorem K_Pa_mostAlike_b119 (n : Nat) (E : zE) (S : zS) (r12 : Nat × Int32 × Int32 × Int32 × zH → Option (Int32 × zH)) (r44 : Nat × Int32 × Int32 × Int32 × Int32 × Int32 × zH → Option (Int32 × zH)) (a0 : Nat) (x1 : Int32) (x2 : Int32) (x3 : Int32) (x4 : Int32) (x5 : Int32) (M : zH) (r : Int32) (M' : zH) (hr12 : ∀ (a0 : Nat) (x1 : Int32) (x2 : Int32) (x3 : Int32) (M : zH), r12 (a0, x1, x2, x3, M) = some (r, M') → zG E Y_Pa_mostAlike (some (.int r), S, M') 12 [(0, .ref a0), (1, .int x1), (2, .int x2), (3, .int x3)] [] S M 0 0) (hr44 : ∀ (a0 : Nat) (x1 : Int32) (x2 : Int32) (x3 : Int32) (x4 : Int32) (x5 : Int32) (M : zH), r44 (a0, x1, x2, x3, x4, x5, M) = some (r, M') → zG E Y_Pa_mostAlike (some (.int r), S, M') 44 [(0, .ref a0), (1, .int x1), (2, .int x2), (3, .int x3), (4, .int x4), (5, .int x5)] [] S M 0 0) (h : F_Pa_mostAlike_b119 n E S r12 r44 a0 x1 x2 x3 x4 x5 M = some (r, M')) : zG E Y_Pa_mostAlike (some (.int r), S, M') 119 [(0, .ref a0), (1, .int x1), (2, .int x2), (3, .int x3), (4, .int x4), (5, .int x5)] [] S M 0 0 := by
  unfold F_Pa_mostAlike_b119 at h
  refine zi_iinc 5 (x5 + 1) [(5, .int (x5 + 1)), (0, .ref a0), (1, .int x1), (2, .int x2), (3, .int x3), (4, .int x4)] d_Pa_mostAlike_119 rfl rfl (by decide) rfl ?_
  refine zi_goto (tgt := 44) d_Pa_mostAlike_122 rfl ?_
  refine zi_lo [(0, .ref a0), (1, .int x1), (2, .int x2), (3, .int x3), (4, .int x4), (5, .int (x5 + 1))] [1, 2, 3, 4, 5, 0] rfl ?_
  exact hr44 a0 x1 x2 x3 x4 (x5 + 1) M h
theorem K_Pa_mostAlike_b125 (n : Nat) (E : zE) (S : zS) (r12 : Nat × Int32 × Int32 × Int32 × zH → Option (Int32 × zH)) (a0 : Nat) (x1 : Int32) (x2 : Int32) (x3 : Int32) (M : zH) (r : Int32) (M' : zH) (hr12 : ∀ (a0 : Nat) (x1 : Int32) (x2 : Int32) (x3 : Int32) (M : zH), r12 (a0, x1, x2, x3, M) = some (r, M') → zG E Y_Pa_mostAlike (some (.int r), S, M') 12 [(0, .ref a0), (1, .int x1), (2, .int x2), (3, .int x3)] [] S M 0 0) (h : F_Pa_mostAlike_b125 n E S r12 a0 x1 x2 x3 M = some (r, M')) : zG E Y_Pa_mostAlike (some (.int r), S, M') 125 [(0, .ref a0), (1, .int x1), (2, .int x2), (3, .int x3)] [] S M 0 0 := by
  unfold F_Pa_mostAlike_b125 at h
  refine zi_iinc 3 (x3 + 1) [(3, .int (x3 + 1)), (0, .ref a0), (1, .int x1), (2, .int x2)] d_Pa_mostAlike_125 rfl rfl (by decide) rfl ?_
  refine zi_goto (tgt := 12) d_Pa_mostAlike_128 rfl ?_
  refine zi_lo [(0, .ref a0), (1, .int x1), (2, .int x2), (3, .int (x3 + 1))] [1, 2, 3, 0] rfl ?_
  exact hr12 a0 x1 x2 (x3 + 1) M h
theorem K_Pa_mostAlike_L44 (n : Nat) (E : zE) (S : zS) (r12 : Nat × Int32 × Int32 × Int32 × zH → Option (Int32 × zH)) (r44 : Nat × Int32 × Int32 × Int32 × Int32 × Int32 × zH → Option (Int32 × zH)) (a0 : Nat) (x1 : Int32) (x2 : Int32) (x3 : Int32) (x4 : Int32) (x5 : Int32) (M : zH) (r : Int32) (M' : zH) (hr12 : ∀ (a0 : Nat) (x1 : Int32) (x2 : Int32) (x3 : Int32) (M : zH), r12 (a0, x1, x2, x3, M) = some (r, M') → zG E Y_Pa_mostAlike (some (.int r), S, M') 12 [(0, .ref a0), (1, .int x1), (2, .int x2), (3, .int x3)] [] S M 0 0) (hr44 : ∀ (a0 : Nat) (x1 : Int32) (x2 : Int32) (x3 : Int32) (x4 : Int32) (x5 : Int32) (M : zH), r44 (a0, x1, x2, x3, x4, x5, M) = some (r, M') → zG E Y_Pa_mostAlike (some (.int r), S, M') 44 [(0, .ref a0), (1, .int x1), (2, .int x2), (3, .int x3), (4, .int x4), (5, .int x5)] [] S M 0 0) (h : F_Pa_mostAlike_L44 n E S r12 r44 a0 x1 x2 x3 x4 x5 M = some (r, M')) : zG E Y_Pa_mostAlike (some (.int r), S, M') 44 [(0, .ref a0), (1, .int x1), (2, .int x2), (3, .int x3), (4, .int x4), (5, .int x5)] [] S M 0 0 := by
  unfold F_Pa_mostAlike_L44 at h
  refine zi_iload 5 d_Pa_mostAlike_44 rfl ?_
  refine zi_bipush 8 d_Pa_mostAlike_46 rfl ?_
  refine zi_icmp_ge (tgt := 125) d_Pa_mostAlike_48 rfl (fun c_1 => ?_) (fun c_1 => ?_)
  · rw [if_pos c_1] at h
    refine zi_lo [(0, .ref a0), (1, .int x1), (2, .int x2), (3, .int x3)] [0, 1, 2, 3] rfl ?_
    exact K_Pa_mostAlike_b125 n E S r12 a0 x1 x2 x3 M r M' hr12 h
  · rw [if_neg c_1] at h
    refine zi_iload 4 d_Pa_mostAlike_51 rfl ?_
    refine zi_aload_n 0 d_Pa_mostAlike_53 rfl ?_
    obtain ⟨b_2, eb_2, h⟩ := zbind h
    refine zo_getR 57 zkd_4 2 d_Pa_mostAlike_54 eb_2 rfl tw_300 rfl ?_
    refine zi_sipush 192 d_Pa_mostAlike_57 rfl ?_
    refine zi_iload 5 d_Pa_mostAlike_60 rfl ?_
    refine zi_bipush 8 d_Pa_mostAlike_62 rfl ?_
    refine zi_imul d_Pa_mostAlike_64 ?_
    refine zi_iadd d_Pa_mostAlike_65 ?_
    refine zi_iload_n 1 d_Pa_mostAlike_66 rfl ?_
    refine zi_iadd d_Pa_mostAlike_67 ?_
    obtain ⟨v_3, ev_3, h⟩ := zbind h
    refine zo_iald 69 d_Pa_mostAlike_68 ev_3 rfl ?_
    refine zi_iadd d_Pa_mostAlike_69 ?_
    refine zi_istore [(6, .int (x4 + v_3)), (0, .ref a0), (1, .int x1), (2, .int x2), (3, .int x3), (4, .int x4), (5, .int x5)] d_Pa_mostAlike_70 (by decide) rfl ?_
    refine zi_aload_n 1 d_Pa_mostAlike_72 rfl ?_
    obtain ⟨b_4, eb_4, h⟩ := zbind h
    refine zo_getR 76 zkd_4 5 d_Pa_mostAlike_73 eb_4 rfl tw_303 rfl ?_
    refine zi_iload_n 4 d_Pa_mostAlike_76 rfl ?_
    obtain ⟨v_5, ev_5, h⟩ := zbind h
    refine zo_iald 78 d_Pa_mostAlike_77 ev_5 rfl ?_
    refine zi_iconst 1 d_Pa_mostAlike_78 rfl ?_
    refine zi_iload 6 d_Pa_mostAlike_79 rfl ?_
    refine zi_ishl d_Pa_mostAlike_81 ?_
    refine zi_iand d_Pa_mostAlike_82 ?_
    refine zi_if_eq (tgt := 119) d_Pa_mostAlike_83 rfl (fun c_6 => ?_) (fun c_6 => ?_)
    · rw [if_pos c_6] at h
      refine zi_lo [(0, .ref a0), (1, .int x1), (2, .int x2), (3, .int x3), (4, .int x4), (5, .int x5)] [1, 2, 3, 4, 5, 6] rfl ?_
      exact K_Pa_mostAlike_b119 n E S r12 r44 a0 x1 x2 x3 x4 x5 M r M' hr12 hr44 h
    · rw [if_neg c_6] at h
      refine zi_iload 0 d_Pa_mostAlike_86 rfl ?_
      refine zi_aload_n 1 d_Pa_mostAlike_88 rfl ?_
      obtain ⟨b_7, eb_7, h⟩ := zbind h
      refine zo_getR 92 zkd_4 6 d_Pa_mostAlike_89 eb_7 rfl tw_304 rfl ?_
      obtain ⟨v_8, ev_8, h⟩ := zbind h
      refine zo_alen 93 d_Pa_mostAlike_92 ev_8 (by decide) rfl ?_
      refine zi_icmp_ge (tgt := 119) d_Pa_mostAlike_93 rfl (fun c_9 => ?_) (fun c_9 => ?_)
      · rw [if_pos c_9] at h
        refine zi_lo [(0, .ref a0), (1, .int x1), (2, .int x2), (3, .int x3), (4, .int x4), (5, .int x5)] [1, 2, 3, 4, 5, 6] rfl ?_
        exact K_Pa_mostAlike_b119 n E S r12 r44 a0 x1 x2 x3 x4 x5 M r M' hr12 hr44 h
      · rw [if_neg c_9] at h
        refine zi_aload_n 1 d_Pa_mostAlike_96 rfl ?_
        refine zo_getR 100 zkd_4 6 d_Pa_mostAlike_97 eb_7 rfl tw_304 rfl ?_
        refine zi_iload 0 d_Pa_mostAlike_100 rfl ?_
        refine zi_dup2 d_Pa_mostAlike_102 rfl rfl ?_
        obtain ⟨v_10, ev_10, h⟩ := zbind h
        refine zo_iald 104 d_Pa_mostAlike_103 ev_10 rfl ?_
        refine zi_iconst 1 d_Pa_mostAlike_104 rfl ?_
        refine zi_iadd d_Pa_mostAlike_105 ?_
        obtain ⟨m_11, em_11, h⟩ := zbind h
        refine zo_iast 107 d_Pa_mostAlike_106 em_11 rfl ?_
        refine zi_iload_n 3 d_Pa_mostAlike_107 rfl ?_
        refine zi_aload_n 1 d_Pa_mostAlike_108 rfl ?_
        refine zo_getR 112 zkd_4 6 d_Pa_mostAlike_109 eb_7 rfl tw_304 rfl ?_
        refine zi_iload 0 d_Pa_mostAlike_112 rfl ?_
        obtain ⟨v_12, ev_12, h⟩ := zbind h
        refine zo_iald 115 d_Pa_mostAlike_114 ev_12 rfl ?_
        obtain ⟨q_13, eq_13, h⟩ := zbind h
        refine zo_stat (k' := 0) (n' := 0) 118 [.int x2, .int v_12] [] [.int q_13.1] (C_Jm_max n E S x2 v_12 m_11 q_13.1 q_13.2 eq_13) d_Pa_mostAlike_115 tw_440 tw_1004 tw_439 tw_14 dd_Jm_max ⟨Nat.le_of_ble_eq_true rfl, Nat.le_of_ble_eq_true rfl, Nat.le_of_ble_eq_true rfl, Nat.le_of_ble_eq_true rfl⟩ (Nat.le_of_ble_eq_true rfl) rfl rfl rfl rfl ?_
        refine zi_istore_n [(2, .int q_13.1), (6, .int (x4 + v_3)), (0, .ref a0), (1, .int x1), (3, .int x3), (4, .int x4), (5, .int x5)] d_Pa_mostAlike_118 (by decide) rfl ?_
        refine zi_lo [(0, .ref a0), (1, .int x1), (2, .int q_13.1), (3, .int x3), (4, .int x4), (5, .int x5)] [2, 3, 0, 4, 5, 6] rfl ?_
        exact K_Pa_mostAlike_b119 n E S r12 r44 a0 x1 q_13.1 x3 x4 x5 q_13.2 r M' hr12 hr44 h
theorem K_Pa_mostAlike_b44 (n : Nat) (E : zE) (S : zS) (r12 : Nat × Int32 × Int32 × Int32 × zH → Option (Int32 × zH)) (a0 : Nat) (x1 : Int32) (x2 : Int32) (x3 : Int32) (x4 : Int32) (x5 : Int32) (M : zH) (r : Int32) (M' : zH) (hr12 : ∀ (a0 : Nat) (x1 : Int32) (x2 : Int32) (x3 : Int32) (M : zH), r12 (a0, x1, x2, x3, M) = some (r, M') → zG E Y_Pa_mostAlike (some (.int r), S, M') 12 [(0, .ref a0), (1, .int x1), (2, .int x2), (3, .int x3)] [] S M 0 0) (h : F_Pa_mostAlike_b44 n E S r12 (a0, x1, x2, x3, x4, x5, M) = some (r, M')) : zG E Y_Pa_mostAlike (some (.int r), S, M') 44 [(0, .ref a0), (1, .int x1), (2, .int x2), (3, .int x3), (4, .int x4), (5, .int x5)] [] S M 0 0 := by
  have key : ∀ (k : Nat) (a0 : Nat) (x1 : Int32) (x2 : Int32) (x3 : Int32) (x4 : Int32) (x5 : Int32) (M : zH), zfix (fun r44 s => F_Pa_mostAlike_L44 n E S r12 r44 s.1 s.2.1 s.2.2.1 s.2.2.2.1 s.2.2.2.2.1 s.2.2.2.2.2.1 s.2.2.2.2.2.2) k (a0, x1, x2, x3, x4, x5, M) = some (r, M') → zG E Y_Pa_mostAlike (some (.int r), S, M') 44 [(0, .ref a0), (1, .int x1), (2, .int x2), (3, .int x3), (4, .int x4), (5, .int x5)] [] S M 0 0 := by
    intro k
    induction k with
    | zero => intro a0 x1 x2 x3 x4 x5 M h; cases h
    | succ k ih => intro a0 x1 x2 x3 x4 x5 M h; exact K_Pa_mostAlike_L44 n E S r12 _ a0 x1 x2 x3 x4 x5 M r M' hr12 (fun a0 x1 x2 x3 x4 x5 M h => ih a0 x1 x2 x3 x4 x5 M h) h
  exact key n a0 x1 x2 x3 x4 x5 M h
theorem K_Pa_mostAlike_L12 (n : Nat) (E : zE) (S : zS) (r12 : Nat × Int32 × Int32 × Int32 × zH → Option (Int32 × zH)) (a0 : Nat) (x1 : Int32) (x2 : Int32) (x3 : Int32) (M : zH) (r : Int32) (M' : zH) (hr12 : ∀ (a0 : Nat) (x1 : Int32) (x2 : Int32) (x3 : Int32) (M : zH), r12 (a0, x1, x2, x3, M) = some (r, M') → zG E Y_Pa_mostAlike (some (.int r), S, M') 12 [(0, .ref a0), (1, .int x1), (2, .int x2), (3, .int x3)] [] S M 0 0) (h : F_Pa_mostAlike_L12 n E S r12 a0 x1 x2 x3 M = some (r, M')) : zG E Y_Pa_mostAlike (some (.int r), S, M') 12 [(0, .ref a0), (1, .int x1), (2, .int x2), (3, .int x3)] [] S M 0 0 := by
  unfold F_Pa_mostAlike_L12 at h
  refine zi_iload_n 3 d_Pa_mostAlike_12 rfl ?_
  refine zi_aload_n 0 d_Pa_mostAlike_13 rfl ?_
  obtain ⟨b_14, eb_14, h⟩ := zbind h
  refine zo_getR 17 zkd_4 5 d_Pa_mostAlike_14 eb_14 rfl tw_303 rfl ?_
  obtain ⟨v_15, ev_15, h⟩ := zbind h
  refine zo_alen 18 d_Pa_mostAlike_17 ev_15 (by decide) rfl ?_
  refine zi_icmp_ge (tgt := 131) d_Pa_mostAlike_18 rfl (fun c_16 => ?_) (fun c_16 => ?_)
  · rw [if_pos c_16] at h
    refine zi_iload_n 2 d_Pa_mostAlike_131 rfl ?_
    cases h
    exact zo_ret d_Pa_mostAlike_132 (Nat.le_of_ble_eq_true rfl) (Nat.le_of_ble_eq_true rfl) rfl
  · rw [if_neg c_16] at h
    refine zi_aload_n 0 d_Pa_mostAlike_21 rfl ?_
    refine zo_getR 25 zkd_4 5 d_Pa_mostAlike_22 eb_14 rfl tw_303 rfl ?_
    refine zi_iload_n 3 d_Pa_mostAlike_25 rfl ?_
    obtain ⟨v_17, ev_17, h⟩ := zbind h
    refine zo_iald 27 d_Pa_mostAlike_26 ev_17 rfl ?_
    refine zi_if_ne (tgt := 33) d_Pa_mostAlike_27 rfl (fun c_18 => ?_) (fun c_18 => ?_)
    · rw [if_neg c_18] at h
      refine zi_aload_n 0 d_Pa_mostAlike_33 rfl ?_
      refine zi_iload_n 3 d_Pa_mostAlike_34 rfl ?_
      refine zi_iload_n 1 d_Pa_mostAlike_35 rfl ?_
      obtain ⟨q_19, eq_19, h⟩ := zbind h
      refine zo_virt (k' := 0) (n' := 0) 39 [.int x3, .int x1] [] [.int q_19.1] zkd_4 (zgR_s eb_14).1 (C_Pa_threadsByThree n E S a0 x3 x1 M q_19.1 q_19.2 eq_19) d_Pa_mostAlike_36 tw_1054 tw_1051 tw_1053 ts_31 tw_12 dd_Pa_threadsByThree ⟨Nat.le_of_ble_eq_true rfl, Nat.le_of_ble_eq_true rfl, Nat.le_of_ble_eq_true rfl, Nat.le_of_ble_eq_true rfl⟩ (Nat.le_of_ble_eq_true rfl) rfl rfl rfl rfl ?_
      refine zi_istore [(4, .int q_19.1), (0, .ref a0), (1, .int x1), (2, .int x2), (3, .int x3)] d_Pa_mostAlike_39 (by decide) rfl ?_
      refine zi_iconst 0 d_Pa_mostAlike_41 rfl ?_
      refine zi_istore [(5, .int 0), (4, .int q_19.1), (0, .ref a0), (1, .int x1), (2, .int x2), (3, .int x3)] d_Pa_mostAlike_42 (by decide) rfl ?_
      refine zi_lo [(0, .ref a0), (1, .int x1), (2, .int x2), (3, .int x3), (4, .int q_19.1), (5, .int 0)] [2, 3, 4, 5, 1, 0] rfl ?_
      exact K_Pa_mostAlike_b44 n E S r12 a0 x1 x2 x3 q_19.1 0 q_19.2 r M' hr12 h
    · rw [if_pos c_18] at h
      refine zi_goto (tgt := 125) d_Pa_mostAlike_30 rfl ?_
      refine zi_lo [(0, .ref a0), (1, .int x1), (2, .int x2), (3, .int x3)] [0, 1, 2, 3] rfl ?_
      exact K_Pa_mostAlike_b125 n E S r12 a0 x1 x2 x3 M r M' hr12 h
theorem K_Pa_mostAlike_b12 (n : Nat) (E : zE) (S : zS) (a0 : Nat) (x1 : Int32) (x2 : Int32) (x3 : Int32) (M : zH) (r : Int32) (M' : zH)  (h : F_Pa_mostAlike_b12 n E S (a0, x1, x2, x3, M) = some (r, M')) : zG E Y_Pa_mostAlike (some (.int r), S, M') 12 [(0, .ref a0), (1, .int x1), (2, .int x2), (3, .int x3)] [] S M 0 0 := by
  have key : ∀ (k : Nat) (a0 : Nat) (x1 : Int32) (x2 : Int32) (x3 : Int32) (M : zH), zfix (fun r12 s => F_Pa_mostAlike_L12 n E S r12 s.1 s.2.1 s.2.2.1 s.2.2.2.1 s.2.2.2.2) k (a0, x1, x2, x3, M) = some (r, M') → zG E Y_Pa_mostAlike (some (.int r), S, M') 12 [(0, .ref a0), (1, .int x1), (2, .int x2), (3, .int x3)] [] S M 0 0 := by
    intro k
    induction k with
    | zero => intro a0 x1 x2 x3 M h; cases h
    | succ k ih => intro a0 x1 x2 x3 M h; exact K_Pa_mostAlike_L12 n E S _ a0 x1 x2 x3 M r M'  (fun a0 x1 x2 x3 M h => ih a0 x1 x2 x3 M h) h
  exact key n a0 x1 x2 x3 M h
theorem K_Pa_mostAlike (n : Nat) (E : zE) (S : zS) (a0 : Nat) (x1 : Int32) (M : zH) (r : Int32) (M' : zH)  (h : F_Pa_mostAlike n E S a0 x1 M = some (r, M')) : zG E Y_Pa_mostAlike (some (.int r), S, M') 0 [(0, .ref a0), (1, .int x1)] [] S M 0 0 := by
  unfold F_Pa_mostAlike at h
  refine zi_aload_n 0 d_Pa_mostAlike_0 rfl ?_
  obtain ⟨b_20, eb_20, h⟩ := zbind h
  refine zo_getR 4 zkd_4 6 d_Pa_mostAlike_1 eb_20 rfl tw_304 rfl ?_
  refine zi_iconst 0 d_Pa_mostAlike_4 rfl ?_
  obtain ⟨q_21, eq_21, h⟩ := zbind h
  refine zo_stat (k' := 0) (n' := 0) 8 [.ref b_20, .int 0] [] [] (C_Ja_fillI n E S b_20 0 M q_21 eq_21) d_Pa_mostAlike_5 tw_40 tw_1038 tw_39 tw_3 dd_Ja_fillI ⟨Nat.le_of_ble_eq_true rfl, Nat.le_of_ble_eq_true rfl, Nat.le_of_ble_eq_true rfl, Nat.le_of_ble_eq_true rfl⟩ (Nat.le_of_ble_eq_true rfl) rfl rfl rfl rfl ?_
  refine zi_iconst 0 d_Pa_mostAlike_8 rfl ?_
  refine zi_istore_n [(2, .int 0), (0, .ref a0), (1, .int x1)] d_Pa_mostAlike_9 (by decide) rfl ?_
  refine zi_iconst 0 d_Pa_mostAlike_10 rfl ?_
  refine zi_istore_n [(3, .int 0), (2, .int 0), (0, .ref a0), (1, .int x1)] d_Pa_mostAlike_11 (by decide) rfl ?_
  refine zi_lo [(0, .ref a0), (1, .int x1), (2, .int 0), (3, .int 0)] [2, 3, 1, 0] rfl ?_
  exact K_Pa_mostAlike_b12 n E S a0 x1 0 0 q_21 r M'  h
theorem C_Pa_mostAlike (n : Nat) (E : zE) (S : zS) (a0 : Nat) (x1 : Int32) (M : zH) (r : Int32) (M' : zH) (h : F_Pa_mostAlike n E S a0 x1 M = some (r, M')) : zC E Y_Pa_mostAlike [.ref a0, .int x1] S M (some (.int r), S, M') :=
  zC.of (Or.inl (show plainName "NightColander$Paper" = true by decide)) (Nat.le_of_ble_eq_true rfl) (trivial) (K_Pa_mostAlike n E S a0 x1 M r M' h)
theorem d_Pa_findLook_0 : decode (yB Y_Pa_findLook) 0 = .ok (.aload_n 0, 1) := by decide +kernel
theorem d_Pa_findLook_1 : decode (yB Y_Pa_findLook) 1 = .ok (.aload_n 1, 1) := by decide +kernel
theorem d_Pa_findLook_2 : decode (yB Y_Pa_findLook) 2 = .ok (.invokevirtual 145, 3) := by decide +kernel
theorem d_Pa_findLook_5 : decode (yB Y_Pa_findLook) 5 = .ok (.ifCond .ne 5, 3) := by decide +kernel
theorem d_Pa_findLook_8 : decode (yB Y_Pa_findLook) 8 = .ok (.iconst 0, 1) := by decide +kernel
theorem d_Pa_findLook_9 : decode (yB Y_Pa_findLook) 9 = .ok (.ireturn, 1) := by decide +kernel
theorem d_Pa_findLook_10 : decode (yB Y_Pa_findLook) 10 = .ok (.aload_n 0, 1) := by decide +kernel
theorem d_Pa_findLook_11 : decode (yB Y_Pa_findLook) 11 = .ok (.sipush 4097, 3) := by decide +kernel
theorem d_Pa_findLook_14 : decode (yB Y_Pa_findLook) 14 = .ok (.putfield 38, 3) := by decide +kernel
theorem d_Pa_findLook_17 : decode (yB Y_Pa_findLook) 17 = .ok (.iconst 0, 1) := by decide +kernel
theorem d_Pa_findLook_18 : decode (yB Y_Pa_findLook) 18 = .ok (.istore_n 2, 1) := by decide +kernel
theorem d_Pa_findLook_19 : decode (yB Y_Pa_findLook) 19 = .ok (.iload_n 2, 1) := by decide +kernel
theorem d_Pa_findLook_20 : decode (yB Y_Pa_findLook) 20 = .ok (.bipush 8, 2) := by decide +kernel
theorem d_Pa_findLook_22 : decode (yB Y_Pa_findLook) 22 = .ok (.if_icmp .ge 33, 3) := by decide +kernel
theorem d_Pa_findLook_25 : decode (yB Y_Pa_findLook) 25 = .ok (.aload_n 0, 1) := by decide +kernel
theorem d_Pa_findLook_26 : decode (yB Y_Pa_findLook) 26 = .ok (.iload_n 2, 1) := by decide +kernel
theorem d_Pa_findLook_27 : decode (yB Y_Pa_findLook) 27 = .ok (.invokevirtual 149, 3) := by decide +kernel
theorem d_Pa_findLook_30 : decode (yB Y_Pa_findLook) 30 = .ok (.istore_n 3, 1) := by decide +kernel
theorem d_Pa_findLook_31 : decode (yB Y_Pa_findLook) 31 = .ok (.iload_n 3, 1) := by decide +kernel
theorem d_Pa_findLook_32 : decode (yB Y_Pa_findLook) 32 = .ok (.aload_n 0, 1) := by decide +kernel
theorem d_Pa_findLook_33 : decode (yB Y_Pa_findLook) 33 = .ok (.getfield 38, 3) := by decide +kernel
theorem d_Pa_findLook_36 : decode (yB Y_Pa_findLook) 36 = .ok (.if_icmp .ge 13, 3) := by decide +kernel
theorem d_Pa_findLook_39 : decode (yB Y_Pa_findLook) 39 = .ok (.aload_n 0, 1) := by decide +kernel
theorem d_Pa_findLook_40 : decode (yB Y_Pa_findLook) 40 = .ok (.iload_n 3, 1) := by decide +kernel
theorem d_Pa_findLook_41 : decode (yB Y_Pa_findLook) 41 = .ok (.putfield 38, 3) := by decide +kernel
theorem d_Pa_findLook_44 : decode (yB Y_Pa_findLook) 44 = .ok (.aload_n 0, 1) := by decide +kernel
theorem d_Pa_findLook_45 : decode (yB Y_Pa_findLook) 45 = .ok (.iload_n 2, 1) := by decide +kernel
theorem d_Pa_findLook_46 : decode (yB Y_Pa_findLook) 46 = .ok (.putfield 42, 3) := by decide +kernel
theorem d_Pa_findLook_49 : decode (yB Y_Pa_findLook) 49 = .ok (.iinc 2 1, 3) := by decide +kernel
theorem d_Pa_findLook_52 : decode (yB Y_Pa_findLook) 52 = .ok (.goto (-33), 3) := by decide +kernel
theorem d_Pa_findLook_55 : decode (yB Y_Pa_findLook) 55 = .ok (.iconst 1, 1) := by decide +kernel
theorem d_Pa_findLook_56 : decode (yB Y_Pa_findLook) 56 = .ok (.ireturn, 1) := by decide +kernel
def F_Pa_findLook_b49 (n : Nat) (E : zE) (S : zS) (r19 : Nat × Int32 × zH → Option (Bool × zH)) (a0 : Nat) (x2 : Int32) (M : zH) : Option (Bool × zH) :=
  r19 (a0, x2 + 1, M)
def F_Pa_findLook_L19 (n : Nat) (E : zE) (S : zS) (r19 : Nat × Int32 × zH → Option (Bool × zH)) (a0 : Nat) (x2 : Int32) (M : zH) : Option (Bool × zH) :=
  if 8 ≤ x2 then
    some (true, M)
  else
    (zck S a0 4).bind fun u_2 =>
    (F_Pa_mostAlike n E S a0 x2 M).bind fun q_3 =>
    (zgI S q_3.2 a0 4 8).bind fun v_4 =>
    if v_4 ≤ q_3.1 then
      F_Pa_findLook_b49 n E S r19 a0 x2 q_3.2
    else
      (zpI S q_3.2 a0 4 8 q_3.1).bind fun m_6 =>
      (zpI S m_6 a0 4 9 x2).bind fun m_7 =>
      F_Pa_findLook_b49 n E S r19 a0 x2 m_7
def F_Pa_findLook_b19 (n : Nat) (E : zE) (S : zS) : Nat × Int32 × zH → Option (Bool × zH) := zfix (fun r19 s => F_Pa_findLook_L19 n E S r19 s.1 s.2.1 s.2.2) n
def F_Pa_findLook (n : Nat) (E : zE) (S : zS) (a0 : Nat) (a1 : Nat) (M : zH) : Option (Bool × zH) :=
  (zck S a0 4).bind fun u_8 =>
  (F_Pa_findFitting n E S a0 a1 M).bind fun q_9 =>
  if q_9.1 = true then
    (zpI S q_9.2 a0 4 8 4097).bind fun m_11 =>
    F_Pa_findLook_b19 n E S (a0, 0, m_11)
  else
    some (false, q_9.2)
theorem K_Pa_findLook_b49 (n : Nat) (E : zE) (S : zS) (r19 : Nat × Int32 × zH → Option (Bool × zH)) (a0 : Nat) (x2 : Int32) (M : zH) (r : Bool) (M' : zH) (hr19 : ∀ (a0 : Nat) (x2 : Int32) (M : zH), r19 (a0, x2, M) = some (r, M') → zG E Y_Pa_findLook (some (.int (bI r)), S, M') 19 [(0, .ref a0), (2, .int x2)] [] S M 0 0) (h : F_Pa_findLook_b49 n E S r19 a0 x2 M = some (r, M')) : zG E Y_Pa_findLook (some (.int (bI r)), S, M') 49 [(0, .ref a0), (2, .int x2)] [] S M 0 0 := by
  unfold F_Pa_findLook_b49 at h
  refine zi_iinc 1 (x2 + 1) [(2, .int (x2 + 1)), (0, .ref a0)] d_Pa_findLook_49 rfl rfl (by decide) rfl ?_
  refine zi_goto (tgt := 19) d_Pa_findLook_52 rfl ?_
  refine zi_lo [(0, .ref a0), (2, .int (x2 + 1))] [1, 0] rfl ?_
  exact hr19 a0 (x2 + 1) M h
theorem K_Pa_findLook_L19 (n : Nat) (E : zE) (S : zS) (r19 : Nat × Int32 × zH → Option (Bool × zH)) (a0 : Nat) (x2 : Int32) (M : zH) (r : Bool) (M' : zH) (hr19 : ∀ (a0 : Nat) (x2 : Int32) (M : zH), r19 (a0, x2, M) = some (r, M') → zG E Y_Pa_findLook (some (.int (bI r)), S, M') 19 [(0, .ref a0), (2, .int x2)] [] S M 0 0) (h : F_Pa_findLook_L19 n E S r19 a0 x2 M = some (r, M')) : zG E Y_Pa_findLook (some (.int (bI r)), S, M') 19 [(0, .ref a0), (2, .int x2)] [] S M 0 0 := by
  unfold F_Pa_findLook_L19 at h
  refine zi_iload_n 1 d_Pa_findLook_19 rfl ?_
  refine zi_bipush 8 d_Pa_findLook_20 rfl ?_
  refine zi_icmp_ge (tgt := 55) d_Pa_findLook_22 rfl (fun c_1 => ?_) (fun c_1 => ?_)
  · rw [if_pos c_1] at h
    refine zi_iconst 1 d_Pa_findLook_55 rfl ?_
    cases h
    exact zo_retB d_Pa_findLook_56 (Nat.le_of_ble_eq_true rfl) (Nat.le_of_ble_eq_true rfl) rfl
  · rw [if_neg c_1] at h
    refine zi_aload_n 0 d_Pa_findLook_25 rfl ?_
    refine zi_iload_n 1 d_Pa_findLook_26 rfl ?_
    obtain ⟨u_2, eu_2, h⟩ := zbind h
    obtain ⟨q_3, eq_3, h⟩ := zbind h
    refine zo_virt (k' := 0) (n' := 0) 30 [.int x2] [] [.int q_3.1] zkd_4 (zck_s eu_2) (C_Pa_mostAlike n E S a0 x2 M q_3.1 q_3.2 eq_3) d_Pa_findLook_27 tw_1073 tw_1070 tw_1072 ts_33 tw_12 dd_Pa_mostAlike ⟨Nat.le_of_ble_eq_true rfl, Nat.le_of_ble_eq_true rfl, Nat.le_of_ble_eq_true rfl, Nat.le_of_ble_eq_true rfl⟩ (Nat.le_of_ble_eq_true rfl) rfl rfl rfl rfl ?_
    refine zi_istore_n [(3, .int q_3.1), (0, .ref a0), (2, .int x2)] d_Pa_findLook_30 (by decide) rfl ?_
    refine zi_iload_n 0 d_Pa_findLook_31 rfl ?_
    refine zi_aload_n 1 d_Pa_findLook_32 rfl ?_
    obtain ⟨v_4, ev_4, h⟩ := zbind h
    refine zo_getI 36 zkd_4 8 d_Pa_findLook_33 ev_4 rfl tw_306 rfl ?_
    refine zi_icmp_ge (tgt := 49) d_Pa_findLook_36 rfl (fun c_5 => ?_) (fun c_5 => ?_)
    · rw [if_pos c_5] at h
      refine zi_lo [(0, .ref a0), (2, .int x2)] [1, 2] rfl ?_
      exact K_Pa_findLook_b49 n E S r19 a0 x2 q_3.2 r M' hr19 h
    · rw [if_neg c_5] at h
      refine zi_aload_n 1 d_Pa_findLook_39 rfl ?_
      refine zi_iload_n 0 d_Pa_findLook_40 rfl ?_
      obtain ⟨m_6, em_6, h⟩ := zbind h
      refine zo_putI 44 zkd_4 8 d_Pa_findLook_41 em_6 rfl rfl rfl tw_306 rfl ?_
      refine zi_aload_n 1 d_Pa_findLook_44 rfl ?_
      refine zi_iload_n 2 d_Pa_findLook_45 rfl ?_
      obtain ⟨m_7, em_7, h⟩ := zbind h
      refine zo_putI 49 zkd_4 9 d_Pa_findLook_46 em_7 rfl rfl rfl tw_308 rfl ?_
      refine zi_lo [(0, .ref a0), (2, .int x2)] [1, 2] rfl ?_
      exact K_Pa_findLook_b49 n E S r19 a0 x2 m_7 r M' hr19 h
theorem K_Pa_findLook_b19 (n : Nat) (E : zE) (S : zS) (a0 : Nat) (x2 : Int32) (M : zH) (r : Bool) (M' : zH)  (h : F_Pa_findLook_b19 n E S (a0, x2, M) = some (r, M')) : zG E Y_Pa_findLook (some (.int (bI r)), S, M') 19 [(0, .ref a0), (2, .int x2)] [] S M 0 0 := by
  have key : ∀ (k : Nat) (a0 : Nat) (x2 : Int32) (M : zH), zfix (fun r19 s => F_Pa_findLook_L19 n E S r19 s.1 s.2.1 s.2.2) k (a0, x2, M) = some (r, M') → zG E Y_Pa_findLook (some (.int (bI r)), S, M') 19 [(0, .ref a0), (2, .int x2)] [] S M 0 0 := by
    intro k
    induction k with
    | zero => intro a0 x2 M h; cases h
    | succ k ih => intro a0 x2 M h; exact K_Pa_findLook_L19 n E S _ a0 x2 M r M'  (fun a0 x2 M h => ih a0 x2 M h) h
  exact key n a0 x2 M h
theorem K_Pa_findLook (n : Nat) (E : zE) (S : zS) (a0 : Nat) (a1 : Nat) (M : zH) (r : Bool) (M' : zH)  (h : F_Pa_findLook n E S a0 a1 M = some (r, M')) : zG E Y_Pa_findLook (some (.int (bI r)), S, M') 0 [(0, .ref a0), (1, .ref a1)] [] S M 0 0 := by
  unfold F_Pa_findLook at h
  refine zi_aload_n 0 d_Pa_findLook_0 rfl ?_
  refine zi_aload_n 1 d_Pa_findLook_1 rfl ?_
  obtain ⟨u_8, eu_8, h⟩ := zbind h
  obtain ⟨q_9, eq_9, h⟩ := zbind h
  refine zo_virt (k' := 0) (n' := 0) 5 [.ref a1] [] [.int (bI q_9.1)] zkd_4 (zck_s eu_8) (C_Pa_findFitting n E S a0 a1 M q_9.1 q_9.2 eq_9) d_Pa_findLook_2 tw_1069 tw_1066 tw_1068 ts_32 tw_12 dd_Pa_findFitting ⟨Nat.le_of_ble_eq_true rfl, Nat.le_of_ble_eq_true rfl, Nat.le_of_ble_eq_true rfl, Nat.le_of_ble_eq_true rfl⟩ (Nat.le_of_ble_eq_true rfl) rfl rfl rfl rfl ?_
  refine zo_ifneB d_Pa_findLook_5 rfl 8 rfl (fun c_10 => ?_) (fun c_10 => ?_)
  · rw [if_pos c_10] at h
    refine zi_aload_n 0 d_Pa_findLook_10 rfl ?_
    refine zi_sipush 4097 d_Pa_findLook_11 rfl ?_
    obtain ⟨m_11, em_11, h⟩ := zbind h
    refine zo_putI 17 zkd_4 8 d_Pa_findLook_14 em_11 rfl rfl rfl tw_306 rfl ?_
    refine zi_iconst 0 d_Pa_findLook_17 rfl ?_
    refine zi_istore_n [(2, .int 0), (0, .ref a0), (1, .ref a1)] d_Pa_findLook_18 (by decide) rfl ?_
    refine zi_lo [(0, .ref a0), (2, .int 0)] [1, 0] rfl ?_
    exact K_Pa_findLook_b19 n E S a0 0 m_11 r M'  h
  · rw [if_neg c_10] at h
    refine zi_iconst 0 d_Pa_findLook_8 rfl ?_
    cases h
    exact zo_retB d_Pa_findLook_9 (Nat.le_of_ble_eq_true rfl) (Nat.le_of_ble_eq_true rfl) rfl
theorem C_Pa_findLook (n : Nat) (E : zE) (S : zS) (a0 : Nat) (a1 : Nat) (M : zH) (r : Bool) (M' : zH) (h : F_Pa_findLook n E S a0 a1 M = some (r, M')) : zC E Y_Pa_findLook [.ref a0, .ref a1] S M (some (.int (bI r)), S, M') :=
  zC.of (Or.inl (show plainName "NightColander$Paper" = true by decide)) (Nat.le_of_ble_eq_true rfl) (bI_nar r) (K_Pa_findLook n E S a0 a1 M r M' h)
theorem d_NC_look_0 : decode (yB Y_NC_look) 0 = .ok (.iload_n 1, 1) := by decide +kernel
theorem d_NC_look_1 : decode (yB Y_NC_look) 1 = .ok (.iconst 0, 1) := by decide +kernel
theorem d_NC_look_2 : decode (yB Y_NC_look) 2 = .ok (.iconst 1, 1) := by decide +kernel
theorem d_NC_look_3 : decode (yB Y_NC_look) 3 = .ok (.invokestatic 132, 3) := by decide +kernel
theorem d_NC_look_6 : decode (yB Y_NC_look) 6 = .ok (.ifCond .eq 17, 3) := by decide +kernel
theorem d_NC_look_9 : decode (yB Y_NC_look) 9 = .ok (.aload_n 0, 1) := by decide +kernel
theorem d_NC_look_10 : decode (yB Y_NC_look) 10 = .ok (.getfield 86, 3) := by decide +kernel
theorem d_NC_look_13 : decode (yB Y_NC_look) 13 = .ok (.aload_n 0, 1) := by decide +kernel
theorem d_NC_look_14 : decode (yB Y_NC_look) 14 = .ok (.getfield 12, 3) := by decide +kernel
theorem d_NC_look_17 : decode (yB Y_NC_look) 17 = .ok (.invokevirtual 282, 3) := by decide +kernel
theorem d_NC_look_20 : decode (yB Y_NC_look) 20 = .ok (.ifCond .ne 5, 3) := by decide +kernel
theorem d_NC_look_23 : decode (yB Y_NC_look) 23 = .ok (.iconst (-1), 1) := by decide +kernel
theorem d_NC_look_24 : decode (yB Y_NC_look) 24 = .ok (.ireturn, 1) := by decide +kernel
theorem d_NC_look_25 : decode (yB Y_NC_look) 25 = .ok (.iload_n 1, 1) := by decide +kernel
theorem d_NC_look_26 : decode (yB Y_NC_look) 26 = .ok (.ifCond .ne 13, 3) := by decide +kernel
theorem d_NC_look_29 : decode (yB Y_NC_look) 29 = .ok (.aload_n 0, 1) := by decide +kernel
theorem d_NC_look_30 : decode (yB Y_NC_look) 30 = .ok (.getfield 86, 3) := by decide +kernel
theorem d_NC_look_33 : decode (yB Y_NC_look) 33 = .ok (.getfield 286, 3) := by decide +kernel
theorem d_NC_look_36 : decode (yB Y_NC_look) 36 = .ok (.goto 10, 3) := by decide +kernel
theorem d_NC_look_39 : decode (yB Y_NC_look) 39 = .ok (.aload_n 0, 1) := by decide +kernel
theorem d_NC_look_40 : decode (yB Y_NC_look) 40 = .ok (.getfield 86, 3) := by decide +kernel
theorem d_NC_look_43 : decode (yB Y_NC_look) 43 = .ok (.getfield 267, 3) := by decide +kernel
theorem d_NC_look_46 : decode (yB Y_NC_look) 46 = .ok (.ireturn, 1) := by decide +kernel
def F_NC_look (n : Nat) (E : zE) (S : zS) (a0 : Nat) (x1 : Int32) (M : zH) : Option (Int32 × zH) :=
  (F_NC_within n E S x1 0 1 M).bind fun q_1 =>
  if q_1.1 = true then
    (zgR S a0 10 12).bind fun b_3 =>
    (zgR S a0 10 0).bind fun b_4 =>
    (zck S b_3 4).bind fun u_5 =>
    (F_Pa_findLook n E S b_3 b_4 q_1.2).bind fun q_6 =>
    if q_6.1 = true then
      if x1 = 0 then
        (zgI S q_6.2 b_3 4 9).bind fun v_9 =>
        some (v_9, q_6.2)
      else
        (zgI S q_6.2 b_3 4 8).bind fun v_10 =>
        some (v_10, q_6.2)
    else
      some ((-1), q_6.2)
  else
    some ((-1), q_1.2)
theorem K_NC_look (n : Nat) (E : zE) (S : zS) (a0 : Nat) (x1 : Int32) (M : zH) (r : Int32) (M' : zH)  (h : F_NC_look n E S a0 x1 M = some (r, M')) : zG E Y_NC_look (some (.int r), S, M') 0 [(0, .ref a0), (1, .int x1)] [] S M 0 0 := by
  unfold F_NC_look at h
  refine zi_iload_n 1 d_NC_look_0 rfl ?_
  refine zi_iconst 0 d_NC_look_1 rfl ?_
  refine zi_iconst 1 d_NC_look_2 rfl ?_
  obtain ⟨q_1, eq_1, h⟩ := zbind h
  refine zo_stat (k' := 0) (n' := 0) 6 [.int x1, .int 0, .int 1] [] [.int (bI q_1.1)] (C_NC_within n E S x1 0 1 M q_1.1 q_1.2 eq_1) d_NC_look_3 tw_399 tw_397 tw_398 tw_1 dd_NC_within ⟨Nat.le_of_ble_eq_true rfl, Nat.le_of_ble_eq_true rfl, Nat.le_of_ble_eq_true rfl, Nat.le_of_ble_eq_true rfl⟩ (Nat.le_of_ble_eq_true rfl) rfl rfl rfl rfl ?_
  refine zo_ifeqB d_NC_look_6 rfl 9 rfl (fun c_2 => ?_) (fun c_2 => ?_)
  · rw [if_neg c_2] at h
    refine zi_iconst (-1) d_NC_look_23 rfl ?_
    cases h
    exact zo_ret d_NC_look_24 (Nat.le_of_ble_eq_true rfl) (Nat.le_of_ble_eq_true rfl) rfl
  · rw [if_pos c_2] at h
    refine zi_aload_n 0 d_NC_look_9 rfl ?_
    obtain ⟨b_3, eb_3, h⟩ := zbind h
    refine zo_getR 13 zkd_10 12 d_NC_look_10 eb_3 rfl tw_344 rfl ?_
    refine zi_aload_n 0 d_NC_look_13 rfl ?_
    obtain ⟨b_4, eb_4, h⟩ := zbind h
    refine zo_getR 17 zkd_10 0 d_NC_look_14 eb_4 rfl tw_332 rfl ?_
    obtain ⟨u_5, eu_5, h⟩ := zbind h
    obtain ⟨q_6, eq_6, h⟩ := zbind h
    refine zo_virt (k' := 0) (n' := 0) 20 [.ref b_4] [] [.int (bI q_6.1)] zkd_4 (zck_s eu_5) (C_Pa_findLook n E S b_3 b_4 q_1.2 q_6.1 q_6.2 eq_6) d_NC_look_17 tw_1065 tw_1062 tw_1063 tw_1064 tw_12 dd_Pa_findLook ⟨Nat.le_of_ble_eq_true rfl, Nat.le_of_ble_eq_true rfl, Nat.le_of_ble_eq_true rfl, Nat.le_of_ble_eq_true rfl⟩ (Nat.le_of_ble_eq_true rfl) rfl rfl rfl rfl ?_
    refine zo_ifneB d_NC_look_20 rfl 23 rfl (fun c_7 => ?_) (fun c_7 => ?_)
    · rw [if_pos c_7] at h
      refine zi_iload_n 1 d_NC_look_25 rfl ?_
      refine zi_if_ne (tgt := 39) d_NC_look_26 rfl (fun c_8 => ?_) (fun c_8 => ?_)
      · rw [if_neg c_8] at h
        refine zi_aload_n 0 d_NC_look_39 rfl ?_
        refine zo_getR 43 zkd_10 12 d_NC_look_40 eb_3 rfl tw_344 rfl ?_
        obtain ⟨v_10, ev_10, h⟩ := zbind h
        refine zo_getI 46 zkd_4 8 d_NC_look_43 ev_10 rfl tw_307 rfl ?_
        cases h
        exact zo_ret d_NC_look_46 (Nat.le_of_ble_eq_true rfl) (Nat.le_of_ble_eq_true rfl) rfl
      · rw [if_pos c_8] at h
        refine zi_aload_n 0 d_NC_look_29 rfl ?_
        refine zo_getR 33 zkd_10 12 d_NC_look_30 eb_3 rfl tw_344 rfl ?_
        obtain ⟨v_9, ev_9, h⟩ := zbind h
        refine zo_getI 36 zkd_4 9 d_NC_look_33 ev_9 rfl tw_309 rfl ?_
        refine zi_goto (tgt := 46) d_NC_look_36 rfl ?_
        cases h
        exact zo_ret d_NC_look_46 (Nat.le_of_ble_eq_true rfl) (Nat.le_of_ble_eq_true rfl) rfl
    · rw [if_neg c_7] at h
      refine zi_iconst (-1) d_NC_look_23 rfl ?_
      cases h
      exact zo_ret d_NC_look_24 (Nat.le_of_ble_eq_true rfl) (Nat.le_of_ble_eq_true rfl) rfl
theorem C_NC_look (n : Nat) (E : zE) (S : zS) (a0 : Nat) (x1 : Int32) (M : zH) (r : Int32) (M' : zH) (h : F_NC_look n E S a0 x1 M = some (r, M')) : zC E Y_NC_look [.ref a0, .int x1] S M (some (.int r), S, M') :=
  zC.of (Or.inl (show plainName "NightColander" = true by decide)) (Nat.le_of_ble_eq_true rfl) (trivial) (K_NC_look n E S a0 x1 M r M' h)
theorem d_Pa_givesWanted_0 : decode (yB Y_Pa_givesWanted) 0 = .ok (.iconst 0, 1) := by decide +kernel
theorem d_Pa_givesWanted_1 : decode (yB Y_Pa_givesWanted) 1 = .ok (.istore_n 3, 1) := by decide +kernel
theorem d_Pa_givesWanted_2 : decode (yB Y_Pa_givesWanted) 2 = .ok (.iload_n 3, 1) := by decide +kernel
theorem d_Pa_givesWanted_3 : decode (yB Y_Pa_givesWanted) 3 = .ok (.bipush 8, 2) := by decide +kernel
theorem d_Pa_givesWanted_5 : decode (yB Y_Pa_givesWanted) 5 = .ok (.if_icmp .ge 36, 3) := by decide +kernel
theorem d_Pa_givesWanted_8 : decode (yB Y_Pa_givesWanted) 8 = .ok (.aload_n 1, 1) := by decide +kernel
theorem d_Pa_givesWanted_9 : decode (yB Y_Pa_givesWanted) 9 = .ok (.getfield 161, 3) := by decide +kernel
theorem d_Pa_givesWanted_12 : decode (yB Y_Pa_givesWanted) 12 = .ok (.iload_n 3, 1) := by decide +kernel
theorem d_Pa_givesWanted_13 : decode (yB Y_Pa_givesWanted) 13 = .ok (.iaload, 1) := by decide +kernel
theorem d_Pa_givesWanted_14 : decode (yB Y_Pa_givesWanted) 14 = .ok (.iconst (-1), 1) := by decide +kernel
theorem d_Pa_givesWanted_15 : decode (yB Y_Pa_givesWanted) 15 = .ok (.if_icmp .eq 20, 3) := by decide +kernel
theorem d_Pa_givesWanted_18 : decode (yB Y_Pa_givesWanted) 18 = .ok (.aload_n 0, 1) := by decide +kernel
theorem d_Pa_givesWanted_19 : decode (yB Y_Pa_givesWanted) 19 = .ok (.iload_n 2, 1) := by decide +kernel
theorem d_Pa_givesWanted_20 : decode (yB Y_Pa_givesWanted) 20 = .ok (.iload_n 3, 1) := by decide +kernel
theorem d_Pa_givesWanted_21 : decode (yB Y_Pa_givesWanted) 21 = .ok (.invokevirtual 128, 3) := by decide +kernel
theorem d_Pa_givesWanted_24 : decode (yB Y_Pa_givesWanted) 24 = .ok (.aload_n 1, 1) := by decide +kernel
theorem d_Pa_givesWanted_25 : decode (yB Y_Pa_givesWanted) 25 = .ok (.getfield 161, 3) := by decide +kernel
theorem d_Pa_givesWanted_28 : decode (yB Y_Pa_givesWanted) 28 = .ok (.iload_n 3, 1) := by decide +kernel
theorem d_Pa_givesWanted_29 : decode (yB Y_Pa_givesWanted) 29 = .ok (.iaload, 1) := by decide +kernel
theorem d_Pa_givesWanted_30 : decode (yB Y_Pa_givesWanted) 30 = .ok (.if_icmp .eq 5, 3) := by decide +kernel
theorem d_Pa_givesWanted_33 : decode (yB Y_Pa_givesWanted) 33 = .ok (.iconst 0, 1) := by decide +kernel
theorem d_Pa_givesWanted_34 : decode (yB Y_Pa_givesWanted) 34 = .ok (.ireturn, 1) := by decide +kernel
theorem d_Pa_givesWanted_35 : decode (yB Y_Pa_givesWanted) 35 = .ok (.iinc 3 1, 3) := by decide +kernel
theorem d_Pa_givesWanted_38 : decode (yB Y_Pa_givesWanted) 38 = .ok (.goto (-36), 3) := by decide +kernel
theorem d_Pa_givesWanted_41 : decode (yB Y_Pa_givesWanted) 41 = .ok (.iconst 1, 1) := by decide +kernel
theorem d_Pa_givesWanted_42 : decode (yB Y_Pa_givesWanted) 42 = .ok (.ireturn, 1) := by decide +kernel
def F_Pa_givesWanted_b35 (n : Nat) (E : zE) (S : zS) (r2 : Nat × Nat × Int32 × Int32 × zH → Option (Bool × zH)) (a0 : Nat) (a1 : Nat) (x2 : Int32) (x3 : Int32) (M : zH) : Option (Bool × zH) :=
  r2 (a0, a1, x2, x3 + 1, M)
def F_Pa_givesWanted_L2 (n : Nat) (E : zE) (S : zS) (r2 : Nat × Nat × Int32 × Int32 × zH → Option (Bool × zH)) (a0 : Nat) (a1 : Nat) (x2 : Int32) (x3 : Int32) (M : zH) : Option (Bool × zH) :=
  if 8 ≤ x3 then
    some (true, M)
  else
    (zgR S a1 3 6).bind fun b_2 =>
    (zldI S M b_2 x3).bind fun v_3 =>
    if v_3 = (-1) then
      F_Pa_givesWanted_b35 n E S r2 a0 a1 x2 x3 M
    else
      (zck S a0 4).bind fun u_5 =>
      (F_Pa_threadsBy n E S a0 x2 x3 M).bind fun q_6 =>
      (zldI S q_6.2 b_2 x3).bind fun v_7 =>
      if q_6.1 = v_7 then
        F_Pa_givesWanted_b35 n E S r2 a0 a1 x2 x3 q_6.2
      else
        some (false, q_6.2)
def F_Pa_givesWanted_b2 (n : Nat) (E : zE) (S : zS) : Nat × Nat × Int32 × Int32 × zH → Option (Bool × zH) := zfix (fun r2 s => F_Pa_givesWanted_L2 n E S r2 s.1 s.2.1 s.2.2.1 s.2.2.2.1 s.2.2.2.2) n
def F_Pa_givesWanted (n : Nat) (E : zE) (S : zS) (a0 : Nat) (a1 : Nat) (x2 : Int32) (M : zH) : Option (Bool × zH) :=
  F_Pa_givesWanted_b2 n E S (a0, a1, x2, 0, M)
theorem K_Pa_givesWanted_b35 (n : Nat) (E : zE) (S : zS) (r2 : Nat × Nat × Int32 × Int32 × zH → Option (Bool × zH)) (a0 : Nat) (a1 : Nat) (x2 : Int32) (x3 : Int32) (M : zH) (r : Bool) (M' : zH) (hr2 : ∀ (a0 : Nat) (a1 : Nat) (x2 : Int32) (x3 : Int32) (M : zH), r2 (a0, a1, x2, x3, M) = some (r, M') → zG E Y_Pa_givesWanted (some (.int (bI r)), S, M') 2 [(0, .ref a0), (1, .ref a1), (2, .int x2), (3, .int x3)] [] S M 0 0) (h : F_Pa_givesWanted_b35 n E S r2 a0 a1 x2 x3 M = some (r, M')) : zG E Y_Pa_givesWanted (some (.int (bI r)), S, M') 35 [(0, .ref a0), (1, .ref a1), (2, .int x2), (3, .int x3)] [] S M 0 0 := by
  unfold F_Pa_givesWanted_b35 at h
  refine zi_iinc 3 (x3 + 1) [(3, .int (x3 + 1)), (0, .ref a0), (1, .ref a1), (2, .int x2)] d_Pa_givesWanted_35 rfl rfl (by decide) rfl ?_
  refine zi_goto (tgt := 2) d_Pa_givesWanted_38 rfl ?_
  refine zi_lo [(0, .ref a0), (1, .ref a1), (2, .int x2), (3, .int (x3 + 1))] [1, 2, 3, 0] rfl ?_
  exact hr2 a0 a1 x2 (x3 + 1) M h
theorem K_Pa_givesWanted_L2 (n : Nat) (E : zE) (S : zS) (r2 : Nat × Nat × Int32 × Int32 × zH → Option (Bool × zH)) (a0 : Nat) (a1 : Nat) (x2 : Int32) (x3 : Int32) (M : zH) (r : Bool) (M' : zH) (hr2 : ∀ (a0 : Nat) (a1 : Nat) (x2 : Int32) (x3 : Int32) (M : zH), r2 (a0, a1, x2, x3, M) = some (r, M') → zG E Y_Pa_givesWanted (some (.int (bI r)), S, M') 2 [(0, .ref a0), (1, .ref a1), (2, .int x2), (3, .int x3)] [] S M 0 0) (h : F_Pa_givesWanted_L2 n E S r2 a0 a1 x2 x3 M = some (r, M')) : zG E Y_Pa_givesWanted (some (.int (bI r)), S, M') 2 [(0, .ref a0), (1, .ref a1), (2, .int x2), (3, .int x3)] [] S M 0 0 := by
  unfold F_Pa_givesWanted_L2 at h
  refine zi_iload_n 3 d_Pa_givesWanted_2 rfl ?_
  refine zi_bipush 8 d_Pa_givesWanted_3 rfl ?_
  refine zi_icmp_ge (tgt := 41) d_Pa_givesWanted_5 rfl (fun c_1 => ?_) (fun c_1 => ?_)
  · rw [if_pos c_1] at h
    refine zi_iconst 1 d_Pa_givesWanted_41 rfl ?_
    cases h
    exact zo_retB d_Pa_givesWanted_42 (Nat.le_of_ble_eq_true rfl) (Nat.le_of_ble_eq_true rfl) rfl
  · rw [if_neg c_1] at h
    refine zi_aload_n 1 d_Pa_givesWanted_8 rfl ?_
    obtain ⟨b_2, eb_2, h⟩ := zbind h
    refine zo_getR 12 zkd_3 6 d_Pa_givesWanted_9 eb_2 rfl tw_75 rfl ?_
    refine zi_iload_n 3 d_Pa_givesWanted_12 rfl ?_
    obtain ⟨v_3, ev_3, h⟩ := zbind h
    refine zo_iald 14 d_Pa_givesWanted_13 ev_3 rfl ?_
    refine zi_iconst (-1) d_Pa_givesWanted_14 rfl ?_
    refine zi_icmp_eq (tgt := 35) d_Pa_givesWanted_15 rfl (fun c_4 => ?_) (fun c_4 => ?_)
    · rw [if_pos c_4] at h
      refine zi_lo [(0, .ref a0), (1, .ref a1), (2, .int x2), (3, .int x3)] [0, 1, 2, 3] rfl ?_
      exact K_Pa_givesWanted_b35 n E S r2 a0 a1 x2 x3 M r M' hr2 h
    · rw [if_neg c_4] at h
      refine zi_aload_n 0 d_Pa_givesWanted_18 rfl ?_
      refine zi_iload_n 2 d_Pa_givesWanted_19 rfl ?_
      refine zi_iload_n 3 d_Pa_givesWanted_20 rfl ?_
      obtain ⟨u_5, eu_5, h⟩ := zbind h
      obtain ⟨q_6, eq_6, h⟩ := zbind h
      refine zo_virt (k' := 0) (n' := 0) 24 [.int x2, .int x3] [] [.int q_6.1] zkd_4 (zck_s eu_5) (C_Pa_threadsBy n E S a0 x2 x3 M q_6.1 q_6.2 eq_6) d_Pa_givesWanted_21 tw_1050 tw_1047 tw_1049 ts_30 tw_12 dd_Pa_threadsBy ⟨Nat.le_of_ble_eq_true rfl, Nat.le_of_ble_eq_true rfl, Nat.le_of_ble_eq_true rfl, Nat.le_of_ble_eq_true rfl⟩ (Nat.le_of_ble_eq_true rfl) rfl rfl rfl rfl ?_
      refine zi_aload_n 1 d_Pa_givesWanted_24 rfl ?_
      refine zo_getR 28 zkd_3 6 d_Pa_givesWanted_25 eb_2 rfl tw_75 rfl ?_
      refine zi_iload_n 3 d_Pa_givesWanted_28 rfl ?_
      obtain ⟨v_7, ev_7, h⟩ := zbind h
      refine zo_iald 30 d_Pa_givesWanted_29 ev_7 rfl ?_
      refine zi_icmp_eq (tgt := 35) d_Pa_givesWanted_30 rfl (fun c_8 => ?_) (fun c_8 => ?_)
      · rw [if_pos c_8] at h
        refine zi_lo [(0, .ref a0), (1, .ref a1), (2, .int x2), (3, .int x3)] [0, 1, 2, 3] rfl ?_
        exact K_Pa_givesWanted_b35 n E S r2 a0 a1 x2 x3 q_6.2 r M' hr2 h
      · rw [if_neg c_8] at h
        refine zi_iconst 0 d_Pa_givesWanted_33 rfl ?_
        cases h
        exact zo_retB d_Pa_givesWanted_34 (Nat.le_of_ble_eq_true rfl) (Nat.le_of_ble_eq_true rfl) rfl
theorem K_Pa_givesWanted_b2 (n : Nat) (E : zE) (S : zS) (a0 : Nat) (a1 : Nat) (x2 : Int32) (x3 : Int32) (M : zH) (r : Bool) (M' : zH)  (h : F_Pa_givesWanted_b2 n E S (a0, a1, x2, x3, M) = some (r, M')) : zG E Y_Pa_givesWanted (some (.int (bI r)), S, M') 2 [(0, .ref a0), (1, .ref a1), (2, .int x2), (3, .int x3)] [] S M 0 0 := by
  have key : ∀ (k : Nat) (a0 : Nat) (a1 : Nat) (x2 : Int32) (x3 : Int32) (M : zH), zfix (fun r2 s => F_Pa_givesWanted_L2 n E S r2 s.1 s.2.1 s.2.2.1 s.2.2.2.1 s.2.2.2.2) k (a0, a1, x2, x3, M) = some (r, M') → zG E Y_Pa_givesWanted (some (.int (bI r)), S, M') 2 [(0, .ref a0), (1, .ref a1), (2, .int x2), (3, .int x3)] [] S M 0 0 := by
    intro k
    induction k with
    | zero => intro a0 a1 x2 x3 M h; cases h
    | succ k ih => intro a0 a1 x2 x3 M h; exact K_Pa_givesWanted_L2 n E S _ a0 a1 x2 x3 M r M'  (fun a0 a1 x2 x3 M h => ih a0 a1 x2 x3 M h) h
  exact key n a0 a1 x2 x3 M h
theorem K_Pa_givesWanted (n : Nat) (E : zE) (S : zS) (a0 : Nat) (a1 : Nat) (x2 : Int32) (M : zH) (r : Bool) (M' : zH)  (h : F_Pa_givesWanted n E S a0 a1 x2 M = some (r, M')) : zG E Y_Pa_givesWanted (some (.int (bI r)), S, M') 0 [(0, .ref a0), (1, .ref a1), (2, .int x2)] [] S M 0 0 := by
  unfold F_Pa_givesWanted at h
  refine zi_iconst 0 d_Pa_givesWanted_0 rfl ?_
  refine zi_istore_n [(3, .int 0), (0, .ref a0), (1, .ref a1), (2, .int x2)] d_Pa_givesWanted_1 (by decide) rfl ?_
  refine zi_lo [(0, .ref a0), (1, .ref a1), (2, .int x2), (3, .int 0)] [1, 2, 3, 0] rfl ?_
  exact K_Pa_givesWanted_b2 n E S a0 a1 x2 0 M r M'  h
theorem C_Pa_givesWanted (n : Nat) (E : zE) (S : zS) (a0 : Nat) (a1 : Nat) (x2 : Int32) (M : zH) (r : Bool) (M' : zH) (h : F_Pa_givesWanted n E S a0 a1 x2 M = some (r, M')) : zC E Y_Pa_givesWanted [.ref a0, .ref a1, .int x2] S M (some (.int (bI r)), S, M') :=
  zC.of (Or.inl (show plainName "NightColander$Paper" = true by decide)) (Nat.le_of_ble_eq_true rfl) (bI_nar r) (K_Pa_givesWanted n E S a0 a1 x2 M r M' h)
theorem d_Pa_stepsTo_0 : decode (yB Y_Pa_stepsTo) 0 = .ok (.iconst 0, 1) := by decide +kernel
theorem d_Pa_stepsTo_1 : decode (yB Y_Pa_stepsTo) 1 = .ok (.istore_n 2, 1) := by decide +kernel
theorem d_Pa_stepsTo_2 : decode (yB Y_Pa_stepsTo) 2 = .ok (.iconst 0, 1) := by decide +kernel
theorem d_Pa_stepsTo_3 : decode (yB Y_Pa_stepsTo) 3 = .ok (.istore_n 3, 1) := by decide +kernel
theorem d_Pa_stepsTo_4 : decode (yB Y_Pa_stepsTo) 4 = .ok (.iload_n 3, 1) := by decide +kernel
theorem d_Pa_stepsTo_5 : decode (yB Y_Pa_stepsTo) 5 = .ok (.iconst 4, 1) := by decide +kernel
theorem d_Pa_stepsTo_6 : decode (yB Y_Pa_stepsTo) 6 = .ok (.if_icmp .ge 43, 3) := by decide +kernel
theorem d_Pa_stepsTo_9 : decode (yB Y_Pa_stepsTo) 9 = .ok (.iload_n 1, 1) := by decide +kernel
theorem d_Pa_stepsTo_10 : decode (yB Y_Pa_stepsTo) 10 = .ok (.iconst 3, 1) := by decide +kernel
theorem d_Pa_stepsTo_11 : decode (yB Y_Pa_stepsTo) 11 = .ok (.iconst 3, 1) := by decide +kernel
theorem d_Pa_stepsTo_12 : decode (yB Y_Pa_stepsTo) 12 = .ok (.iload_n 3, 1) := by decide +kernel
theorem d_Pa_stepsTo_13 : decode (yB Y_Pa_stepsTo) 13 = .ok (.isub, 1) := by decide +kernel
theorem d_Pa_stepsTo_14 : decode (yB Y_Pa_stepsTo) 14 = .ok (.imul, 1) := by decide +kernel
theorem d_Pa_stepsTo_15 : decode (yB Y_Pa_stepsTo) 15 = .ok (.ishr, 1) := by decide +kernel
theorem d_Pa_stepsTo_16 : decode (yB Y_Pa_stepsTo) 16 = .ok (.aload_n 0, 1) := by decide +kernel
theorem d_Pa_stepsTo_17 : decode (yB Y_Pa_stepsTo) 17 = .ok (.getfield 106, 3) := by decide +kernel
theorem d_Pa_stepsTo_20 : decode (yB Y_Pa_stepsTo) 20 = .ok (.iload_n 3, 1) := by decide +kernel
theorem d_Pa_stepsTo_21 : decode (yB Y_Pa_stepsTo) 21 = .ok (.iaload, 1) := by decide +kernel
theorem d_Pa_stepsTo_22 : decode (yB Y_Pa_stepsTo) 22 = .ok (.isub, 1) := by decide +kernel
theorem d_Pa_stepsTo_23 : decode (yB Y_Pa_stepsTo) 23 = .ok (.bipush 8, 2) := by decide +kernel
theorem d_Pa_stepsTo_25 : decode (yB Y_Pa_stepsTo) 25 = .ok (.invokestatic 158, 3) := by decide +kernel
theorem d_Pa_stepsTo_28 : decode (yB Y_Pa_stepsTo) 28 = .ok (.istore 4, 2) := by decide +kernel
theorem d_Pa_stepsTo_30 : decode (yB Y_Pa_stepsTo) 30 = .ok (.iload_n 2, 1) := by decide +kernel
theorem d_Pa_stepsTo_31 : decode (yB Y_Pa_stepsTo) 31 = .ok (.iload 4, 2) := by decide +kernel
theorem d_Pa_stepsTo_33 : decode (yB Y_Pa_stepsTo) 33 = .ok (.bipush 8, 2) := by decide +kernel
theorem d_Pa_stepsTo_35 : decode (yB Y_Pa_stepsTo) 35 = .ok (.iload 4, 2) := by decide +kernel
theorem d_Pa_stepsTo_37 : decode (yB Y_Pa_stepsTo) 37 = .ok (.isub, 1) := by decide +kernel
theorem d_Pa_stepsTo_38 : decode (yB Y_Pa_stepsTo) 38 = .ok (.invokestatic 100, 3) := by decide +kernel
theorem d_Pa_stepsTo_41 : decode (yB Y_Pa_stepsTo) 41 = .ok (.iadd, 1) := by decide +kernel
theorem d_Pa_stepsTo_42 : decode (yB Y_Pa_stepsTo) 42 = .ok (.istore_n 2, 1) := by decide +kernel
theorem d_Pa_stepsTo_43 : decode (yB Y_Pa_stepsTo) 43 = .ok (.iinc 3 1, 3) := by decide +kernel
theorem d_Pa_stepsTo_46 : decode (yB Y_Pa_stepsTo) 46 = .ok (.goto (-42), 3) := by decide +kernel
theorem d_Pa_stepsTo_49 : decode (yB Y_Pa_stepsTo) 49 = .ok (.iload_n 2, 1) := by decide +kernel
theorem d_Pa_stepsTo_50 : decode (yB Y_Pa_stepsTo) 50 = .ok (.ireturn, 1) := by decide +kernel
def F_Pa_stepsTo_L4 (n : Nat) (E : zE) (S : zS) (r4 : Nat × Int32 × Int32 × Int32 × zH → Option (Int32 × zH)) (a0 : Nat) (x1 : Int32) (x2 : Int32) (x3 : Int32) (M : zH) : Option (Int32 × zH) :=
  if 4 ≤ x3 then
    some (x2, M)
  else
    (zgR S a0 3 2).bind fun b_2 =>
    (zldI S M b_2 x3).bind fun v_3 =>
    (F_Jm_floorMod n E S ((x1 >>> ((3 * (3 - x3)) &&& (31 : Int32))) - v_3) 8 M).bind fun q_4 =>
    (F_Jm_min n E S q_4.1 (8 - q_4.1) q_4.2).bind fun q_5 =>
    r4 (a0, x1, x2 + q_5.1, x3 + 1, q_5.2)
def F_Pa_stepsTo_b4 (n : Nat) (E : zE) (S : zS) : Nat × Int32 × Int32 × Int32 × zH → Option (Int32 × zH) := zfix (fun r4 s => F_Pa_stepsTo_L4 n E S r4 s.1 s.2.1 s.2.2.1 s.2.2.2.1 s.2.2.2.2) n
def F_Pa_stepsTo (n : Nat) (E : zE) (S : zS) (a0 : Nat) (x1 : Int32) (M : zH) : Option (Int32 × zH) :=
  F_Pa_stepsTo_b4 n E S (a0, x1, 0, 0, M)
theorem K_Pa_stepsTo_L4 (n : Nat) (E : zE) (S : zS) (r4 : Nat × Int32 × Int32 × Int32 × zH → Option (Int32 × zH)) (a0 : Nat) (x1 : Int32) (x2 : Int32) (x3 : Int32) (M : zH) (r : Int32) (M' : zH) (hr4 : ∀ (a0 : Nat) (x1 : Int32) (x2 : Int32) (x3 : Int32) (M : zH), r4 (a0, x1, x2, x3, M) = some (r, M') → zG E Y_Pa_stepsTo (some (.int r), S, M') 4 [(0, .ref a0), (1, .int x1), (2, .int x2), (3, .int x3)] [] S M 0 0) (h : F_Pa_stepsTo_L4 n E S r4 a0 x1 x2 x3 M = some (r, M')) : zG E Y_Pa_stepsTo (some (.int r), S, M') 4 [(0, .ref a0), (1, .int x1), (2, .int x2), (3, .int x3)] [] S M 0 0 := by
  unfold F_Pa_stepsTo_L4 at h
  refine zi_iload_n 3 d_Pa_stepsTo_4 rfl ?_
  refine zi_iconst 4 d_Pa_stepsTo_5 rfl ?_
  refine zi_icmp_ge (tgt := 49) d_Pa_stepsTo_6 rfl (fun c_1 => ?_) (fun c_1 => ?_)
  · rw [if_pos c_1] at h
    refine zi_iload_n 2 d_Pa_stepsTo_49 rfl ?_
    cases h
    exact zo_ret d_Pa_stepsTo_50 (Nat.le_of_ble_eq_true rfl) (Nat.le_of_ble_eq_true rfl) rfl
  · rw [if_neg c_1] at h
    refine zi_iload_n 1 d_Pa_stepsTo_9 rfl ?_
    refine zi_iconst 3 d_Pa_stepsTo_10 rfl ?_
    refine zi_iconst 3 d_Pa_stepsTo_11 rfl ?_
    refine zi_iload_n 3 d_Pa_stepsTo_12 rfl ?_
    refine zi_isub d_Pa_stepsTo_13 ?_
    refine zi_imul d_Pa_stepsTo_14 ?_
    refine zi_ishr d_Pa_stepsTo_15 ?_
    refine zi_aload_n 0 d_Pa_stepsTo_16 rfl ?_
    obtain ⟨b_2, eb_2, h⟩ := zbind h
    refine zo_getR 20 zkd_3 2 d_Pa_stepsTo_17 eb_2 rfl tw_55 rfl ?_
    refine zi_iload_n 3 d_Pa_stepsTo_20 rfl ?_
    obtain ⟨v_3, ev_3, h⟩ := zbind h
    refine zo_iald 22 d_Pa_stepsTo_21 ev_3 rfl ?_
    refine zi_isub d_Pa_stepsTo_22 ?_
    refine zi_bipush 8 d_Pa_stepsTo_23 rfl ?_
    obtain ⟨q_4, eq_4, h⟩ := zbind h
    refine zo_stat (k' := 0) (n' := 0) 28 [.int ((x1 >>> ((3 * (3 - x3)) &&& (31 : Int32))) - v_3), .int 8] [] [.int q_4.1] (C_Jm_floorMod n E S ((x1 >>> ((3 * (3 - x3)) &&& (31 : Int32))) - v_3) 8 M q_4.1 q_4.2 eq_4) d_Pa_stepsTo_25 tw_409 tw_1089 tw_408 tw_14 dd_Jm_floorMod ⟨Nat.le_of_ble_eq_true rfl, Nat.le_of_ble_eq_true rfl, Nat.le_of_ble_eq_true rfl, Nat.le_of_ble_eq_true rfl⟩ (Nat.le_of_ble_eq_true rfl) rfl rfl rfl rfl ?_
    refine zi_istore [(4, .int q_4.1), (0, .ref a0), (1, .int x1), (2, .int x2), (3, .int x3)] d_Pa_stepsTo_28 (by decide) rfl ?_
    refine zi_iload_n 3 d_Pa_stepsTo_30 rfl ?_
    refine zi_iload 0 d_Pa_stepsTo_31 rfl ?_
    refine zi_bipush 8 d_Pa_stepsTo_33 rfl ?_
    refine zi_iload 0 d_Pa_stepsTo_35 rfl ?_
    refine zi_isub d_Pa_stepsTo_37 ?_
    obtain ⟨q_5, eq_5, h⟩ := zbind h
    refine zo_stat (k' := 0) (n' := 0) 41 [.int q_4.1, .int (8 - q_4.1)] [.int x2] [.int q_5.1, .int x2] (C_Jm_min n E S q_4.1 (8 - q_4.1) q_4.2 q_5.1 q_5.2 eq_5) d_Pa_stepsTo_38 tw_437 tw_1002 tw_436 tw_14 dd_Jm_min ⟨Nat.le_of_ble_eq_true rfl, Nat.le_of_ble_eq_true rfl, Nat.le_of_ble_eq_true rfl, Nat.le_of_ble_eq_true rfl⟩ (Nat.le_of_ble_eq_true rfl) rfl rfl rfl rfl ?_
    refine zi_iadd d_Pa_stepsTo_41 ?_
    refine zi_istore_n [(2, .int (x2 + q_5.1)), (4, .int q_4.1), (0, .ref a0), (1, .int x1), (3, .int x3)] d_Pa_stepsTo_42 (by decide) rfl ?_
    refine zi_iinc 4 (x3 + 1) [(3, .int (x3 + 1)), (2, .int (x2 + q_5.1)), (4, .int q_4.1), (0, .ref a0), (1, .int x1)] d_Pa_stepsTo_43 rfl rfl (by decide) rfl ?_
    refine zi_goto (tgt := 4) d_Pa_stepsTo_46 rfl ?_
    refine zi_lo [(0, .ref a0), (1, .int x1), (2, .int (x2 + q_5.1)), (3, .int (x3 + 1))] [3, 4, 1, 0] rfl ?_
    exact hr4 a0 x1 (x2 + q_5.1) (x3 + 1) q_5.2 h
theorem K_Pa_stepsTo_b4 (n : Nat) (E : zE) (S : zS) (a0 : Nat) (x1 : Int32) (x2 : Int32) (x3 : Int32) (M : zH) (r : Int32) (M' : zH)  (h : F_Pa_stepsTo_b4 n E S (a0, x1, x2, x3, M) = some (r, M')) : zG E Y_Pa_stepsTo (some (.int r), S, M') 4 [(0, .ref a0), (1, .int x1), (2, .int x2), (3, .int x3)] [] S M 0 0 := by
  have key : ∀ (k : Nat) (a0 : Nat) (x1 : Int32) (x2 : Int32) (x3 : Int32) (M : zH), zfix (fun r4 s => F_Pa_stepsTo_L4 n E S r4 s.1 s.2.1 s.2.2.1 s.2.2.2.1 s.2.2.2.2) k (a0, x1, x2, x3, M) = some (r, M') → zG E Y_Pa_stepsTo (some (.int r), S, M') 4 [(0, .ref a0), (1, .int x1), (2, .int x2), (3, .int x3)] [] S M 0 0 := by
    intro k
    induction k with
    | zero => intro a0 x1 x2 x3 M h; cases h
    | succ k ih => intro a0 x1 x2 x3 M h; exact K_Pa_stepsTo_L4 n E S _ a0 x1 x2 x3 M r M'  (fun a0 x1 x2 x3 M h => ih a0 x1 x2 x3 M h) h
  exact key n a0 x1 x2 x3 M h
theorem K_Pa_stepsTo (n : Nat) (E : zE) (S : zS) (a0 : Nat) (x1 : Int32) (M : zH) (r : Int32) (M' : zH)  (h : F_Pa_stepsTo n E S a0 x1 M = some (r, M')) : zG E Y_Pa_stepsTo (some (.int r), S, M') 0 [(0, .ref a0), (1, .int x1)] [] S M 0 0 := by
  unfold F_Pa_stepsTo at h
  refine zi_iconst 0 d_Pa_stepsTo_0 rfl ?_
  refine zi_istore_n [(2, .int 0), (0, .ref a0), (1, .int x1)] d_Pa_stepsTo_1 (by decide) rfl ?_
  refine zi_iconst 0 d_Pa_stepsTo_2 rfl ?_
  refine zi_istore_n [(3, .int 0), (2, .int 0), (0, .ref a0), (1, .int x1)] d_Pa_stepsTo_3 (by decide) rfl ?_
  refine zi_lo [(0, .ref a0), (1, .int x1), (2, .int 0), (3, .int 0)] [2, 3, 1, 0] rfl ?_
  exact K_Pa_stepsTo_b4 n E S a0 x1 0 0 M r M'  h
theorem C_Pa_stepsTo (n : Nat) (E : zE) (S : zS) (a0 : Nat) (x1 : Int32) (M : zH) (r : Int32) (M' : zH) (h : F_Pa_stepsTo n E S a0 x1 M = some (r, M')) : zC E Y_Pa_stepsTo [.ref a0, .int x1] S M (some (.int r), S, M') :=
  zC.of (Or.inl (show plainName "NightColander$Paper" = true by decide)) (Nat.le_of_ble_eq_true rfl) (trivial) (K_Pa_stepsTo n E S a0 x1 M r M' h)
theorem d_Pa_findTurns_0 : decode (yB Y_Pa_findTurns) 0 = .ok (.aload_n 0, 1) := by decide +kernel
theorem d_Pa_findTurns_1 : decode (yB Y_Pa_findTurns) 1 = .ok (.aload_n 1, 1) := by decide +kernel
theorem d_Pa_findTurns_2 : decode (yB Y_Pa_findTurns) 2 = .ok (.invokevirtual 134, 3) := by decide +kernel
theorem d_Pa_findTurns_5 : decode (yB Y_Pa_findTurns) 5 = .ok (.aload_n 0, 1) := by decide +kernel
theorem d_Pa_findTurns_6 : decode (yB Y_Pa_findTurns) 6 = .ok (.iconst (-1), 1) := by decide +kernel
theorem d_Pa_findTurns_7 : decode (yB Y_Pa_findTurns) 7 = .ok (.putfield 38, 3) := by decide +kernel
theorem d_Pa_findTurns_10 : decode (yB Y_Pa_findTurns) 10 = .ok (.iconst 0, 1) := by decide +kernel
theorem d_Pa_findTurns_11 : decode (yB Y_Pa_findTurns) 11 = .ok (.istore_n 2, 1) := by decide +kernel
theorem d_Pa_findTurns_12 : decode (yB Y_Pa_findTurns) 12 = .ok (.iload_n 2, 1) := by decide +kernel
theorem d_Pa_findTurns_13 : decode (yB Y_Pa_findTurns) 13 = .ok (.sipush 4096, 3) := by decide +kernel
theorem d_Pa_findTurns_16 : decode (yB Y_Pa_findTurns) 16 = .ok (.if_icmp .ge 57, 3) := by decide +kernel
theorem d_Pa_findTurns_19 : decode (yB Y_Pa_findTurns) 19 = .ok (.aload_n 0, 1) := by decide +kernel
theorem d_Pa_findTurns_20 : decode (yB Y_Pa_findTurns) 20 = .ok (.getfield 38, 3) := by decide +kernel
theorem d_Pa_findTurns_23 : decode (yB Y_Pa_findTurns) 23 = .ok (.ifCond .eq 50, 3) := by decide +kernel
theorem d_Pa_findTurns_26 : decode (yB Y_Pa_findTurns) 26 = .ok (.aload_n 0, 1) := by decide +kernel
theorem d_Pa_findTurns_27 : decode (yB Y_Pa_findTurns) 27 = .ok (.aload_n 1, 1) := by decide +kernel
theorem d_Pa_findTurns_28 : decode (yB Y_Pa_findTurns) 28 = .ok (.iload_n 2, 1) := by decide +kernel
theorem d_Pa_findTurns_29 : decode (yB Y_Pa_findTurns) 29 = .ok (.invokevirtual 152, 3) := by decide +kernel
theorem d_Pa_findTurns_32 : decode (yB Y_Pa_findTurns) 32 = .ok (.ifCond .eq 35, 3) := by decide +kernel
theorem d_Pa_findTurns_35 : decode (yB Y_Pa_findTurns) 35 = .ok (.aload_n 1, 1) := by decide +kernel
theorem d_Pa_findTurns_36 : decode (yB Y_Pa_findTurns) 36 = .ok (.iload_n 2, 1) := by decide +kernel
theorem d_Pa_findTurns_37 : decode (yB Y_Pa_findTurns) 37 = .ok (.invokestatic 155, 3) := by decide +kernel
theorem d_Pa_findTurns_40 : decode (yB Y_Pa_findTurns) 40 = .ok (.istore_n 3, 1) := by decide +kernel
theorem d_Pa_findTurns_41 : decode (yB Y_Pa_findTurns) 41 = .ok (.aload_n 0, 1) := by decide +kernel
theorem d_Pa_findTurns_42 : decode (yB Y_Pa_findTurns) 42 = .ok (.getfield 38, 3) := by decide +kernel
theorem d_Pa_findTurns_45 : decode (yB Y_Pa_findTurns) 45 = .ok (.iconst (-1), 1) := by decide +kernel
theorem d_Pa_findTurns_46 : decode (yB Y_Pa_findTurns) 46 = .ok (.if_icmp .eq 11, 3) := by decide +kernel
theorem d_Pa_findTurns_49 : decode (yB Y_Pa_findTurns) 49 = .ok (.iload_n 3, 1) := by decide +kernel
theorem d_Pa_findTurns_50 : decode (yB Y_Pa_findTurns) 50 = .ok (.aload_n 0, 1) := by decide +kernel
theorem d_Pa_findTurns_51 : decode (yB Y_Pa_findTurns) 51 = .ok (.getfield 38, 3) := by decide +kernel
theorem d_Pa_findTurns_54 : decode (yB Y_Pa_findTurns) 54 = .ok (.if_icmp .ge 13, 3) := by decide +kernel
theorem d_Pa_findTurns_57 : decode (yB Y_Pa_findTurns) 57 = .ok (.aload_n 0, 1) := by decide +kernel
theorem d_Pa_findTurns_58 : decode (yB Y_Pa_findTurns) 58 = .ok (.iload_n 3, 1) := by decide +kernel
theorem d_Pa_findTurns_59 : decode (yB Y_Pa_findTurns) 59 = .ok (.putfield 38, 3) := by decide +kernel
theorem d_Pa_findTurns_62 : decode (yB Y_Pa_findTurns) 62 = .ok (.aload_n 0, 1) := by decide +kernel
theorem d_Pa_findTurns_63 : decode (yB Y_Pa_findTurns) 63 = .ok (.iload_n 2, 1) := by decide +kernel
theorem d_Pa_findTurns_64 : decode (yB Y_Pa_findTurns) 64 = .ok (.putfield 42, 3) := by decide +kernel
theorem d_Pa_findTurns_67 : decode (yB Y_Pa_findTurns) 67 = .ok (.iinc 2 1, 3) := by decide +kernel
theorem d_Pa_findTurns_70 : decode (yB Y_Pa_findTurns) 70 = .ok (.goto (-58), 3) := by decide +kernel
theorem d_Pa_findTurns_73 : decode (yB Y_Pa_findTurns) 73 = .ok (.aload_n 0, 1) := by decide +kernel
theorem d_Pa_findTurns_74 : decode (yB Y_Pa_findTurns) 74 = .ok (.getfield 38, 3) := by decide +kernel
theorem d_Pa_findTurns_77 : decode (yB Y_Pa_findTurns) 77 = .ok (.iconst (-1), 1) := by decide +kernel
theorem d_Pa_findTurns_78 : decode (yB Y_Pa_findTurns) 78 = .ok (.if_icmp .eq 7, 3) := by decide +kernel
theorem d_Pa_findTurns_81 : decode (yB Y_Pa_findTurns) 81 = .ok (.iconst 1, 1) := by decide +kernel
theorem d_Pa_findTurns_82 : decode (yB Y_Pa_findTurns) 82 = .ok (.goto 4, 3) := by decide +kernel
theorem d_Pa_findTurns_85 : decode (yB Y_Pa_findTurns) 85 = .ok (.iconst 0, 1) := by decide +kernel
theorem d_Pa_findTurns_86 : decode (yB Y_Pa_findTurns) 86 = .ok (.ireturn, 1) := by decide +kernel
def F_Pa_findTurns_b67 (n : Nat) (E : zE) (S : zS) (r12 : Nat × Nat × Int32 × zH → Option (Bool × zH)) (a0 : Nat) (a1 : Nat) (x2 : Int32) (M : zH) : Option (Bool × zH) :=
  r12 (a0, a1, x2 + 1, M)
def F_Pa_findTurns_b57 (n : Nat) (E : zE) (S : zS) (r12 : Nat × Nat × Int32 × zH → Option (Bool × zH)) (a0 : Nat) (a1 : Nat) (x2 : Int32) (x3 : Int32) (M : zH) : Option (Bool × zH) :=
  (zpI S M a0 4 8 x3).bind fun m_1 =>
  (zpI S m_1 a0 4 9 x2).bind fun m_2 =>
  F_Pa_findTurns_b67 n E S r12 a0 a1 x2 m_2
def F_Pa_findTurns_b73 (n : Nat) (E : zE) (S : zS) (a0 : Nat) (M : zH) : Option (Bool × zH) :=
  (zgI S M a0 4 8).bind fun v_3 =>
  if v_3 = (-1) then
    some (false, M)
  else
    some (true, M)
def F_Pa_findTurns_L12 (n : Nat) (E : zE) (S : zS) (r12 : Nat × Nat × Int32 × zH → Option (Bool × zH)) (a0 : Nat) (a1 : Nat) (x2 : Int32) (M : zH) : Option (Bool × zH) :=
  if 4096 ≤ x2 then
    F_Pa_findTurns_b73 n E S a0 M
  else
    (zgI S M a0 4 8).bind fun v_6 =>
    if v_6 = 0 then
      F_Pa_findTurns_b73 n E S a0 M
    else
      (F_Pa_givesWanted n E S a0 a1 x2 M).bind fun q_8 =>
      if q_8.1 = true then
        (F_Pa_stepsTo n E S a1 x2 q_8.2).bind fun q_10 =>
        (zgI S q_10.2 a0 4 8).bind fun v_11 =>
        if v_11 = (-1) then
          F_Pa_findTurns_b57 n E S r12 a0 a1 x2 q_10.1 q_10.2
        else
          (zgI S q_10.2 a0 4 8).bind fun v_13 =>
          if v_13 ≤ q_10.1 then
            F_Pa_findTurns_b67 n E S r12 a0 a1 x2 q_10.2
          else
            F_Pa_findTurns_b57 n E S r12 a0 a1 x2 q_10.1 q_10.2
      else
        F_Pa_findTurns_b67 n E S r12 a0 a1 x2 q_8.2
def F_Pa_findTurns_b12 (n : Nat) (E : zE) (S : zS) : Nat × Nat × Int32 × zH → Option (Bool × zH) := zfix (fun r12 s => F_Pa_findTurns_L12 n E S r12 s.1 s.2.1 s.2.2.1 s.2.2.2) n
def F_Pa_findTurns (n : Nat) (E : zE) (S : zS) (a0 : Nat) (a1 : Nat) (M : zH) : Option (Bool × zH) :=
  (zck S a0 4).bind fun u_15 =>
  (F_Pa_findShares n E S a0 a1 M).bind fun q_16 =>
  (zpI S q_16 a0 4 8 (-1)).bind fun m_17 =>
  F_Pa_findTurns_b12 n E S (a0, a1, 0, m_17)
theorem K_Pa_findTurns_b67 (n : Nat) (E : zE) (S : zS) (r12 : Nat × Nat × Int32 × zH → Option (Bool × zH)) (a0 : Nat) (a1 : Nat) (x2 : Int32) (M : zH) (r : Bool) (M' : zH) (hr12 : ∀ (a0 : Nat) (a1 : Nat) (x2 : Int32) (M : zH), r12 (a0, a1, x2, M) = some (r, M') → zG E Y_Pa_findTurns (some (.int (bI r)), S, M') 12 [(0, .ref a0), (1, .ref a1), (2, .int x2)] [] S M 0 0) (h : F_Pa_findTurns_b67 n E S r12 a0 a1 x2 M = some (r, M')) : zG E Y_Pa_findTurns (some (.int (bI r)), S, M') 67 [(0, .ref a0), (1, .ref a1), (2, .int x2)] [] S M 0 0 := by
  unfold F_Pa_findTurns_b67 at h
  refine zi_iinc 2 (x2 + 1) [(2, .int (x2 + 1)), (0, .ref a0), (1, .ref a1)] d_Pa_findTurns_67 rfl rfl (by decide) rfl ?_
  refine zi_goto (tgt := 12) d_Pa_findTurns_70 rfl ?_
  refine zi_lo [(0, .ref a0), (1, .ref a1), (2, .int (x2 + 1))] [1, 2, 0] rfl ?_
  exact hr12 a0 a1 (x2 + 1) M h
theorem K_Pa_findTurns_b57 (n : Nat) (E : zE) (S : zS) (r12 : Nat × Nat × Int32 × zH → Option (Bool × zH)) (a0 : Nat) (a1 : Nat) (x2 : Int32) (x3 : Int32) (M : zH) (r : Bool) (M' : zH) (hr12 : ∀ (a0 : Nat) (a1 : Nat) (x2 : Int32) (M : zH), r12 (a0, a1, x2, M) = some (r, M') → zG E Y_Pa_findTurns (some (.int (bI r)), S, M') 12 [(0, .ref a0), (1, .ref a1), (2, .int x2)] [] S M 0 0) (h : F_Pa_findTurns_b57 n E S r12 a0 a1 x2 x3 M = some (r, M')) : zG E Y_Pa_findTurns (some (.int (bI r)), S, M') 57 [(0, .ref a0), (1, .ref a1), (2, .int x2), (3, .int x3)] [] S M 0 0 := by
  unfold F_Pa_findTurns_b57 at h
  refine zi_aload_n 0 d_Pa_findTurns_57 rfl ?_
  refine zi_iload_n 3 d_Pa_findTurns_58 rfl ?_
  obtain ⟨m_1, em_1, h⟩ := zbind h
  refine zo_putI 62 zkd_4 8 d_Pa_findTurns_59 em_1 rfl rfl rfl tw_306 rfl ?_
  refine zi_aload_n 0 d_Pa_findTurns_62 rfl ?_
  refine zi_iload_n 2 d_Pa_findTurns_63 rfl ?_
  obtain ⟨m_2, em_2, h⟩ := zbind h
  refine zo_putI 67 zkd_4 9 d_Pa_findTurns_64 em_2 rfl rfl rfl tw_308 rfl ?_
  refine zi_lo [(0, .ref a0), (1, .ref a1), (2, .int x2)] [0, 1, 2] rfl ?_
  exact K_Pa_findTurns_b67 n E S r12 a0 a1 x2 m_2 r M' hr12 h
theorem K_Pa_findTurns_b73 (n : Nat) (E : zE) (S : zS) (a0 : Nat) (M : zH) (r : Bool) (M' : zH)  (h : F_Pa_findTurns_b73 n E S a0 M = some (r, M')) : zG E Y_Pa_findTurns (some (.int (bI r)), S, M') 73 [(0, .ref a0)] [] S M 0 0 := by
  unfold F_Pa_findTurns_b73 at h
  refine zi_aload_n 0 d_Pa_findTurns_73 rfl ?_
  obtain ⟨v_3, ev_3, h⟩ := zbind h
  refine zo_getI 77 zkd_4 8 d_Pa_findTurns_74 ev_3 rfl tw_306 rfl ?_
  refine zi_iconst (-1) d_Pa_findTurns_77 rfl ?_
  refine zi_icmp_eq (tgt := 85) d_Pa_findTurns_78 rfl (fun c_4 => ?_) (fun c_4 => ?_)
  · rw [if_pos c_4] at h
    refine zi_iconst 0 d_Pa_findTurns_85 rfl ?_
    cases h
    exact zo_retB d_Pa_findTurns_86 (Nat.le_of_ble_eq_true rfl) (Nat.le_of_ble_eq_true rfl) rfl
  · rw [if_neg c_4] at h
    refine zi_iconst 1 d_Pa_findTurns_81 rfl ?_
    refine zi_goto (tgt := 86) d_Pa_findTurns_82 rfl ?_
    cases h
    exact zo_retB d_Pa_findTurns_86 (Nat.le_of_ble_eq_true rfl) (Nat.le_of_ble_eq_true rfl) rfl
theorem K_Pa_findTurns_L12 (n : Nat) (E : zE) (S : zS) (r12 : Nat × Nat × Int32 × zH → Option (Bool × zH)) (a0 : Nat) (a1 : Nat) (x2 : Int32) (M : zH) (r : Bool) (M' : zH) (hr12 : ∀ (a0 : Nat) (a1 : Nat) (x2 : Int32) (M : zH), r12 (a0, a1, x2, M) = some (r, M') → zG E Y_Pa_findTurns (some (.int (bI r)), S, M') 12 [(0, .ref a0), (1, .ref a1), (2, .int x2)] [] S M 0 0) (h : F_Pa_findTurns_L12 n E S r12 a0 a1 x2 M = some (r, M')) : zG E Y_Pa_findTurns (some (.int (bI r)), S, M') 12 [(0, .ref a0), (1, .ref a1), (2, .int x2)] [] S M 0 0 := by
  unfold F_Pa_findTurns_L12 at h
  refine zi_iload_n 2 d_Pa_findTurns_12 rfl ?_
  refine zi_sipush 4096 d_Pa_findTurns_13 rfl ?_
  refine zi_icmp_ge (tgt := 73) d_Pa_findTurns_16 rfl (fun c_5 => ?_) (fun c_5 => ?_)
  · rw [if_pos c_5] at h
    refine zi_lo [(0, .ref a0)] [0] rfl ?_
    exact K_Pa_findTurns_b73 n E S a0 M r M'  h
  · rw [if_neg c_5] at h
    refine zi_aload_n 0 d_Pa_findTurns_19 rfl ?_
    obtain ⟨v_6, ev_6, h⟩ := zbind h
    refine zo_getI 23 zkd_4 8 d_Pa_findTurns_20 ev_6 rfl tw_306 rfl ?_
    refine zi_if_eq (tgt := 73) d_Pa_findTurns_23 rfl (fun c_7 => ?_) (fun c_7 => ?_)
    · rw [if_pos c_7] at h
      refine zi_lo [(0, .ref a0)] [0] rfl ?_
      exact K_Pa_findTurns_b73 n E S a0 M r M'  h
    · rw [if_neg c_7] at h
      refine zi_aload_n 0 d_Pa_findTurns_26 rfl ?_
      refine zi_aload_n 1 d_Pa_findTurns_27 rfl ?_
      refine zi_iload_n 2 d_Pa_findTurns_28 rfl ?_
      obtain ⟨q_8, eq_8, h⟩ := zbind h
      refine zo_virt (k' := 0) (n' := 0) 32 [.ref a1, .int x2] [] [.int (bI q_8.1)] zkd_4 (zgI_s ev_6).1 (C_Pa_givesWanted n E S a0 a1 x2 M q_8.1 q_8.2 eq_8) d_Pa_findTurns_29 tw_1085 tw_1082 tw_1084 ts_34 tw_12 dd_Pa_givesWanted ⟨Nat.le_of_ble_eq_true rfl, Nat.le_of_ble_eq_true rfl, Nat.le_of_ble_eq_true rfl, Nat.le_of_ble_eq_true rfl⟩ (Nat.le_of_ble_eq_true rfl) rfl rfl rfl rfl ?_
      refine zo_ifeqB d_Pa_findTurns_32 rfl 35 rfl (fun c_9 => ?_) (fun c_9 => ?_)
      · rw [if_neg c_9] at h
        refine zi_lo [(0, .ref a0), (1, .ref a1), (2, .int x2)] [0, 1, 2] rfl ?_
        exact K_Pa_findTurns_b67 n E S r12 a0 a1 x2 q_8.2 r M' hr12 h
      · rw [if_pos c_9] at h
        refine zi_aload_n 1 d_Pa_findTurns_35 rfl ?_
        refine zi_iload_n 2 d_Pa_findTurns_36 rfl ?_
        obtain ⟨q_10, eq_10, h⟩ := zbind h
        refine zo_stat (k' := 0) (n' := 0) 40 [.ref a1, .int x2] [] [.int q_10.1] (C_Pa_stepsTo n E S a1 x2 q_8.2 q_10.1 q_10.2 eq_10) d_Pa_findTurns_37 tw_1088 tw_1086 tw_1087 tw_12 dd_Pa_stepsTo ⟨Nat.le_of_ble_eq_true rfl, Nat.le_of_ble_eq_true rfl, Nat.le_of_ble_eq_true rfl, Nat.le_of_ble_eq_true rfl⟩ (Nat.le_of_ble_eq_true rfl) rfl rfl rfl rfl ?_
        refine zi_istore_n [(3, .int q_10.1), (0, .ref a0), (1, .ref a1), (2, .int x2)] d_Pa_findTurns_40 (by decide) rfl ?_
        refine zi_aload_n 1 d_Pa_findTurns_41 rfl ?_
        obtain ⟨v_11, ev_11, h⟩ := zbind h
        refine zo_getI 45 zkd_4 8 d_Pa_findTurns_42 ev_11 rfl tw_306 rfl ?_
        refine zi_iconst (-1) d_Pa_findTurns_45 rfl ?_
        refine zi_icmp_eq (tgt := 57) d_Pa_findTurns_46 rfl (fun c_12 => ?_) (fun c_12 => ?_)
        · rw [if_pos c_12] at h
          refine zi_lo [(0, .ref a0), (1, .ref a1), (2, .int x2), (3, .int q_10.1)] [1, 2, 3, 0] rfl ?_
          exact K_Pa_findTurns_b57 n E S r12 a0 a1 x2 q_10.1 q_10.2 r M' hr12 h
        · rw [if_neg c_12] at h
          refine zi_iload_n 0 d_Pa_findTurns_49 rfl ?_
          refine zi_aload_n 1 d_Pa_findTurns_50 rfl ?_
          obtain ⟨v_13, ev_13, h⟩ := zbind h
          refine zo_getI 54 zkd_4 8 d_Pa_findTurns_51 ev_13 rfl tw_306 rfl ?_
          refine zi_icmp_ge (tgt := 67) d_Pa_findTurns_54 rfl (fun c_14 => ?_) (fun c_14 => ?_)
          · rw [if_pos c_14] at h
            refine zi_lo [(0, .ref a0), (1, .ref a1), (2, .int x2)] [1, 2, 3] rfl ?_
            exact K_Pa_findTurns_b67 n E S r12 a0 a1 x2 q_10.2 r M' hr12 h
          · rw [if_neg c_14] at h
            refine zi_lo [(0, .ref a0), (1, .ref a1), (2, .int x2), (3, .int q_10.1)] [1, 2, 3, 0] rfl ?_
            exact K_Pa_findTurns_b57 n E S r12 a0 a1 x2 q_10.1 q_10.2 r M' hr12 h
theorem K_Pa_findTurns_b12 (n : Nat) (E : zE) (S : zS) (a0 : Nat) (a1 : Nat) (x2 : Int32) (M : zH) (r : Bool) (M' : zH)  (h : F_Pa_findTurns_b12 n E S (a0, a1, x2, M) = some (r, M')) : zG E Y_Pa_findTurns (some (.int (bI r)), S, M') 12 [(0, .ref a0), (1, .ref a1), (2, .int x2)] [] S M 0 0 := by
  have key : ∀ (k : Nat) (a0 : Nat) (a1 : Nat) (x2 : Int32) (M : zH), zfix (fun r12 s => F_Pa_findTurns_L12 n E S r12 s.1 s.2.1 s.2.2.1 s.2.2.2) k (a0, a1, x2, M) = some (r, M') → zG E Y_Pa_findTurns (some (.int (bI r)), S, M') 12 [(0, .ref a0), (1, .ref a1), (2, .int x2)] [] S M 0 0 := by
    intro k
    induction k with
    | zero => intro a0 a1 x2 M h; cases h
    | succ k ih => intro a0 a1 x2 M h; exact K_Pa_findTurns_L12 n E S _ a0 a1 x2 M r M'  (fun a0 a1 x2 M h => ih a0 a1 x2 M h) h
  exact key n a0 a1 x2 M h
theorem K_Pa_findTurns (n : Nat) (E : zE) (S : zS) (a0 : Nat) (a1 : Nat) (M : zH) (r : Bool) (M' : zH)  (h : F_Pa_findTurns n E S a0 a1 M = some (r, M')) : zG E Y_Pa_findTurns (some (.int (bI r)), S, M') 0 [(0, .ref a0), (1, .ref a1)] [] S M 0 0 := by
  unfold F_Pa_findTurns at h
  refine zi_aload_n 0 d_Pa_findTurns_0 rfl ?_
  refine zi_aload_n 1 d_Pa_findTurns_1 rfl ?_
  obtain ⟨u_15, eu_15, h⟩ := zbind h
  obtain ⟨q_16, eq_16, h⟩ := zbind h
  refine zo_virt (k' := 0) (n' := 0) 5 [.ref a1] [] [] zkd_4 (zck_s eu_15) (C_Pa_findShares n E S a0 a1 M q_16 eq_16) d_Pa_findTurns_2 tw_1037 tw_1034 tw_1036 ts_28 tw_12 dd_Pa_findShares ⟨Nat.le_of_ble_eq_true rfl, Nat.le_of_ble_eq_true rfl, Nat.le_of_ble_eq_true rfl, Nat.le_of_ble_eq_true rfl⟩ (Nat.le_of_ble_eq_true rfl) rfl rfl rfl rfl ?_
  refine zi_aload_n 0 d_Pa_findTurns_5 rfl ?_
  refine zi_iconst (-1) d_Pa_findTurns_6 rfl ?_
  obtain ⟨m_17, em_17, h⟩ := zbind h
  refine zo_putI 10 zkd_4 8 d_Pa_findTurns_7 em_17 rfl rfl rfl tw_306 rfl ?_
  refine zi_iconst 0 d_Pa_findTurns_10 rfl ?_
  refine zi_istore_n [(2, .int 0), (0, .ref a0), (1, .ref a1)] d_Pa_findTurns_11 (by decide) rfl ?_
  refine zi_lo [(0, .ref a0), (1, .ref a1), (2, .int 0)] [1, 2, 0] rfl ?_
  exact K_Pa_findTurns_b12 n E S a0 a1 0 m_17 r M'  h
theorem C_Pa_findTurns (n : Nat) (E : zE) (S : zS) (a0 : Nat) (a1 : Nat) (M : zH) (r : Bool) (M' : zH) (h : F_Pa_findTurns n E S a0 a1 M = some (r, M')) : zC E Y_Pa_findTurns [.ref a0, .ref a1] S M (some (.int (bI r)), S, M') :=
  zC.of (Or.inl (show plainName "NightColander$Paper" = true by decide)) (Nat.le_of_ble_eq_true rfl) (bI_nar r) (K_Pa_findTurns n E S a0 a1 M r M' h)
theorem d_NC_turned_0 : decode (yB Y_NC_turned) 0 = .ok (.iload_n 1, 1) := by decide +kernel
theorem d_NC_turned_1 : decode (yB Y_NC_turned) 1 = .ok (.iconst (-1), 1) := by decide +kernel
theorem d_NC_turned_2 : decode (yB Y_NC_turned) 2 = .ok (.iconst 3, 1) := by decide +kernel
theorem d_NC_turned_3 : decode (yB Y_NC_turned) 3 = .ok (.invokestatic 132, 3) := by decide +kernel
theorem d_NC_turned_6 : decode (yB Y_NC_turned) 6 = .ok (.ifCond .eq 17, 3) := by decide +kernel
theorem d_NC_turned_9 : decode (yB Y_NC_turned) 9 = .ok (.aload_n 0, 1) := by decide +kernel
theorem d_NC_turned_10 : decode (yB Y_NC_turned) 10 = .ok (.getfield 86, 3) := by decide +kernel
theorem d_NC_turned_13 : decode (yB Y_NC_turned) 13 = .ok (.aload_n 0, 1) := by decide +kernel
theorem d_NC_turned_14 : decode (yB Y_NC_turned) 14 = .ok (.getfield 12, 3) := by decide +kernel
theorem d_NC_turned_17 : decode (yB Y_NC_turned) 17 = .ok (.invokevirtual 289, 3) := by decide +kernel
theorem d_NC_turned_20 : decode (yB Y_NC_turned) 20 = .ok (.ifCond .ne 5, 3) := by decide +kernel
theorem d_NC_turned_23 : decode (yB Y_NC_turned) 23 = .ok (.iconst (-1), 1) := by decide +kernel
theorem d_NC_turned_24 : decode (yB Y_NC_turned) 24 = .ok (.ireturn, 1) := by decide +kernel
theorem d_NC_turned_25 : decode (yB Y_NC_turned) 25 = .ok (.iload_n 1, 1) := by decide +kernel
theorem d_NC_turned_26 : decode (yB Y_NC_turned) 26 = .ok (.iconst (-1), 1) := by decide +kernel
theorem d_NC_turned_27 : decode (yB Y_NC_turned) 27 = .ok (.if_icmp .ne 13, 3) := by decide +kernel
theorem d_NC_turned_30 : decode (yB Y_NC_turned) 30 = .ok (.aload_n 0, 1) := by decide +kernel
theorem d_NC_turned_31 : decode (yB Y_NC_turned) 31 = .ok (.getfield 86, 3) := by decide +kernel
theorem d_NC_turned_34 : decode (yB Y_NC_turned) 34 = .ok (.getfield 267, 3) := by decide +kernel
theorem d_NC_turned_37 : decode (yB Y_NC_turned) 37 = .ok (.goto 13, 3) := by decide +kernel
theorem d_NC_turned_40 : decode (yB Y_NC_turned) 40 = .ok (.aload_n 0, 1) := by decide +kernel
theorem d_NC_turned_41 : decode (yB Y_NC_turned) 41 = .ok (.getfield 86, 3) := by decide +kernel
theorem d_NC_turned_44 : decode (yB Y_NC_turned) 44 = .ok (.iconst 3, 1) := by decide +kernel
theorem d_NC_turned_45 : decode (yB Y_NC_turned) 45 = .ok (.iload_n 1, 1) := by decide +kernel
theorem d_NC_turned_46 : decode (yB Y_NC_turned) 46 = .ok (.isub, 1) := by decide +kernel
theorem d_NC_turned_47 : decode (yB Y_NC_turned) 47 = .ok (.invokevirtual 270, 3) := by decide +kernel
theorem d_NC_turned_50 : decode (yB Y_NC_turned) 50 = .ok (.ireturn, 1) := by decide +kernel
def F_NC_turned (n : Nat) (E : zE) (S : zS) (a0 : Nat) (x1 : Int32) (M : zH) : Option (Int32 × zH) :=
  (F_NC_within n E S x1 (-1) 3 M).bind fun q_1 =>
  if q_1.1 = true then
    (zgR S a0 10 12).bind fun b_3 =>
    (zgR S a0 10 0).bind fun b_4 =>
    (zck S b_3 4).bind fun u_5 =>
    (F_Pa_findTurns n E S b_3 b_4 q_1.2).bind fun q_6 =>
    if q_6.1 = true then
      if x1 = (-1) then
        (zgI S q_6.2 b_3 4 8).bind fun v_9 =>
        some (v_9, q_6.2)
      else
        (F_Pa_digitOfChoice n E S b_3 (3 - x1) q_6.2).bind fun q_10 =>
        some (q_10.1, q_10.2)
    else
      some ((-1), q_6.2)
  else
    some ((-1), q_1.2)
theorem K_NC_turned (n : Nat) (E : zE) (S : zS) (a0 : Nat) (x1 : Int32) (M : zH) (r : Int32) (M' : zH)  (h : F_NC_turned n E S a0 x1 M = some (r, M')) : zG E Y_NC_turned (some (.int r), S, M') 0 [(0, .ref a0), (1, .int x1)] [] S M 0 0 := by
  unfold F_NC_turned at h
  refine zi_iload_n 1 d_NC_turned_0 rfl ?_
  refine zi_iconst (-1) d_NC_turned_1 rfl ?_
  refine zi_iconst 3 d_NC_turned_2 rfl ?_
  obtain ⟨q_1, eq_1, h⟩ := zbind h
  refine zo_stat (k' := 0) (n' := 0) 6 [.int x1, .int (-1), .int 3] [] [.int (bI q_1.1)] (C_NC_within n E S x1 (-1) 3 M q_1.1 q_1.2 eq_1) d_NC_turned_3 tw_399 tw_397 tw_398 tw_1 dd_NC_within ⟨Nat.le_of_ble_eq_true rfl, Nat.le_of_ble_eq_true rfl, Nat.le_of_ble_eq_true rfl, Nat.le_of_ble_eq_true rfl⟩ (Nat.le_of_ble_eq_true rfl) rfl rfl rfl rfl ?_
  refine zo_ifeqB d_NC_turned_6 rfl 9 rfl (fun c_2 => ?_) (fun c_2 => ?_)
  · rw [if_neg c_2] at h
    refine zi_iconst (-1) d_NC_turned_23 rfl ?_
    cases h
    exact zo_ret d_NC_turned_24 (Nat.le_of_ble_eq_true rfl) (Nat.le_of_ble_eq_true rfl) rfl
  · rw [if_pos c_2] at h
    refine zi_aload_n 0 d_NC_turned_9 rfl ?_
    obtain ⟨b_3, eb_3, h⟩ := zbind h
    refine zo_getR 13 zkd_10 12 d_NC_turned_10 eb_3 rfl tw_344 rfl ?_
    refine zi_aload_n 0 d_NC_turned_13 rfl ?_
    obtain ⟨b_4, eb_4, h⟩ := zbind h
    refine zo_getR 17 zkd_10 0 d_NC_turned_14 eb_4 rfl tw_332 rfl ?_
    obtain ⟨u_5, eu_5, h⟩ := zbind h
    obtain ⟨q_6, eq_6, h⟩ := zbind h
    refine zo_virt (k' := 0) (n' := 0) 20 [.ref b_4] [] [.int (bI q_6.1)] zkd_4 (zck_s eu_5) (C_Pa_findTurns n E S b_3 b_4 q_1.2 q_6.1 q_6.2 eq_6) d_NC_turned_17 tw_1081 tw_1078 tw_1079 tw_1080 tw_12 dd_Pa_findTurns ⟨Nat.le_of_ble_eq_true rfl, Nat.le_of_ble_eq_true rfl, Nat.le_of_ble_eq_true rfl, Nat.le_of_ble_eq_true rfl⟩ (Nat.le_of_ble_eq_true rfl) rfl rfl rfl rfl ?_
    refine zo_ifneB d_NC_turned_20 rfl 23 rfl (fun c_7 => ?_) (fun c_7 => ?_)
    · rw [if_pos c_7] at h
      refine zi_iload_n 1 d_NC_turned_25 rfl ?_
      refine zi_iconst (-1) d_NC_turned_26 rfl ?_
      refine zi_icmp_ne (tgt := 40) d_NC_turned_27 rfl (fun c_8 => ?_) (fun c_8 => ?_)
      · rw [if_neg c_8] at h
        refine zi_aload_n 0 d_NC_turned_40 rfl ?_
        refine zo_getR 44 zkd_10 12 d_NC_turned_41 eb_3 rfl tw_344 rfl ?_
        refine zi_iconst 3 d_NC_turned_44 rfl ?_
        refine zi_iload_n 1 d_NC_turned_45 rfl ?_
        refine zi_isub d_NC_turned_46 ?_
        obtain ⟨q_10, eq_10, h⟩ := zbind h
        refine zo_virt (k' := 0) (n' := 0) 50 [.int (3 - x1)] [] [.int q_10.1] zkd_4 (zck_s eu_5) (C_Pa_digitOfChoice n E S b_3 (3 - x1) q_6.2 q_10.1 q_10.2 eq_10) d_NC_turned_47 tw_1012 tw_1009 tw_1010 tw_1011 tw_12 dd_Pa_digitOfChoice ⟨Nat.le_of_ble_eq_true rfl, Nat.le_of_ble_eq_true rfl, Nat.le_of_ble_eq_true rfl, Nat.le_of_ble_eq_true rfl⟩ (Nat.le_of_ble_eq_true rfl) rfl rfl rfl rfl ?_
        cases h
        exact zo_ret d_NC_turned_50 (Nat.le_of_ble_eq_true rfl) (Nat.le_of_ble_eq_true rfl) rfl
      · rw [if_pos c_8] at h
        refine zi_aload_n 0 d_NC_turned_30 rfl ?_
        refine zo_getR 34 zkd_10 12 d_NC_turned_31 eb_3 rfl tw_344 rfl ?_
        obtain ⟨v_9, ev_9, h⟩ := zbind h
        refine zo_getI 37 zkd_4 8 d_NC_turned_34 ev_9 rfl tw_307 rfl ?_
        refine zi_goto (tgt := 50) d_NC_turned_37 rfl ?_
        cases h
        exact zo_ret d_NC_turned_50 (Nat.le_of_ble_eq_true rfl) (Nat.le_of_ble_eq_true rfl) rfl
    · rw [if_neg c_7] at h
      refine zi_iconst (-1) d_NC_turned_23 rfl ?_
      cases h
      exact zo_ret d_NC_turned_24 (Nat.le_of_ble_eq_true rfl) (Nat.le_of_ble_eq_true rfl) rfl
theorem C_NC_turned (n : Nat) (E : zE) (S : zS) (a0 : Nat) (x1 : Int32) (M : zH) (r : Int32) (M' : zH) (h : F_NC_turned n E S a0 x1 M = some (r, M')) : zC E Y_NC_turned [.ref a0, .int x1] S M (some (.int r), S, M') :=
  zC.of (Or.inl (show plainName "NightColander" = true by decide)) (Nat.le_of_ble_eq_true rfl) (trivial) (K_NC_turned n E S a0 x1 M r M' h)
theorem d_Pa_sharesOf_0 : decode (yB Y_Pa_sharesOf) 0 = .ok (.iconst 0, 1) := by decide +kernel
theorem d_Pa_sharesOf_1 : decode (yB Y_Pa_sharesOf) 1 = .ok (.istore_n 2, 1) := by decide +kernel
theorem d_Pa_sharesOf_2 : decode (yB Y_Pa_sharesOf) 2 = .ok (.iconst 0, 1) := by decide +kernel
theorem d_Pa_sharesOf_3 : decode (yB Y_Pa_sharesOf) 3 = .ok (.istore_n 3, 1) := by decide +kernel
theorem d_Pa_sharesOf_4 : decode (yB Y_Pa_sharesOf) 4 = .ok (.iload_n 3, 1) := by decide +kernel
theorem d_Pa_sharesOf_5 : decode (yB Y_Pa_sharesOf) 5 = .ok (.iconst 4, 1) := by decide +kernel
theorem d_Pa_sharesOf_6 : decode (yB Y_Pa_sharesOf) 6 = .ok (.if_icmp .ge 30, 3) := by decide +kernel
theorem d_Pa_sharesOf_9 : decode (yB Y_Pa_sharesOf) 9 = .ok (.iload_n 2, 1) := by decide +kernel
theorem d_Pa_sharesOf_10 : decode (yB Y_Pa_sharesOf) 10 = .ok (.iload_n 1, 1) := by decide +kernel
theorem d_Pa_sharesOf_11 : decode (yB Y_Pa_sharesOf) 11 = .ok (.iconst 1, 1) := by decide +kernel
theorem d_Pa_sharesOf_12 : decode (yB Y_Pa_sharesOf) 12 = .ok (.iload_n 3, 1) := by decide +kernel
theorem d_Pa_sharesOf_13 : decode (yB Y_Pa_sharesOf) 13 = .ok (.ishl, 1) := by decide +kernel
theorem d_Pa_sharesOf_14 : decode (yB Y_Pa_sharesOf) 14 = .ok (.iand, 1) := by decide +kernel
theorem d_Pa_sharesOf_15 : decode (yB Y_Pa_sharesOf) 15 = .ok (.ifCond .eq 12, 3) := by decide +kernel
theorem d_Pa_sharesOf_18 : decode (yB Y_Pa_sharesOf) 18 = .ok (.aload_n 0, 1) := by decide +kernel
theorem d_Pa_sharesOf_19 : decode (yB Y_Pa_sharesOf) 19 = .ok (.getfield 18, 3) := by decide +kernel
theorem d_Pa_sharesOf_22 : decode (yB Y_Pa_sharesOf) 22 = .ok (.iload_n 3, 1) := by decide +kernel
theorem d_Pa_sharesOf_23 : decode (yB Y_Pa_sharesOf) 23 = .ok (.iaload, 1) := by decide +kernel
theorem d_Pa_sharesOf_24 : decode (yB Y_Pa_sharesOf) 24 = .ok (.goto 4, 3) := by decide +kernel
theorem d_Pa_sharesOf_27 : decode (yB Y_Pa_sharesOf) 27 = .ok (.iconst 0, 1) := by decide +kernel
theorem d_Pa_sharesOf_28 : decode (yB Y_Pa_sharesOf) 28 = .ok (.iadd, 1) := by decide +kernel
theorem d_Pa_sharesOf_29 : decode (yB Y_Pa_sharesOf) 29 = .ok (.istore_n 2, 1) := by decide +kernel
theorem d_Pa_sharesOf_30 : decode (yB Y_Pa_sharesOf) 30 = .ok (.iinc 3 1, 3) := by decide +kernel
theorem d_Pa_sharesOf_33 : decode (yB Y_Pa_sharesOf) 33 = .ok (.goto (-29), 3) := by decide +kernel
theorem d_Pa_sharesOf_36 : decode (yB Y_Pa_sharesOf) 36 = .ok (.iload_n 2, 1) := by decide +kernel
theorem d_Pa_sharesOf_37 : decode (yB Y_Pa_sharesOf) 37 = .ok (.ireturn, 1) := by decide +kernel
def F_Pa_sharesOf_b28 (n : Nat) (E : zE) (S : zS) (r4 : Nat × Int32 × Int32 × Int32 × zH → Option (Int32 × zH)) (a0 : Nat) (x1 : Int32) (x3 : Int32) (s0 : Int32) (s1 : Int32) (M : zH) : Option (Int32 × zH) :=
  r4 (a0, x1, s1 + s0, x3 + 1, M)
def F_Pa_sharesOf_L4 (n : Nat) (E : zE) (S : zS) (r4 : Nat × Int32 × Int32 × Int32 × zH → Option (Int32 × zH)) (a0 : Nat) (x1 : Int32) (x2 : Int32) (x3 : Int32) (M : zH) : Option (Int32 × zH) :=
  if 4 ≤ x3 then
    some (x2, M)
  else
    if (x1 &&& ((1 : Int32) <<< (x3 &&& (31 : Int32)))) = 0 then
      F_Pa_sharesOf_b28 n E S r4 a0 x1 x3 0 x2 M
    else
      (zgR S a0 4 2).bind fun b_3 =>
      (zldI S M b_3 x3).bind fun v_4 =>
      F_Pa_sharesOf_b28 n E S r4 a0 x1 x3 v_4 x2 M
def F_Pa_sharesOf_b4 (n : Nat) (E : zE) (S : zS) : Nat × Int32 × Int32 × Int32 × zH → Option (Int32 × zH) := zfix (fun r4 s => F_Pa_sharesOf_L4 n E S r4 s.1 s.2.1 s.2.2.1 s.2.2.2.1 s.2.2.2.2) n
def F_Pa_sharesOf (n : Nat) (E : zE) (S : zS) (a0 : Nat) (x1 : Int32) (M : zH) : Option (Int32 × zH) :=
  F_Pa_sharesOf_b4 n E S (a0, x1, 0, 0, M)
theorem K_Pa_sharesOf_b28 (n : Nat) (E : zE) (S : zS) (r4 : Nat × Int32 × Int32 × Int32 × zH → Option (Int32 × zH)) (a0 : Nat) (x1 : Int32) (x3 : Int32) (s0 : Int32) (s1 : Int32) (M : zH) (r : Int32) (M' : zH) (hr4 : ∀ (a0 : Nat) (x1 : Int32) (x2 : Int32) (x3 : Int32) (M : zH), r4 (a0, x1, x2, x3, M) = some (r, M') → zG E Y_Pa_sharesOf (some (.int r), S, M') 4 [(0, .ref a0), (1, .int x1), (2, .int x2), (3, .int x3)] [] S M 0 0) (h : F_Pa_sharesOf_b28 n E S r4 a0 x1 x3 s0 s1 M = some (r, M')) : zG E Y_Pa_sharesOf (some (.int r), S, M') 28 [(0, .ref a0), (1, .int x1), (3, .int x3)] [.int s0, .int s1] S M 0 0 := by
  unfold F_Pa_sharesOf_b28 at h
  refine zi_iadd d_Pa_sharesOf_28 ?_
  refine zi_istore_n [(2, .int (s1 + s0)), (0, .ref a0), (1, .int x1), (3, .int x3)] d_Pa_sharesOf_29 (by decide) rfl ?_
  refine zi_iinc 3 (x3 + 1) [(3, .int (x3 + 1)), (2, .int (s1 + s0)), (0, .ref a0), (1, .int x1)] d_Pa_sharesOf_30 rfl rfl (by decide) rfl ?_
  refine zi_goto (tgt := 4) d_Pa_sharesOf_33 rfl ?_
  refine zi_lo [(0, .ref a0), (1, .int x1), (2, .int (s1 + s0)), (3, .int (x3 + 1))] [2, 3, 1, 0] rfl ?_
  exact hr4 a0 x1 (s1 + s0) (x3 + 1) M h
theorem K_Pa_sharesOf_L4 (n : Nat) (E : zE) (S : zS) (r4 : Nat × Int32 × Int32 × Int32 × zH → Option (Int32 × zH)) (a0 : Nat) (x1 : Int32) (x2 : Int32) (x3 : Int32) (M : zH) (r : Int32) (M' : zH) (hr4 : ∀ (a0 : Nat) (x1 : Int32) (x2 : Int32) (x3 : Int32) (M : zH), r4 (a0, x1, x2, x3, M) = some (r, M') → zG E Y_Pa_sharesOf (some (.int r), S, M') 4 [(0, .ref a0), (1, .int x1), (2, .int x2), (3, .int x3)] [] S M 0 0) (h : F_Pa_sharesOf_L4 n E S r4 a0 x1 x2 x3 M = some (r, M')) : zG E Y_Pa_sharesOf (some (.int r), S, M') 4 [(0, .ref a0), (1, .int x1), (2, .int x2), (3, .int x3)] [] S M 0 0 := by
  unfold F_Pa_sharesOf_L4 at h
  refine zi_iload_n 3 d_Pa_sharesOf_4 rfl ?_
  refine zi_iconst 4 d_Pa_sharesOf_5 rfl ?_
  refine zi_icmp_ge (tgt := 36) d_Pa_sharesOf_6 rfl (fun c_1 => ?_) (fun c_1 => ?_)
  · rw [if_pos c_1] at h
    refine zi_iload_n 2 d_Pa_sharesOf_36 rfl ?_
    cases h
    exact zo_ret d_Pa_sharesOf_37 (Nat.le_of_ble_eq_true rfl) (Nat.le_of_ble_eq_true rfl) rfl
  · rw [if_neg c_1] at h
    refine zi_iload_n 2 d_Pa_sharesOf_9 rfl ?_
    refine zi_iload_n 1 d_Pa_sharesOf_10 rfl ?_
    refine zi_iconst 1 d_Pa_sharesOf_11 rfl ?_
    refine zi_iload_n 3 d_Pa_sharesOf_12 rfl ?_
    refine zi_ishl d_Pa_sharesOf_13 ?_
    refine zi_iand d_Pa_sharesOf_14 ?_
    refine zi_if_eq (tgt := 27) d_Pa_sharesOf_15 rfl (fun c_2 => ?_) (fun c_2 => ?_)
    · rw [if_pos c_2] at h
      refine zi_iconst 0 d_Pa_sharesOf_27 rfl ?_
      refine zi_lo [(0, .ref a0), (1, .int x1), (3, .int x3)] [0, 1, 3] rfl ?_
      exact K_Pa_sharesOf_b28 n E S r4 a0 x1 x3 0 x2 M r M' hr4 h
    · rw [if_neg c_2] at h
      refine zi_aload_n 0 d_Pa_sharesOf_18 rfl ?_
      obtain ⟨b_3, eb_3, h⟩ := zbind h
      refine zo_getR 22 zkd_4 2 d_Pa_sharesOf_19 eb_3 rfl tw_300 rfl ?_
      refine zi_iload_n 3 d_Pa_sharesOf_22 rfl ?_
      obtain ⟨v_4, ev_4, h⟩ := zbind h
      refine zo_iald 24 d_Pa_sharesOf_23 ev_4 rfl ?_
      refine zi_goto (tgt := 28) d_Pa_sharesOf_24 rfl ?_
      refine zi_lo [(0, .ref a0), (1, .int x1), (3, .int x3)] [0, 1, 3] rfl ?_
      exact K_Pa_sharesOf_b28 n E S r4 a0 x1 x3 v_4 x2 M r M' hr4 h
theorem K_Pa_sharesOf_b4 (n : Nat) (E : zE) (S : zS) (a0 : Nat) (x1 : Int32) (x2 : Int32) (x3 : Int32) (M : zH) (r : Int32) (M' : zH)  (h : F_Pa_sharesOf_b4 n E S (a0, x1, x2, x3, M) = some (r, M')) : zG E Y_Pa_sharesOf (some (.int r), S, M') 4 [(0, .ref a0), (1, .int x1), (2, .int x2), (3, .int x3)] [] S M 0 0 := by
  have key : ∀ (k : Nat) (a0 : Nat) (x1 : Int32) (x2 : Int32) (x3 : Int32) (M : zH), zfix (fun r4 s => F_Pa_sharesOf_L4 n E S r4 s.1 s.2.1 s.2.2.1 s.2.2.2.1 s.2.2.2.2) k (a0, x1, x2, x3, M) = some (r, M') → zG E Y_Pa_sharesOf (some (.int r), S, M') 4 [(0, .ref a0), (1, .int x1), (2, .int x2), (3, .int x3)] [] S M 0 0 := by
    intro k
    induction k with
    | zero => intro a0 x1 x2 x3 M h; cases h
    | succ k ih => intro a0 x1 x2 x3 M h; exact K_Pa_sharesOf_L4 n E S _ a0 x1 x2 x3 M r M'  (fun a0 x1 x2 x3 M h => ih a0 x1 x2 x3 M h) h
  exact key n a0 x1 x2 x3 M h
theorem K_Pa_sharesOf (n : Nat) (E : zE) (S : zS) (a0 : Nat) (x1 : Int32) (M : zH) (r : Int32) (M' : zH)  (h : F_Pa_sharesOf n E S a0 x1 M = some (r, M')) : zG E Y_Pa_sharesOf (some (.int r), S, M') 0 [(0, .ref a0), (1, .int x1)] [] S M 0 0 := by
  unfold F_Pa_sharesOf at h
  refine zi_iconst 0 d_Pa_sharesOf_0 rfl ?_
  refine zi_istore_n [(2, .int 0), (0, .ref a0), (1, .int x1)] d_Pa_sharesOf_1 (by decide) rfl ?_
  refine zi_iconst 0 d_Pa_sharesOf_2 rfl ?_
  refine zi_istore_n [(3, .int 0), (2, .int 0), (0, .ref a0), (1, .int x1)] d_Pa_sharesOf_3 (by decide) rfl ?_
  refine zi_lo [(0, .ref a0), (1, .int x1), (2, .int 0), (3, .int 0)] [2, 3, 1, 0] rfl ?_
  exact K_Pa_sharesOf_b4 n E S a0 x1 0 0 M r M'  h
theorem C_Pa_sharesOf (n : Nat) (E : zE) (S : zS) (a0 : Nat) (x1 : Int32) (M : zH) (r : Int32) (M' : zH) (h : F_Pa_sharesOf n E S a0 x1 M = some (r, M')) : zC E Y_Pa_sharesOf [.ref a0, .int x1] S M (some (.int r), S, M') :=
  zC.of (Or.inl (show plainName "NightColander$Paper" = true by decide)) (Nat.le_of_ble_eq_true rfl) (trivial) (K_Pa_sharesOf n E S a0 x1 M r M' h)
theorem d_Ji_bitCount_0 : decode (yB Y_Ji_bitCount) 0 = .ok (.iload_n 0, 1) := by decide +kernel
theorem d_Ji_bitCount_1 : decode (yB Y_Ji_bitCount) 1 = .ok (.iload_n 0, 1) := by decide +kernel
theorem d_Ji_bitCount_2 : decode (yB Y_Ji_bitCount) 2 = .ok (.iconst 1, 1) := by decide +kernel
theorem d_Ji_bitCount_3 : decode (yB Y_Ji_bitCount) 3 = .ok (.iushr, 1) := by decide +kernel
theorem d_Ji_bitCount_4 : decode (yB Y_Ji_bitCount) 4 = .ok (.ldc_w 265, 3) := by decide +kernel
theorem d_Ji_bitCount_7 : decode (yB Y_Ji_bitCount) 7 = .ok (.iand, 1) := by decide +kernel
theorem d_Ji_bitCount_8 : decode (yB Y_Ji_bitCount) 8 = .ok (.isub, 1) := by decide +kernel
theorem d_Ji_bitCount_9 : decode (yB Y_Ji_bitCount) 9 = .ok (.istore_n 0, 1) := by decide +kernel
theorem d_Ji_bitCount_10 : decode (yB Y_Ji_bitCount) 10 = .ok (.iload_n 0, 1) := by decide +kernel
theorem d_Ji_bitCount_11 : decode (yB Y_Ji_bitCount) 11 = .ok (.ldc_w 266, 3) := by decide +kernel
theorem d_Ji_bitCount_14 : decode (yB Y_Ji_bitCount) 14 = .ok (.iand, 1) := by decide +kernel
theorem d_Ji_bitCount_15 : decode (yB Y_Ji_bitCount) 15 = .ok (.iload_n 0, 1) := by decide +kernel
theorem d_Ji_bitCount_16 : decode (yB Y_Ji_bitCount) 16 = .ok (.iconst 2, 1) := by decide +kernel
theorem d_Ji_bitCount_17 : decode (yB Y_Ji_bitCount) 17 = .ok (.iushr, 1) := by decide +kernel
theorem d_Ji_bitCount_18 : decode (yB Y_Ji_bitCount) 18 = .ok (.ldc_w 266, 3) := by decide +kernel
theorem d_Ji_bitCount_21 : decode (yB Y_Ji_bitCount) 21 = .ok (.iand, 1) := by decide +kernel
theorem d_Ji_bitCount_22 : decode (yB Y_Ji_bitCount) 22 = .ok (.iadd, 1) := by decide +kernel
theorem d_Ji_bitCount_23 : decode (yB Y_Ji_bitCount) 23 = .ok (.istore_n 0, 1) := by decide +kernel
theorem d_Ji_bitCount_24 : decode (yB Y_Ji_bitCount) 24 = .ok (.iload_n 0, 1) := by decide +kernel
theorem d_Ji_bitCount_25 : decode (yB Y_Ji_bitCount) 25 = .ok (.iload_n 0, 1) := by decide +kernel
theorem d_Ji_bitCount_26 : decode (yB Y_Ji_bitCount) 26 = .ok (.iconst 4, 1) := by decide +kernel
theorem d_Ji_bitCount_27 : decode (yB Y_Ji_bitCount) 27 = .ok (.iushr, 1) := by decide +kernel
theorem d_Ji_bitCount_28 : decode (yB Y_Ji_bitCount) 28 = .ok (.iadd, 1) := by decide +kernel
theorem d_Ji_bitCount_29 : decode (yB Y_Ji_bitCount) 29 = .ok (.ldc_w 267, 3) := by decide +kernel
theorem d_Ji_bitCount_32 : decode (yB Y_Ji_bitCount) 32 = .ok (.iand, 1) := by decide +kernel
theorem d_Ji_bitCount_33 : decode (yB Y_Ji_bitCount) 33 = .ok (.istore_n 0, 1) := by decide +kernel
theorem d_Ji_bitCount_34 : decode (yB Y_Ji_bitCount) 34 = .ok (.iload_n 0, 1) := by decide +kernel
theorem d_Ji_bitCount_35 : decode (yB Y_Ji_bitCount) 35 = .ok (.iload_n 0, 1) := by decide +kernel
theorem d_Ji_bitCount_36 : decode (yB Y_Ji_bitCount) 36 = .ok (.bipush 8, 2) := by decide +kernel
theorem d_Ji_bitCount_38 : decode (yB Y_Ji_bitCount) 38 = .ok (.iushr, 1) := by decide +kernel
theorem d_Ji_bitCount_39 : decode (yB Y_Ji_bitCount) 39 = .ok (.iadd, 1) := by decide +kernel
theorem d_Ji_bitCount_40 : decode (yB Y_Ji_bitCount) 40 = .ok (.istore_n 0, 1) := by decide +kernel
theorem d_Ji_bitCount_41 : decode (yB Y_Ji_bitCount) 41 = .ok (.iload_n 0, 1) := by decide +kernel
theorem d_Ji_bitCount_42 : decode (yB Y_Ji_bitCount) 42 = .ok (.iload_n 0, 1) := by decide +kernel
theorem d_Ji_bitCount_43 : decode (yB Y_Ji_bitCount) 43 = .ok (.bipush 16, 2) := by decide +kernel
theorem d_Ji_bitCount_45 : decode (yB Y_Ji_bitCount) 45 = .ok (.iushr, 1) := by decide +kernel
theorem d_Ji_bitCount_46 : decode (yB Y_Ji_bitCount) 46 = .ok (.iadd, 1) := by decide +kernel
theorem d_Ji_bitCount_47 : decode (yB Y_Ji_bitCount) 47 = .ok (.istore_n 0, 1) := by decide +kernel
theorem d_Ji_bitCount_48 : decode (yB Y_Ji_bitCount) 48 = .ok (.iload_n 0, 1) := by decide +kernel
theorem d_Ji_bitCount_49 : decode (yB Y_Ji_bitCount) 49 = .ok (.bipush 63, 2) := by decide +kernel
theorem d_Ji_bitCount_51 : decode (yB Y_Ji_bitCount) 51 = .ok (.iand, 1) := by decide +kernel
theorem d_Ji_bitCount_52 : decode (yB Y_Ji_bitCount) 52 = .ok (.ireturn, 1) := by decide +kernel
def F_Ji_bitCount (n : Nat) (E : zE) (S : zS) (x0 : Int32) (M : zH) : Option (Int32 × zH) :=
  some ((((((((x0 - (((x0.toUInt32 >>> ((1 : Int32).toUInt32 &&& Int32.toUInt32 31)).toInt32) &&& (1431655765 : Int32))) &&& (858993459 : Int32)) + ((((x0 - (((x0.toUInt32 >>> ((1 : Int32).toUInt32 &&& Int32.toUInt32 31)).toInt32) &&& (1431655765 : Int32))).toUInt32 >>> ((2 : Int32).toUInt32 &&& Int32.toUInt32 31)).toInt32) &&& (858993459 : Int32))) + (((((x0 - (((x0.toUInt32 >>> ((1 : Int32).toUInt32 &&& Int32.toUInt32 31)).toInt32) &&& (1431655765 : Int32))) &&& (858993459 : Int32)) + ((((x0 - (((x0.toUInt32 >>> ((1 : Int32).toUInt32 &&& Int32.toUInt32 31)).toInt32) &&& (1431655765 : Int32))).toUInt32 >>> ((2 : Int32).toUInt32 &&& Int32.toUInt32 31)).toInt32) &&& (858993459 : Int32))).toUInt32 >>> ((4 : Int32).toUInt32 &&& Int32.toUInt32 31)).toInt32)) &&& (252645135 : Int32)) + (((((((x0 - (((x0.toUInt32 >>> ((1 : Int32).toUInt32 &&& Int32.toUInt32 31)).toInt32) &&& (1431655765 : Int32))) &&& (858993459 : Int32)) + ((((x0 - (((x0.toUInt32 >>> ((1 : Int32).toUInt32 &&& Int32.toUInt32 31)).toInt32) &&& (1431655765 : Int32))).toUInt32 >>> ((2 : Int32).toUInt32 &&& Int32.toUInt32 31)).toInt32) &&& (858993459 : Int32))) + (((((x0 - (((x0.toUInt32 >>> ((1 : Int32).toUInt32 &&& Int32.toUInt32 31)).toInt32) &&& (1431655765 : Int32))) &&& (858993459 : Int32)) + ((((x0 - (((x0.toUInt32 >>> ((1 : Int32).toUInt32 &&& Int32.toUInt32 31)).toInt32) &&& (1431655765 : Int32))).toUInt32 >>> ((2 : Int32).toUInt32 &&& Int32.toUInt32 31)).toInt32) &&& (858993459 : Int32))).toUInt32 >>> ((4 : Int32).toUInt32 &&& Int32.toUInt32 31)).toInt32)) &&& (252645135 : Int32)).toUInt32 >>> ((8 : Int32).toUInt32 &&& Int32.toUInt32 31)).toInt32)) + ((((((((x0 - (((x0.toUInt32 >>> ((1 : Int32).toUInt32 &&& Int32.toUInt32 31)).toInt32) &&& (1431655765 : Int32))) &&& (858993459 : Int32)) + ((((x0 - (((x0.toUInt32 >>> ((1 : Int32).toUInt32 &&& Int32.toUInt32 31)).toInt32) &&& (1431655765 : Int32))).toUInt32 >>> ((2 : Int32).toUInt32 &&& Int32.toUInt32 31)).toInt32) &&& (858993459 : Int32))) + (((((x0 - (((x0.toUInt32 >>> ((1 : Int32).toUInt32 &&& Int32.toUInt32 31)).toInt32) &&& (1431655765 : Int32))) &&& (858993459 : Int32)) + ((((x0 - (((x0.toUInt32 >>> ((1 : Int32).toUInt32 &&& Int32.toUInt32 31)).toInt32) &&& (1431655765 : Int32))).toUInt32 >>> ((2 : Int32).toUInt32 &&& Int32.toUInt32 31)).toInt32) &&& (858993459 : Int32))).toUInt32 >>> ((4 : Int32).toUInt32 &&& Int32.toUInt32 31)).toInt32)) &&& (252645135 : Int32)) + (((((((x0 - (((x0.toUInt32 >>> ((1 : Int32).toUInt32 &&& Int32.toUInt32 31)).toInt32) &&& (1431655765 : Int32))) &&& (858993459 : Int32)) + ((((x0 - (((x0.toUInt32 >>> ((1 : Int32).toUInt32 &&& Int32.toUInt32 31)).toInt32) &&& (1431655765 : Int32))).toUInt32 >>> ((2 : Int32).toUInt32 &&& Int32.toUInt32 31)).toInt32) &&& (858993459 : Int32))) + (((((x0 - (((x0.toUInt32 >>> ((1 : Int32).toUInt32 &&& Int32.toUInt32 31)).toInt32) &&& (1431655765 : Int32))) &&& (858993459 : Int32)) + ((((x0 - (((x0.toUInt32 >>> ((1 : Int32).toUInt32 &&& Int32.toUInt32 31)).toInt32) &&& (1431655765 : Int32))).toUInt32 >>> ((2 : Int32).toUInt32 &&& Int32.toUInt32 31)).toInt32) &&& (858993459 : Int32))).toUInt32 >>> ((4 : Int32).toUInt32 &&& Int32.toUInt32 31)).toInt32)) &&& (252645135 : Int32)).toUInt32 >>> ((8 : Int32).toUInt32 &&& Int32.toUInt32 31)).toInt32)).toUInt32 >>> ((16 : Int32).toUInt32 &&& Int32.toUInt32 31)).toInt32)) &&& (63 : Int32), M)
theorem K_Ji_bitCount (n : Nat) (E : zE) (S : zS) (x0 : Int32) (M : zH) (r : Int32) (M' : zH)  (h : F_Ji_bitCount n E S x0 M = some (r, M')) : zG E Y_Ji_bitCount (some (.int r), S, M') 0 [(0, .int x0)] [] S M 0 0 := by
  unfold F_Ji_bitCount at h
  refine zi_iload_n 0 d_Ji_bitCount_0 rfl ?_
  refine zi_iload_n 0 d_Ji_bitCount_1 rfl ?_
  refine zi_iconst 1 d_Ji_bitCount_2 rfl ?_
  refine zi_iushr d_Ji_bitCount_3 ?_
  refine zi_ldcw d_Ji_bitCount_4 tw_1103 ?_
  refine zi_iand d_Ji_bitCount_7 ?_
  refine zi_isub d_Ji_bitCount_8 ?_
  refine zi_istore_n [(0, .int (x0 - (((x0.toUInt32 >>> ((1 : Int32).toUInt32 &&& Int32.toUInt32 31)).toInt32) &&& (1431655765 : Int32))))] d_Ji_bitCount_9 (by decide) rfl ?_
  refine zi_iload_n 0 d_Ji_bitCount_10 rfl ?_
  refine zi_ldcw d_Ji_bitCount_11 tw_1104 ?_
  refine zi_iand d_Ji_bitCount_14 ?_
  refine zi_iload_n 0 d_Ji_bitCount_15 rfl ?_
  refine zi_iconst 2 d_Ji_bitCount_16 rfl ?_
  refine zi_iushr d_Ji_bitCount_17 ?_
  refine zi_ldcw d_Ji_bitCount_18 tw_1104 ?_
  refine zi_iand d_Ji_bitCount_21 ?_
  refine zi_iadd d_Ji_bitCount_22 ?_
  refine zi_istore_n [(0, .int (((x0 - (((x0.toUInt32 >>> ((1 : Int32).toUInt32 &&& Int32.toUInt32 31)).toInt32) &&& (1431655765 : Int32))) &&& (858993459 : Int32)) + ((((x0 - (((x0.toUInt32 >>> ((1 : Int32).toUInt32 &&& Int32.toUInt32 31)).toInt32) &&& (1431655765 : Int32))).toUInt32 >>> ((2 : Int32).toUInt32 &&& Int32.toUInt32 31)).toInt32) &&& (858993459 : Int32))))] d_Ji_bitCount_23 (by decide) rfl ?_
  refine zi_iload_n 0 d_Ji_bitCount_24 rfl ?_
  refine zi_iload_n 0 d_Ji_bitCount_25 rfl ?_
  refine zi_iconst 4 d_Ji_bitCount_26 rfl ?_
  refine zi_iushr d_Ji_bitCount_27 ?_
  refine zi_iadd d_Ji_bitCount_28 ?_
  refine zi_ldcw d_Ji_bitCount_29 tw_1105 ?_
  refine zi_iand d_Ji_bitCount_32 ?_
  refine zi_istore_n [(0, .int (((((x0 - (((x0.toUInt32 >>> ((1 : Int32).toUInt32 &&& Int32.toUInt32 31)).toInt32) &&& (1431655765 : Int32))) &&& (858993459 : Int32)) + ((((x0 - (((x0.toUInt32 >>> ((1 : Int32).toUInt32 &&& Int32.toUInt32 31)).toInt32) &&& (1431655765 : Int32))).toUInt32 >>> ((2 : Int32).toUInt32 &&& Int32.toUInt32 31)).toInt32) &&& (858993459 : Int32))) + (((((x0 - (((x0.toUInt32 >>> ((1 : Int32).toUInt32 &&& Int32.toUInt32 31)).toInt32) &&& (1431655765 : Int32))) &&& (858993459 : Int32)) + ((((x0 - (((x0.toUInt32 >>> ((1 : Int32).toUInt32 &&& Int32.toUInt32 31)).toInt32) &&& (1431655765 : Int32))).toUInt32 >>> ((2 : Int32).toUInt32 &&& Int32.toUInt32 31)).toInt32) &&& (858993459 : Int32))).toUInt32 >>> ((4 : Int32).toUInt32 &&& Int32.toUInt32 31)).toInt32)) &&& (252645135 : Int32)))] d_Ji_bitCount_33 (by decide) rfl ?_
  refine zi_iload_n 0 d_Ji_bitCount_34 rfl ?_
  refine zi_iload_n 0 d_Ji_bitCount_35 rfl ?_
  refine zi_bipush 8 d_Ji_bitCount_36 rfl ?_
  refine zi_iushr d_Ji_bitCount_38 ?_
  refine zi_iadd d_Ji_bitCount_39 ?_
  refine zi_istore_n [(0, .int ((((((x0 - (((x0.toUInt32 >>> ((1 : Int32).toUInt32 &&& Int32.toUInt32 31)).toInt32) &&& (1431655765 : Int32))) &&& (858993459 : Int32)) + ((((x0 - (((x0.toUInt32 >>> ((1 : Int32).toUInt32 &&& Int32.toUInt32 31)).toInt32) &&& (1431655765 : Int32))).toUInt32 >>> ((2 : Int32).toUInt32 &&& Int32.toUInt32 31)).toInt32) &&& (858993459 : Int32))) + (((((x0 - (((x0.toUInt32 >>> ((1 : Int32).toUInt32 &&& Int32.toUInt32 31)).toInt32) &&& (1431655765 : Int32))) &&& (858993459 : Int32)) + ((((x0 - (((x0.toUInt32 >>> ((1 : Int32).toUInt32 &&& Int32.toUInt32 31)).toInt32) &&& (1431655765 : Int32))).toUInt32 >>> ((2 : Int32).toUInt32 &&& Int32.toUInt32 31)).toInt32) &&& (858993459 : Int32))).toUInt32 >>> ((4 : Int32).toUInt32 &&& Int32.toUInt32 31)).toInt32)) &&& (252645135 : Int32)) + (((((((x0 - (((x0.toUInt32 >>> ((1 : Int32).toUInt32 &&& Int32.toUInt32 31)).toInt32) &&& (1431655765 : Int32))) &&& (858993459 : Int32)) + ((((x0 - (((x0.toUInt32 >>> ((1 : Int32).toUInt32 &&& Int32.toUInt32 31)).toInt32) &&& (1431655765 : Int32))).toUInt32 >>> ((2 : Int32).toUInt32 &&& Int32.toUInt32 31)).toInt32) &&& (858993459 : Int32))) + (((((x0 - (((x0.toUInt32 >>> ((1 : Int32).toUInt32 &&& Int32.toUInt32 31)).toInt32) &&& (1431655765 : Int32))) &&& (858993459 : Int32)) + ((((x0 - (((x0.toUInt32 >>> ((1 : Int32).toUInt32 &&& Int32.toUInt32 31)).toInt32) &&& (1431655765 : Int32))).toUInt32 >>> ((2 : Int32).toUInt32 &&& Int32.toUInt32 31)).toInt32) &&& (858993459 : Int32))).toUInt32 >>> ((4 : Int32).toUInt32 &&& Int32.toUInt32 31)).toInt32)) &&& (252645135 : Int32)).toUInt32 >>> ((8 : Int32).toUInt32 &&& Int32.toUInt32 31)).toInt32)))] d_Ji_bitCount_40 (by decide) rfl ?_
  refine zi_iload_n 0 d_Ji_bitCount_41 rfl ?_
  refine zi_iload_n 0 d_Ji_bitCount_42 rfl ?_
  refine zi_bipush 16 d_Ji_bitCount_43 rfl ?_
  refine zi_iushr d_Ji_bitCount_45 ?_
  refine zi_iadd d_Ji_bitCount_46 ?_
  refine zi_istore_n [(0, .int (((((((x0 - (((x0.toUInt32 >>> ((1 : Int32).toUInt32 &&& Int32.toUInt32 31)).toInt32) &&& (1431655765 : Int32))) &&& (858993459 : Int32)) + ((((x0 - (((x0.toUInt32 >>> ((1 : Int32).toUInt32 &&& Int32.toUInt32 31)).toInt32) &&& (1431655765 : Int32))).toUInt32 >>> ((2 : Int32).toUInt32 &&& Int32.toUInt32 31)).toInt32) &&& (858993459 : Int32))) + (((((x0 - (((x0.toUInt32 >>> ((1 : Int32).toUInt32 &&& Int32.toUInt32 31)).toInt32) &&& (1431655765 : Int32))) &&& (858993459 : Int32)) + ((((x0 - (((x0.toUInt32 >>> ((1 : Int32).toUInt32 &&& Int32.toUInt32 31)).toInt32) &&& (1431655765 : Int32))).toUInt32 >>> ((2 : Int32).toUInt32 &&& Int32.toUInt32 31)).toInt32) &&& (858993459 : Int32))).toUInt32 >>> ((4 : Int32).toUInt32 &&& Int32.toUInt32 31)).toInt32)) &&& (252645135 : Int32)) + (((((((x0 - (((x0.toUInt32 >>> ((1 : Int32).toUInt32 &&& Int32.toUInt32 31)).toInt32) &&& (1431655765 : Int32))) &&& (858993459 : Int32)) + ((((x0 - (((x0.toUInt32 >>> ((1 : Int32).toUInt32 &&& Int32.toUInt32 31)).toInt32) &&& (1431655765 : Int32))).toUInt32 >>> ((2 : Int32).toUInt32 &&& Int32.toUInt32 31)).toInt32) &&& (858993459 : Int32))) + (((((x0 - (((x0.toUInt32 >>> ((1 : Int32).toUInt32 &&& Int32.toUInt32 31)).toInt32) &&& (1431655765 : Int32))) &&& (858993459 : Int32)) + ((((x0 - (((x0.toUInt32 >>> ((1 : Int32).toUInt32 &&& Int32.toUInt32 31)).toInt32) &&& (1431655765 : Int32))).toUInt32 >>> ((2 : Int32).toUInt32 &&& Int32.toUInt32 31)).toInt32) &&& (858993459 : Int32))).toUInt32 >>> ((4 : Int32).toUInt32 &&& Int32.toUInt32 31)).toInt32)) &&& (252645135 : Int32)).toUInt32 >>> ((8 : Int32).toUInt32 &&& Int32.toUInt32 31)).toInt32)) + ((((((((x0 - (((x0.toUInt32 >>> ((1 : Int32).toUInt32 &&& Int32.toUInt32 31)).toInt32) &&& (1431655765 : Int32))) &&& (858993459 : Int32)) + ((((x0 - (((x0.toUInt32 >>> ((1 : Int32).toUInt32 &&& Int32.toUInt32 31)).toInt32) &&& (1431655765 : Int32))).toUInt32 >>> ((2 : Int32).toUInt32 &&& Int32.toUInt32 31)).toInt32) &&& (858993459 : Int32))) + (((((x0 - (((x0.toUInt32 >>> ((1 : Int32).toUInt32 &&& Int32.toUInt32 31)).toInt32) &&& (1431655765 : Int32))) &&& (858993459 : Int32)) + ((((x0 - (((x0.toUInt32 >>> ((1 : Int32).toUInt32 &&& Int32.toUInt32 31)).toInt32) &&& (1431655765 : Int32))).toUInt32 >>> ((2 : Int32).toUInt32 &&& Int32.toUInt32 31)).toInt32) &&& (858993459 : Int32))).toUInt32 >>> ((4 : Int32).toUInt32 &&& Int32.toUInt32 31)).toInt32)) &&& (252645135 : Int32)) + (((((((x0 - (((x0.toUInt32 >>> ((1 : Int32).toUInt32 &&& Int32.toUInt32 31)).toInt32) &&& (1431655765 : Int32))) &&& (858993459 : Int32)) + ((((x0 - (((x0.toUInt32 >>> ((1 : Int32).toUInt32 &&& Int32.toUInt32 31)).toInt32) &&& (1431655765 : Int32))).toUInt32 >>> ((2 : Int32).toUInt32 &&& Int32.toUInt32 31)).toInt32) &&& (858993459 : Int32))) + (((((x0 - (((x0.toUInt32 >>> ((1 : Int32).toUInt32 &&& Int32.toUInt32 31)).toInt32) &&& (1431655765 : Int32))) &&& (858993459 : Int32)) + ((((x0 - (((x0.toUInt32 >>> ((1 : Int32).toUInt32 &&& Int32.toUInt32 31)).toInt32) &&& (1431655765 : Int32))).toUInt32 >>> ((2 : Int32).toUInt32 &&& Int32.toUInt32 31)).toInt32) &&& (858993459 : Int32))).toUInt32 >>> ((4 : Int32).toUInt32 &&& Int32.toUInt32 31)).toInt32)) &&& (252645135 : Int32)).toUInt32 >>> ((8 : Int32).toUInt32 &&& Int32.toUInt32 31)).toInt32)).toUInt32 >>> ((16 : Int32).toUInt32 &&& Int32.toUInt32 31)).toInt32)))] d_Ji_bitCount_47 (by decide) rfl ?_
  refine zi_iload_n 0 d_Ji_bitCount_48 rfl ?_
  refine zi_bipush 63 d_Ji_bitCount_49 rfl ?_
  refine zi_iand d_Ji_bitCount_51 ?_
  cases h
  exact zo_ret d_Ji_bitCount_52 (Nat.le_of_ble_eq_true rfl) (Nat.le_of_ble_eq_true rfl) rfl
theorem C_Ji_bitCount (n : Nat) (E : zE) (S : zS) (x0 : Int32) (M : zH) (r : Int32) (M' : zH) (h : F_Ji_bitCount n E S x0 M = some (r, M')) : zC E Y_Ji_bitCount [.int x0] S M (some (.int r), S, M') :=
  zC.of (Or.inl (show plainName "java/lang/Integer" = true by decide)) (Nat.le_of_ble_eq_true rfl) (trivial) (K_Ji_bitCount n E S x0 M r M' h)
