/-! METHODS (printed by gen/build.py): Mo_canBe Mo_inDigits Mo_layFalls Mo_settings Mo_look Mo_isWanted Mo_stepsTo Mo_turned -/
theorem d_Mo_canBe_0 : decode (yB Y_Mo_canBe) 0 = .ok (.iconst 1, 1) := by decide +kernel
theorem d_Mo_canBe_1 : decode (yB Y_Mo_canBe) 1 = .ok (.istore_n 2, 1) := by decide +kernel
theorem d_Mo_canBe_2 : decode (yB Y_Mo_canBe) 2 = .ok (.iconst 0, 1) := by decide +kernel
theorem d_Mo_canBe_3 : decode (yB Y_Mo_canBe) 3 = .ok (.istore_n 3, 1) := by decide +kernel
theorem d_Mo_canBe_4 : decode (yB Y_Mo_canBe) 4 = .ok (.iload_n 3, 1) := by decide +kernel
theorem d_Mo_canBe_5 : decode (yB Y_Mo_canBe) 5 = .ok (.aload_n 0, 1) := by decide +kernel
theorem d_Mo_canBe_6 : decode (yB Y_Mo_canBe) 6 = .ok (.getfield 13, 3) := by decide +kernel
theorem d_Mo_canBe_9 : decode (yB Y_Mo_canBe) 9 = .ok (.iconst 1, 1) := by decide +kernel
theorem d_Mo_canBe_10 : decode (yB Y_Mo_canBe) 10 = .ok (.iaload, 1) := by decide +kernel
theorem d_Mo_canBe_11 : decode (yB Y_Mo_canBe) 11 = .ok (.if_icmp .ge 51, 3) := by decide +kernel
theorem d_Mo_canBe_14 : decode (yB Y_Mo_canBe) 14 = .ok (.iload_n 2, 1) := by decide +kernel
theorem d_Mo_canBe_15 : decode (yB Y_Mo_canBe) 15 = .ok (.ifCond .eq 47, 3) := by decide +kernel
theorem d_Mo_canBe_18 : decode (yB Y_Mo_canBe) 18 = .ok (.aload_n 0, 1) := by decide +kernel
theorem d_Mo_canBe_19 : decode (yB Y_Mo_canBe) 19 = .ok (.iload_n 1, 1) := by decide +kernel
theorem d_Mo_canBe_20 : decode (yB Y_Mo_canBe) 20 = .ok (.aload_n 0, 1) := by decide +kernel
theorem d_Mo_canBe_21 : decode (yB Y_Mo_canBe) 21 = .ok (.getfield 13, 3) := by decide +kernel
theorem d_Mo_canBe_24 : decode (yB Y_Mo_canBe) 24 = .ok (.bipush 65, 2) := by decide +kernel
theorem d_Mo_canBe_26 : decode (yB Y_Mo_canBe) 26 = .ok (.iconst 2, 1) := by decide +kernel
theorem d_Mo_canBe_27 : decode (yB Y_Mo_canBe) 27 = .ok (.iload_n 3, 1) := by decide +kernel
theorem d_Mo_canBe_28 : decode (yB Y_Mo_canBe) 28 = .ok (.imul, 1) := by decide +kernel
theorem d_Mo_canBe_29 : decode (yB Y_Mo_canBe) 29 = .ok (.iadd, 1) := by decide +kernel
theorem d_Mo_canBe_30 : decode (yB Y_Mo_canBe) 30 = .ok (.iaload, 1) := by decide +kernel
theorem d_Mo_canBe_31 : decode (yB Y_Mo_canBe) 31 = .ok (.invokevirtual 484, 3) := by decide +kernel
theorem d_Mo_canBe_34 : decode (yB Y_Mo_canBe) 34 = .ok (.aload_n 0, 1) := by decide +kernel
theorem d_Mo_canBe_35 : decode (yB Y_Mo_canBe) 35 = .ok (.getfield 13, 3) := by decide +kernel
theorem d_Mo_canBe_38 : decode (yB Y_Mo_canBe) 38 = .ok (.bipush 65, 2) := by decide +kernel
theorem d_Mo_canBe_40 : decode (yB Y_Mo_canBe) 40 = .ok (.iconst 2, 1) := by decide +kernel
theorem d_Mo_canBe_41 : decode (yB Y_Mo_canBe) 41 = .ok (.iload_n 3, 1) := by decide +kernel
theorem d_Mo_canBe_42 : decode (yB Y_Mo_canBe) 42 = .ok (.imul, 1) := by decide +kernel
theorem d_Mo_canBe_43 : decode (yB Y_Mo_canBe) 43 = .ok (.iadd, 1) := by decide +kernel
theorem d_Mo_canBe_44 : decode (yB Y_Mo_canBe) 44 = .ok (.iconst 1, 1) := by decide +kernel
theorem d_Mo_canBe_45 : decode (yB Y_Mo_canBe) 45 = .ok (.iadd, 1) := by decide +kernel
theorem d_Mo_canBe_46 : decode (yB Y_Mo_canBe) 46 = .ok (.iaload, 1) := by decide +kernel
theorem d_Mo_canBe_47 : decode (yB Y_Mo_canBe) 47 = .ok (.if_icmp .ne 7, 3) := by decide +kernel
theorem d_Mo_canBe_50 : decode (yB Y_Mo_canBe) 50 = .ok (.iconst 1, 1) := by decide +kernel
theorem d_Mo_canBe_51 : decode (yB Y_Mo_canBe) 51 = .ok (.goto 4, 3) := by decide +kernel
theorem d_Mo_canBe_54 : decode (yB Y_Mo_canBe) 54 = .ok (.iconst 0, 1) := by decide +kernel
theorem d_Mo_canBe_55 : decode (yB Y_Mo_canBe) 55 = .ok (.istore_n 2, 1) := by decide +kernel
theorem d_Mo_canBe_56 : decode (yB Y_Mo_canBe) 56 = .ok (.iinc 3 1, 3) := by decide +kernel
theorem d_Mo_canBe_59 : decode (yB Y_Mo_canBe) 59 = .ok (.goto (-55), 3) := by decide +kernel
theorem d_Mo_canBe_62 : decode (yB Y_Mo_canBe) 62 = .ok (.iload_n 2, 1) := by decide +kernel
theorem d_Mo_canBe_63 : decode (yB Y_Mo_canBe) 63 = .ok (.ireturn, 1) := by decide +kernel
def F_Mo_canBe_b55 (n : Nat) (E : zE) (S : zS) (r4 : Nat × Int32 × Int32 × Int32 × zH → Option (Bool × zH)) (a0 : Nat) (x1 : Int32) (x3 : Int32) (s0 : Int32) (M : zH) : Option (Bool × zH) :=
  r4 (a0, x1, s0, x3 + 1, M)
def F_Mo_canBe_L4 (n : Nat) (E : zE) (S : zS) (r4 : Nat × Int32 × Int32 × Int32 × zH → Option (Bool × zH)) (a0 : Nat) (x1 : Int32) (x2 : Int32) (x3 : Int32) (M : zH) : Option (Bool × zH) :=
  (zgR S a0 11 3).bind fun b_1 =>
  (zldI S M b_1 1).bind fun v_2 =>
  if v_2 ≤ x3 then
    (zbl x2).bind fun z_4 =>
    some (z_4, M)
  else
    if x2 = 0 then
      (zbl x2).bind fun z_6 =>
      some (z_6, M)
    else
      (zldI S M b_1 (65 + (2 * x3))).bind fun v_7 =>
      (F_Mo_fallsOn n E S a0 x1 v_7 M).bind fun q_8 =>
      (zldI S q_8.2 b_1 ((65 + (2 * x3)) + 1)).bind fun v_9 =>
      if q_8.1 = v_9 then
        F_Mo_canBe_b55 n E S r4 a0 x1 x3 1 q_8.2
      else
        F_Mo_canBe_b55 n E S r4 a0 x1 x3 0 q_8.2
def F_Mo_canBe_b4 (n : Nat) (E : zE) (S : zS) : Nat × Int32 × Int32 × Int32 × zH → Option (Bool × zH) := zfix (fun r4 s => F_Mo_canBe_L4 n E S r4 s.1 s.2.1 s.2.2.1 s.2.2.2.1 s.2.2.2.2) n
def F_Mo_canBe (n : Nat) (E : zE) (S : zS) (a0 : Nat) (x1 : Int32) (M : zH) : Option (Bool × zH) :=
  F_Mo_canBe_b4 n E S (a0, x1, 1, 0, M)
theorem K_Mo_canBe_b55 (n : Nat) (E : zE) (S : zS) (r4 : Nat × Int32 × Int32 × Int32 × zH → Option (Bool × zH)) (a0 : Nat) (x1 : Int32) (x3 : Int32) (s0 : Int32) (M : zH) (r : Bool) (M' : zH) (hr4 : ∀ (a0 : Nat) (x1 : Int32) (x2 : Int32) (x3 : Int32) (M : zH), r4 (a0, x1, x2, x3, M) = some (r, M') → zG E Y_Mo_canBe (some (.int (bI r)), S, M') 4 [(0, .ref a0), (1, .int x1), (2, .int x2), (3, .int x3)] [] S M 0 0) (h : F_Mo_canBe_b55 n E S r4 a0 x1 x3 s0 M = some (r, M')) : zG E Y_Mo_canBe (some (.int (bI r)), S, M') 55 [(0, .ref a0), (1, .int x1), (3, .int x3)] [.int s0] S M 0 0 := by
  unfold F_Mo_canBe_b55 at h
  refine zi_istore_n [(2, .int s0), (0, .ref a0), (1, .int x1), (3, .int x3)] d_Mo_canBe_55 (by decide) rfl ?_
  refine zi_iinc 3 (x3 + 1) [(3, .int (x3 + 1)), (2, .int s0), (0, .ref a0), (1, .int x1)] d_Mo_canBe_56 rfl rfl (by decide) rfl ?_
  refine zi_goto (tgt := 4) d_Mo_canBe_59 rfl ?_
  refine zi_lo [(0, .ref a0), (1, .int x1), (2, .int s0), (3, .int (x3 + 1))] [2, 3, 1, 0] rfl ?_
  exact hr4 a0 x1 s0 (x3 + 1) M h
theorem K_Mo_canBe_L4 (n : Nat) (E : zE) (S : zS) (r4 : Nat × Int32 × Int32 × Int32 × zH → Option (Bool × zH)) (a0 : Nat) (x1 : Int32) (x2 : Int32) (x3 : Int32) (M : zH) (r : Bool) (M' : zH) (hr4 : ∀ (a0 : Nat) (x1 : Int32) (x2 : Int32) (x3 : Int32) (M : zH), r4 (a0, x1, x2, x3, M) = some (r, M') → zG E Y_Mo_canBe (some (.int (bI r)), S, M') 4 [(0, .ref a0), (1, .int x1), (2, .int x2), (3, .int x3)] [] S M 0 0) (h : F_Mo_canBe_L4 n E S r4 a0 x1 x2 x3 M = some (r, M')) : zG E Y_Mo_canBe (some (.int (bI r)), S, M') 4 [(0, .ref a0), (1, .int x1), (2, .int x2), (3, .int x3)] [] S M 0 0 := by
  unfold F_Mo_canBe_L4 at h
  refine zi_iload_n 3 d_Mo_canBe_4 rfl ?_
  refine zi_aload_n 0 d_Mo_canBe_5 rfl ?_
  obtain ⟨b_1, eb_1, h⟩ := zbind h
  refine zo_getR 9 zkd_11 3 d_Mo_canBe_6 eb_1 rfl tw_1234 rfl ?_
  refine zi_iconst 1 d_Mo_canBe_9 rfl ?_
  obtain ⟨v_2, ev_2, h⟩ := zbind h
  refine zo_iald 11 d_Mo_canBe_10 ev_2 rfl ?_
  refine zi_icmp_ge (tgt := 62) d_Mo_canBe_11 rfl (fun c_3 => ?_) (fun c_3 => ?_)
  · rw [if_pos c_3] at h
    refine zi_iload_n 2 d_Mo_canBe_62 rfl ?_
    obtain ⟨z_4, ez_4, h⟩ := zbind h
    cases h
    exact zo_retB d_Mo_canBe_63 (Nat.le_of_ble_eq_true rfl) (Nat.le_of_ble_eq_true rfl) (zbl_s ez_4)
  · rw [if_neg c_3] at h
    refine zi_iload_n 2 d_Mo_canBe_14 rfl ?_
    refine zi_if_eq (tgt := 62) d_Mo_canBe_15 rfl (fun c_5 => ?_) (fun c_5 => ?_)
    · rw [if_pos c_5] at h
      refine zi_iload_n 2 d_Mo_canBe_62 rfl ?_
      obtain ⟨z_6, ez_6, h⟩ := zbind h
      cases h
      exact zo_retB d_Mo_canBe_63 (Nat.le_of_ble_eq_true rfl) (Nat.le_of_ble_eq_true rfl) (zbl_s ez_6)
    · rw [if_neg c_5] at h
      refine zi_aload_n 0 d_Mo_canBe_18 rfl ?_
      refine zi_iload_n 1 d_Mo_canBe_19 rfl ?_
      refine zi_aload_n 0 d_Mo_canBe_20 rfl ?_
      refine zo_getR 24 zkd_11 3 d_Mo_canBe_21 eb_1 rfl tw_1234 rfl ?_
      refine zi_bipush 65 d_Mo_canBe_24 rfl ?_
      refine zi_iconst 2 d_Mo_canBe_26 rfl ?_
      refine zi_iload_n 3 d_Mo_canBe_27 rfl ?_
      refine zi_imul d_Mo_canBe_28 ?_
      refine zi_iadd d_Mo_canBe_29 ?_
      obtain ⟨v_7, ev_7, h⟩ := zbind h
      refine zo_iald 31 d_Mo_canBe_30 ev_7 rfl ?_
      obtain ⟨q_8, eq_8, h⟩ := zbind h
      refine zo_virt (k' := 0) (n' := 0) 34 [.int x1, .int v_7] [] [.int q_8.1] zkd_11 (zgR_s eb_1).1 (C_Mo_fallsOn n E S a0 x1 v_7 M q_8.1 q_8.2 eq_8) d_Mo_canBe_31 tw_1790 tw_1787 tw_1789 ts_93 tw_13 dd_Mo_fallsOn ⟨Nat.le_of_ble_eq_true rfl, Nat.le_of_ble_eq_true rfl, Nat.le_of_ble_eq_true rfl, Nat.le_of_ble_eq_true rfl⟩ (Nat.le_of_ble_eq_true rfl) rfl rfl rfl rfl ?_
      refine zi_aload_n 0 d_Mo_canBe_34 rfl ?_
      refine zo_getR 38 zkd_11 3 d_Mo_canBe_35 eb_1 rfl tw_1234 rfl ?_
      refine zi_bipush 65 d_Mo_canBe_38 rfl ?_
      refine zi_iconst 2 d_Mo_canBe_40 rfl ?_
      refine zi_iload_n 3 d_Mo_canBe_41 rfl ?_
      refine zi_imul d_Mo_canBe_42 ?_
      refine zi_iadd d_Mo_canBe_43 ?_
      refine zi_iconst 1 d_Mo_canBe_44 rfl ?_
      refine zi_iadd d_Mo_canBe_45 ?_
      obtain ⟨v_9, ev_9, h⟩ := zbind h
      refine zo_iald 47 d_Mo_canBe_46 ev_9 rfl ?_
      refine zi_icmp_ne (tgt := 54) d_Mo_canBe_47 rfl (fun c_10 => ?_) (fun c_10 => ?_)
      · rw [if_neg c_10] at h
        refine zi_iconst 0 d_Mo_canBe_54 rfl ?_
        refine zi_lo [(0, .ref a0), (1, .int x1), (3, .int x3)] [0, 1, 3] rfl ?_
        exact K_Mo_canBe_b55 n E S r4 a0 x1 x3 0 q_8.2 r M' hr4 h
      · rw [if_pos c_10] at h
        refine zi_iconst 1 d_Mo_canBe_50 rfl ?_
        refine zi_goto (tgt := 55) d_Mo_canBe_51 rfl ?_
        refine zi_lo [(0, .ref a0), (1, .int x1), (3, .int x3)] [0, 1, 3] rfl ?_
        exact K_Mo_canBe_b55 n E S r4 a0 x1 x3 1 q_8.2 r M' hr4 h
theorem K_Mo_canBe_b4 (n : Nat) (E : zE) (S : zS) (a0 : Nat) (x1 : Int32) (x2 : Int32) (x3 : Int32) (M : zH) (r : Bool) (M' : zH)  (h : F_Mo_canBe_b4 n E S (a0, x1, x2, x3, M) = some (r, M')) : zG E Y_Mo_canBe (some (.int (bI r)), S, M') 4 [(0, .ref a0), (1, .int x1), (2, .int x2), (3, .int x3)] [] S M 0 0 := by
  have key : ∀ (k : Nat) (a0 : Nat) (x1 : Int32) (x2 : Int32) (x3 : Int32) (M : zH), zfix (fun r4 s => F_Mo_canBe_L4 n E S r4 s.1 s.2.1 s.2.2.1 s.2.2.2.1 s.2.2.2.2) k (a0, x1, x2, x3, M) = some (r, M') → zG E Y_Mo_canBe (some (.int (bI r)), S, M') 4 [(0, .ref a0), (1, .int x1), (2, .int x2), (3, .int x3)] [] S M 0 0 := by
    intro k
    induction k with
    | zero => intro a0 x1 x2 x3 M h; cases h
    | succ k ih => intro a0 x1 x2 x3 M h; exact K_Mo_canBe_L4 n E S _ a0 x1 x2 x3 M r M'  (fun a0 x1 x2 x3 M h => ih a0 x1 x2 x3 M h) h
  exact key n a0 x1 x2 x3 M h
theorem K_Mo_canBe (n : Nat) (E : zE) (S : zS) (a0 : Nat) (x1 : Int32) (M : zH) (r : Bool) (M' : zH)  (h : F_Mo_canBe n E S a0 x1 M = some (r, M')) : zG E Y_Mo_canBe (some (.int (bI r)), S, M') 0 [(0, .ref a0), (1, .int x1)] [] S M 0 0 := by
  unfold F_Mo_canBe at h
  refine zi_iconst 1 d_Mo_canBe_0 rfl ?_
  refine zi_istore_n [(2, .int 1), (0, .ref a0), (1, .int x1)] d_Mo_canBe_1 (by decide) rfl ?_
  refine zi_iconst 0 d_Mo_canBe_2 rfl ?_
  refine zi_istore_n [(3, .int 0), (2, .int 1), (0, .ref a0), (1, .int x1)] d_Mo_canBe_3 (by decide) rfl ?_
  refine zi_lo [(0, .ref a0), (1, .int x1), (2, .int 1), (3, .int 0)] [2, 3, 1, 0] rfl ?_
  exact K_Mo_canBe_b4 n E S a0 x1 1 0 M r M'  h
theorem C_Mo_canBe (n : Nat) (E : zE) (S : zS) (a0 : Nat) (x1 : Int32) (M : zH) (r : Bool) (M' : zH) (h : F_Mo_canBe n E S a0 x1 M = some (r, M')) : zC E Y_Mo_canBe [.ref a0, .int x1] S M (some (.int (bI r)), S, M') :=
  zC.of (Or.inl (show plainName "NightColanderModel" = true by decide)) (Nat.le_of_ble_eq_true rfl) (bI_nar r) (K_Mo_canBe n E S a0 x1 M r M' h)
theorem d_Mo_inDigits_0 : decode (yB Y_Mo_inDigits) 0 = .ok (.sipush 1000, 3) := by decide +kernel
theorem d_Mo_inDigits_3 : decode (yB Y_Mo_inDigits) 3 = .ok (.iload_n 0, 1) := by decide +kernel
theorem d_Mo_inDigits_4 : decode (yB Y_Mo_inDigits) 4 = .ok (.iconst 0, 1) := by decide +kernel
theorem d_Mo_inDigits_5 : decode (yB Y_Mo_inDigits) 5 = .ok (.invokestatic 481, 3) := by decide +kernel
theorem d_Mo_inDigits_8 : decode (yB Y_Mo_inDigits) 8 = .ok (.imul, 1) := by decide +kernel
theorem d_Mo_inDigits_9 : decode (yB Y_Mo_inDigits) 9 = .ok (.bipush 100, 2) := by decide +kernel
theorem d_Mo_inDigits_11 : decode (yB Y_Mo_inDigits) 11 = .ok (.iload_n 0, 1) := by decide +kernel
theorem d_Mo_inDigits_12 : decode (yB Y_Mo_inDigits) 12 = .ok (.iconst 1, 1) := by decide +kernel
theorem d_Mo_inDigits_13 : decode (yB Y_Mo_inDigits) 13 = .ok (.invokestatic 481, 3) := by decide +kernel
theorem d_Mo_inDigits_16 : decode (yB Y_Mo_inDigits) 16 = .ok (.imul, 1) := by decide +kernel
theorem d_Mo_inDigits_17 : decode (yB Y_Mo_inDigits) 17 = .ok (.iadd, 1) := by decide +kernel
theorem d_Mo_inDigits_18 : decode (yB Y_Mo_inDigits) 18 = .ok (.bipush 10, 2) := by decide +kernel
theorem d_Mo_inDigits_20 : decode (yB Y_Mo_inDigits) 20 = .ok (.iload_n 0, 1) := by decide +kernel
theorem d_Mo_inDigits_21 : decode (yB Y_Mo_inDigits) 21 = .ok (.iconst 2, 1) := by decide +kernel
theorem d_Mo_inDigits_22 : decode (yB Y_Mo_inDigits) 22 = .ok (.invokestatic 481, 3) := by decide +kernel
theorem d_Mo_inDigits_25 : decode (yB Y_Mo_inDigits) 25 = .ok (.imul, 1) := by decide +kernel
theorem d_Mo_inDigits_26 : decode (yB Y_Mo_inDigits) 26 = .ok (.iadd, 1) := by decide +kernel
theorem d_Mo_inDigits_27 : decode (yB Y_Mo_inDigits) 27 = .ok (.iload_n 0, 1) := by decide +kernel
theorem d_Mo_inDigits_28 : decode (yB Y_Mo_inDigits) 28 = .ok (.iconst 3, 1) := by decide +kernel
theorem d_Mo_inDigits_29 : decode (yB Y_Mo_inDigits) 29 = .ok (.invokestatic 481, 3) := by decide +kernel
theorem d_Mo_inDigits_32 : decode (yB Y_Mo_inDigits) 32 = .ok (.iadd, 1) := by decide +kernel
theorem d_Mo_inDigits_33 : decode (yB Y_Mo_inDigits) 33 = .ok (.ireturn, 1) := by decide +kernel
def F_Mo_inDigits (n : Nat) (E : zE) (S : zS) (x0 : Int32) (M : zH) : Option (Int32 × zH) :=
  (F_Mo_turnOf n E S x0 0 M).bind fun q_1 =>
  (F_Mo_turnOf n E S x0 1 q_1.2).bind fun q_2 =>
  (F_Mo_turnOf n E S x0 2 q_2.2).bind fun q_3 =>
  (F_Mo_turnOf n E S x0 3 q_3.2).bind fun q_4 =>
  some ((((1000 * q_1.1) + (100 * q_2.1)) + (10 * q_3.1)) + q_4.1, q_4.2)
theorem K_Mo_inDigits (n : Nat) (E : zE) (S : zS) (x0 : Int32) (M : zH) (r : Int32) (M' : zH)  (h : F_Mo_inDigits n E S x0 M = some (r, M')) : zG E Y_Mo_inDigits (some (.int r), S, M') 0 [(0, .int x0)] [] S M 0 0 := by
  unfold F_Mo_inDigits at h
  refine zi_sipush 1000 d_Mo_inDigits_0 rfl ?_
  refine zi_iload_n 0 d_Mo_inDigits_3 rfl ?_
  refine zi_iconst 0 d_Mo_inDigits_4 rfl ?_
  obtain ⟨q_1, eq_1, h⟩ := zbind h
  refine zo_stat (k' := 0) (n' := 0) 8 [.int x0, .int 0] [.int 1000] [.int q_1.1, .int 1000] (C_Mo_turnOf n E S x0 0 M q_1.1 q_1.2 eq_1) d_Mo_inDigits_5 tw_1793 tw_1791 tw_1792 tw_13 dd_Mo_turnOf ⟨Nat.le_of_ble_eq_true rfl, Nat.le_of_ble_eq_true rfl, Nat.le_of_ble_eq_true rfl, Nat.le_of_ble_eq_true rfl⟩ (Nat.le_of_ble_eq_true rfl) rfl rfl rfl rfl ?_
  refine zi_imul d_Mo_inDigits_8 ?_
  refine zi_bipush 100 d_Mo_inDigits_9 rfl ?_
  refine zi_iload_n 0 d_Mo_inDigits_11 rfl ?_
  refine zi_iconst 1 d_Mo_inDigits_12 rfl ?_
  obtain ⟨q_2, eq_2, h⟩ := zbind h
  refine zo_stat (k' := 0) (n' := 0) 16 [.int x0, .int 1] [.int 100, .int (1000 * q_1.1)] [.int q_2.1, .int 100, .int (1000 * q_1.1)] (C_Mo_turnOf n E S x0 1 q_1.2 q_2.1 q_2.2 eq_2) d_Mo_inDigits_13 tw_1793 tw_1791 tw_1792 tw_13 dd_Mo_turnOf ⟨Nat.le_of_ble_eq_true rfl, Nat.le_of_ble_eq_true rfl, Nat.le_of_ble_eq_true rfl, Nat.le_of_ble_eq_true rfl⟩ (Nat.le_of_ble_eq_true rfl) rfl rfl rfl rfl ?_
  refine zi_imul d_Mo_inDigits_16 ?_
  refine zi_iadd d_Mo_inDigits_17 ?_
  refine zi_bipush 10 d_Mo_inDigits_18 rfl ?_
  refine zi_iload_n 0 d_Mo_inDigits_20 rfl ?_
  refine zi_iconst 2 d_Mo_inDigits_21 rfl ?_
  obtain ⟨q_3, eq_3, h⟩ := zbind h
  refine zo_stat (k' := 0) (n' := 0) 25 [.int x0, .int 2] [.int 10, .int ((1000 * q_1.1) + (100 * q_2.1))] [.int q_3.1, .int 10, .int ((1000 * q_1.1) + (100 * q_2.1))] (C_Mo_turnOf n E S x0 2 q_2.2 q_3.1 q_3.2 eq_3) d_Mo_inDigits_22 tw_1793 tw_1791 tw_1792 tw_13 dd_Mo_turnOf ⟨Nat.le_of_ble_eq_true rfl, Nat.le_of_ble_eq_true rfl, Nat.le_of_ble_eq_true rfl, Nat.le_of_ble_eq_true rfl⟩ (Nat.le_of_ble_eq_true rfl) rfl rfl rfl rfl ?_
  refine zi_imul d_Mo_inDigits_25 ?_
  refine zi_iadd d_Mo_inDigits_26 ?_
  refine zi_iload_n 0 d_Mo_inDigits_27 rfl ?_
  refine zi_iconst 3 d_Mo_inDigits_28 rfl ?_
  obtain ⟨q_4, eq_4, h⟩ := zbind h
  refine zo_stat (k' := 0) (n' := 0) 32 [.int x0, .int 3] [.int (((1000 * q_1.1) + (100 * q_2.1)) + (10 * q_3.1))] [.int q_4.1, .int (((1000 * q_1.1) + (100 * q_2.1)) + (10 * q_3.1))] (C_Mo_turnOf n E S x0 3 q_3.2 q_4.1 q_4.2 eq_4) d_Mo_inDigits_29 tw_1793 tw_1791 tw_1792 tw_13 dd_Mo_turnOf ⟨Nat.le_of_ble_eq_true rfl, Nat.le_of_ble_eq_true rfl, Nat.le_of_ble_eq_true rfl, Nat.le_of_ble_eq_true rfl⟩ (Nat.le_of_ble_eq_true rfl) rfl rfl rfl rfl ?_
  refine zi_iadd d_Mo_inDigits_32 ?_
  cases h
  exact zo_ret d_Mo_inDigits_33 (Nat.le_of_ble_eq_true rfl) (Nat.le_of_ble_eq_true rfl) rfl
theorem C_Mo_inDigits (n : Nat) (E : zE) (S : zS) (x0 : Int32) (M : zH) (r : Int32) (M' : zH) (h : F_Mo_inDigits n E S x0 M = some (r, M')) : zC E Y_Mo_inDigits [.int x0] S M (some (.int r), S, M') :=
  zC.of (Or.inl (show plainName "NightColanderModel" = true by decide)) (Nat.le_of_ble_eq_true rfl) (trivial) (K_Mo_inDigits n E S x0 M r M' h)
theorem d_Mo_layFalls_0 : decode (yB Y_Mo_layFalls) 0 = .ok (.iconst 0, 1) := by decide +kernel
theorem d_Mo_layFalls_1 : decode (yB Y_Mo_layFalls) 1 = .ok (.istore_n 1, 1) := by decide +kernel
theorem d_Mo_layFalls_2 : decode (yB Y_Mo_layFalls) 2 = .ok (.iload_n 1, 1) := by decide +kernel
theorem d_Mo_layFalls_3 : decode (yB Y_Mo_layFalls) 3 = .ok (.iconst 4, 1) := by decide +kernel
theorem d_Mo_layFalls_4 : decode (yB Y_Mo_layFalls) 4 = .ok (.if_icmp .ge 91, 3) := by decide +kernel
theorem d_Mo_layFalls_7 : decode (yB Y_Mo_layFalls) 7 = .ok (.iconst 0, 1) := by decide +kernel
theorem d_Mo_layFalls_8 : decode (yB Y_Mo_layFalls) 8 = .ok (.istore_n 2, 1) := by decide +kernel
theorem d_Mo_layFalls_9 : decode (yB Y_Mo_layFalls) 9 = .ok (.iload_n 2, 1) := by decide +kernel
theorem d_Mo_layFalls_10 : decode (yB Y_Mo_layFalls) 10 = .ok (.bipush 8, 2) := by decide +kernel
theorem d_Mo_layFalls_12 : decode (yB Y_Mo_layFalls) 12 = .ok (.if_icmp .ge 77, 3) := by decide +kernel
theorem d_Mo_layFalls_15 : decode (yB Y_Mo_layFalls) 15 = .ok (.iconst 0, 1) := by decide +kernel
theorem d_Mo_layFalls_16 : decode (yB Y_Mo_layFalls) 16 = .ok (.istore_n 3, 1) := by decide +kernel
theorem d_Mo_layFalls_17 : decode (yB Y_Mo_layFalls) 17 = .ok (.iload_n 3, 1) := by decide +kernel
theorem d_Mo_layFalls_18 : decode (yB Y_Mo_layFalls) 18 = .ok (.bipush 8, 2) := by decide +kernel
theorem d_Mo_layFalls_20 : decode (yB Y_Mo_layFalls) 20 = .ok (.if_icmp .ge 63, 3) := by decide +kernel
theorem d_Mo_layFalls_23 : decode (yB Y_Mo_layFalls) 23 = .ok (.aload_n 0, 1) := by decide +kernel
theorem d_Mo_layFalls_24 : decode (yB Y_Mo_layFalls) 24 = .ok (.iload_n 1, 1) := by decide +kernel
theorem d_Mo_layFalls_25 : decode (yB Y_Mo_layFalls) 25 = .ok (.iload_n 3, 1) := by decide +kernel
theorem d_Mo_layFalls_26 : decode (yB Y_Mo_layFalls) 26 = .ok (.iload_n 2, 1) := by decide +kernel
theorem d_Mo_layFalls_27 : decode (yB Y_Mo_layFalls) 27 = .ok (.invokevirtual 442, 3) := by decide +kernel
theorem d_Mo_layFalls_30 : decode (yB Y_Mo_layFalls) 30 = .ok (.istore 4, 2) := by decide +kernel
theorem d_Mo_layFalls_32 : decode (yB Y_Mo_layFalls) 32 = .ok (.aload_n 0, 1) := by decide +kernel
theorem d_Mo_layFalls_33 : decode (yB Y_Mo_layFalls) 33 = .ok (.getfield 124, 3) := by decide +kernel
theorem d_Mo_layFalls_36 : decode (yB Y_Mo_layFalls) 36 = .ok (.bipush 64, 2) := by decide +kernel
theorem d_Mo_layFalls_38 : decode (yB Y_Mo_layFalls) 38 = .ok (.iload_n 1, 1) := by decide +kernel
theorem d_Mo_layFalls_39 : decode (yB Y_Mo_layFalls) 39 = .ok (.imul, 1) := by decide +kernel
theorem d_Mo_layFalls_40 : decode (yB Y_Mo_layFalls) 40 = .ok (.bipush 8, 2) := by decide +kernel
theorem d_Mo_layFalls_42 : decode (yB Y_Mo_layFalls) 42 = .ok (.iload_n 2, 1) := by decide +kernel
theorem d_Mo_layFalls_43 : decode (yB Y_Mo_layFalls) 43 = .ok (.imul, 1) := by decide +kernel
theorem d_Mo_layFalls_44 : decode (yB Y_Mo_layFalls) 44 = .ok (.iadd, 1) := by decide +kernel
theorem d_Mo_layFalls_45 : decode (yB Y_Mo_layFalls) 45 = .ok (.iload_n 3, 1) := by decide +kernel
theorem d_Mo_layFalls_46 : decode (yB Y_Mo_layFalls) 46 = .ok (.iadd, 1) := by decide +kernel
theorem d_Mo_layFalls_47 : decode (yB Y_Mo_layFalls) 47 = .ok (.aload_n 0, 1) := by decide +kernel
theorem d_Mo_layFalls_48 : decode (yB Y_Mo_layFalls) 48 = .ok (.getfield 13, 3) := by decide +kernel
theorem d_Mo_layFalls_51 : decode (yB Y_Mo_layFalls) 51 = .ok (.bipush 44, 2) := by decide +kernel
theorem d_Mo_layFalls_53 : decode (yB Y_Mo_layFalls) 53 = .ok (.iload_n 1, 1) := by decide +kernel
theorem d_Mo_layFalls_54 : decode (yB Y_Mo_layFalls) 54 = .ok (.iadd, 1) := by decide +kernel
theorem d_Mo_layFalls_55 : decode (yB Y_Mo_layFalls) 55 = .ok (.iaload, 1) := by decide +kernel
theorem d_Mo_layFalls_56 : decode (yB Y_Mo_layFalls) 56 = .ok (.iload 4, 2) := by decide +kernel
theorem d_Mo_layFalls_58 : decode (yB Y_Mo_layFalls) 58 = .ok (.invokestatic 197, 3) := by decide +kernel
theorem d_Mo_layFalls_61 : decode (yB Y_Mo_layFalls) 61 = .ok (.ifCond .eq 7, 3) := by decide +kernel
theorem d_Mo_layFalls_64 : decode (yB Y_Mo_layFalls) 64 = .ok (.iconst 0, 1) := by decide +kernel
theorem d_Mo_layFalls_65 : decode (yB Y_Mo_layFalls) 65 = .ok (.goto 11, 3) := by decide +kernel
theorem d_Mo_layFalls_68 : decode (yB Y_Mo_layFalls) 68 = .ok (.aload_n 0, 1) := by decide +kernel
theorem d_Mo_layFalls_69 : decode (yB Y_Mo_layFalls) 69 = .ok (.iload_n 1, 1) := by decide +kernel
theorem d_Mo_layFalls_70 : decode (yB Y_Mo_layFalls) 70 = .ok (.iload 4, 2) := by decide +kernel
theorem d_Mo_layFalls_72 : decode (yB Y_Mo_layFalls) 72 = .ok (.iload_n 3, 1) := by decide +kernel
theorem d_Mo_layFalls_73 : decode (yB Y_Mo_layFalls) 73 = .ok (.invokevirtual 201, 3) := by decide +kernel
theorem d_Mo_layFalls_76 : decode (yB Y_Mo_layFalls) 76 = .ok (.iastore, 1) := by decide +kernel
theorem d_Mo_layFalls_77 : decode (yB Y_Mo_layFalls) 77 = .ok (.iinc 3 1, 3) := by decide +kernel
theorem d_Mo_layFalls_80 : decode (yB Y_Mo_layFalls) 80 = .ok (.goto (-63), 3) := by decide +kernel
theorem d_Mo_layFalls_83 : decode (yB Y_Mo_layFalls) 83 = .ok (.iinc 2 1, 3) := by decide +kernel
theorem d_Mo_layFalls_86 : decode (yB Y_Mo_layFalls) 86 = .ok (.goto (-77), 3) := by decide +kernel
theorem d_Mo_layFalls_89 : decode (yB Y_Mo_layFalls) 89 = .ok (.iinc 1 1, 3) := by decide +kernel
theorem d_Mo_layFalls_92 : decode (yB Y_Mo_layFalls) 92 = .ok (.goto (-90), 3) := by decide +kernel
theorem d_Mo_layFalls_95 : decode (yB Y_Mo_layFalls) 95 = .ok (.return_, 1) := by decide +kernel
def F_Mo_layFalls_b76 (n : Nat) (E : zE) (S : zS) (r2 : Nat × Int32 × zH → Option (zH)) (r9 : Nat × Int32 × Int32 × zH → Option (zH)) (r17 : Nat × Int32 × Int32 × Int32 × zH → Option (zH)) (a0 : Nat) (x1 : Int32) (x2 : Int32) (x3 : Int32) (s0 : Int32) (s1 : Int32) (u2 : Nat) (M : zH) : Option (zH) :=
  (zstI S M u2 s1 s0).bind fun m_1 =>
  r17 (a0, x1, x2, x3 + 1, m_1)
def F_Mo_layFalls_L17 (n : Nat) (E : zE) (S : zS) (r2 : Nat × Int32 × zH → Option (zH)) (r9 : Nat × Int32 × Int32 × zH → Option (zH)) (r17 : Nat × Int32 × Int32 × Int32 × zH → Option (zH)) (a0 : Nat) (x1 : Int32) (x2 : Int32) (x3 : Int32) (M : zH) : Option (zH) :=
  if 8 ≤ x3 then
    r9 (a0, x1, x2 + 1, M)
  else
    (zck S a0 11).bind fun u_3 =>
    (F_Mo_holeAbove n E S a0 x1 x3 x2 M).bind fun q_4 =>
    (zgR S a0 11 45).bind fun b_5 =>
    (zgR S a0 11 3).bind fun b_6 =>
    (zldI S q_4.2 b_6 (44 + x1)).bind fun v_7 =>
    (F_Mo_is n E S v_7 q_4.1 q_4.2).bind fun q_8 =>
    if q_8.1 = true then
      F_Mo_layFalls_b76 n E S r2 r9 r17 a0 x1 x2 x3 0 (((64 * x1) + (8 * x2)) + x3) b_5 q_8.2
    else
      (F_Mo_runsOf n E S a0 x1 q_4.1 x3 q_8.2).bind fun q_10 =>
      F_Mo_layFalls_b76 n E S r2 r9 r17 a0 x1 x2 x3 q_10.1 (((64 * x1) + (8 * x2)) + x3) b_5 q_10.2
def F_Mo_layFalls_b17 (n : Nat) (E : zE) (S : zS) (r2 : Nat × Int32 × zH → Option (zH)) (r9 : Nat × Int32 × Int32 × zH → Option (zH)) : Nat × Int32 × Int32 × Int32 × zH → Option (zH) := zfix (fun r17 s => F_Mo_layFalls_L17 n E S r2 r9 r17 s.1 s.2.1 s.2.2.1 s.2.2.2.1 s.2.2.2.2) n
def F_Mo_layFalls_L9 (n : Nat) (E : zE) (S : zS) (r2 : Nat × Int32 × zH → Option (zH)) (r9 : Nat × Int32 × Int32 × zH → Option (zH)) (a0 : Nat) (x1 : Int32) (x2 : Int32) (M : zH) : Option (zH) :=
  if 8 ≤ x2 then
    r2 (a0, x1 + 1, M)
  else
    F_Mo_layFalls_b17 n E S r2 r9 (a0, x1, x2, 0, M)
def F_Mo_layFalls_b9 (n : Nat) (E : zE) (S : zS) (r2 : Nat × Int32 × zH → Option (zH)) : Nat × Int32 × Int32 × zH → Option (zH) := zfix (fun r9 s => F_Mo_layFalls_L9 n E S r2 r9 s.1 s.2.1 s.2.2.1 s.2.2.2) n
def F_Mo_layFalls_L2 (n : Nat) (E : zE) (S : zS) (r2 : Nat × Int32 × zH → Option (zH)) (a0 : Nat) (x1 : Int32) (M : zH) : Option (zH) :=
  if 4 ≤ x1 then
    some (M)
  else
    F_Mo_layFalls_b9 n E S r2 (a0, x1, 0, M)
def F_Mo_layFalls_b2 (n : Nat) (E : zE) (S : zS) : Nat × Int32 × zH → Option (zH) := zfix (fun r2 s => F_Mo_layFalls_L2 n E S r2 s.1 s.2.1 s.2.2) n
def F_Mo_layFalls (n : Nat) (E : zE) (S : zS) (a0 : Nat) (M : zH) : Option (zH) :=
  F_Mo_layFalls_b2 n E S (a0, 0, M)
theorem K_Mo_layFalls_b76 (n : Nat) (E : zE) (S : zS) (r2 : Nat × Int32 × zH → Option (zH)) (r9 : Nat × Int32 × Int32 × zH → Option (zH)) (r17 : Nat × Int32 × Int32 × Int32 × zH → Option (zH)) (a0 : Nat) (x1 : Int32) (x2 : Int32) (x3 : Int32) (s0 : Int32) (s1 : Int32) (u2 : Nat) (M : zH) (M' : zH) (hr2 : ∀ (a0 : Nat) (x1 : Int32) (M : zH), r2 (a0, x1, M) = some M' → zG E Y_Mo_layFalls (none, S, M') 2 [(0, .ref a0), (1, .int x1)] [] S M 0 0) (hr9 : ∀ (a0 : Nat) (x1 : Int32) (x2 : Int32) (M : zH), r9 (a0, x1, x2, M) = some M' → zG E Y_Mo_layFalls (none, S, M') 9 [(0, .ref a0), (1, .int x1), (2, .int x2)] [] S M 0 0) (hr17 : ∀ (a0 : Nat) (x1 : Int32) (x2 : Int32) (x3 : Int32) (M : zH), r17 (a0, x1, x2, x3, M) = some M' → zG E Y_Mo_layFalls (none, S, M') 17 [(0, .ref a0), (1, .int x1), (2, .int x2), (3, .int x3)] [] S M 0 0) (h : F_Mo_layFalls_b76 n E S r2 r9 r17 a0 x1 x2 x3 s0 s1 u2 M = some M') : zG E Y_Mo_layFalls (none, S, M') 76 [(0, .ref a0), (1, .int x1), (2, .int x2), (3, .int x3)] [.int s0, .int s1, .ref u2] S M 0 0 := by
  unfold F_Mo_layFalls_b76 at h
  obtain ⟨m_1, em_1, h⟩ := zbind h
  refine zo_iast 77 d_Mo_layFalls_76 em_1 rfl ?_
  refine zi_iinc 3 (x3 + 1) [(3, .int (x3 + 1)), (0, .ref a0), (1, .int x1), (2, .int x2)] d_Mo_layFalls_77 rfl rfl (by decide) rfl ?_
  refine zi_goto (tgt := 17) d_Mo_layFalls_80 rfl ?_
  refine zi_lo [(0, .ref a0), (1, .int x1), (2, .int x2), (3, .int (x3 + 1))] [1, 2, 3, 0] rfl ?_
  exact hr17 a0 x1 x2 (x3 + 1) m_1 h
theorem K_Mo_layFalls_L17 (n : Nat) (E : zE) (S : zS) (r2 : Nat × Int32 × zH → Option (zH)) (r9 : Nat × Int32 × Int32 × zH → Option (zH)) (r17 : Nat × Int32 × Int32 × Int32 × zH → Option (zH)) (a0 : Nat) (x1 : Int32) (x2 : Int32) (x3 : Int32) (M : zH) (M' : zH) (hr2 : ∀ (a0 : Nat) (x1 : Int32) (M : zH), r2 (a0, x1, M) = some M' → zG E Y_Mo_layFalls (none, S, M') 2 [(0, .ref a0), (1, .int x1)] [] S M 0 0) (hr9 : ∀ (a0 : Nat) (x1 : Int32) (x2 : Int32) (M : zH), r9 (a0, x1, x2, M) = some M' → zG E Y_Mo_layFalls (none, S, M') 9 [(0, .ref a0), (1, .int x1), (2, .int x2)] [] S M 0 0) (hr17 : ∀ (a0 : Nat) (x1 : Int32) (x2 : Int32) (x3 : Int32) (M : zH), r17 (a0, x1, x2, x3, M) = some M' → zG E Y_Mo_layFalls (none, S, M') 17 [(0, .ref a0), (1, .int x1), (2, .int x2), (3, .int x3)] [] S M 0 0) (h : F_Mo_layFalls_L17 n E S r2 r9 r17 a0 x1 x2 x3 M = some M') : zG E Y_Mo_layFalls (none, S, M') 17 [(0, .ref a0), (1, .int x1), (2, .int x2), (3, .int x3)] [] S M 0 0 := by
  unfold F_Mo_layFalls_L17 at h
  refine zi_iload_n 3 d_Mo_layFalls_17 rfl ?_
  refine zi_bipush 8 d_Mo_layFalls_18 rfl ?_
  refine zi_icmp_ge (tgt := 83) d_Mo_layFalls_20 rfl (fun c_2 => ?_) (fun c_2 => ?_)
  · rw [if_pos c_2] at h
    refine zi_iinc 2 (x2 + 1) [(2, .int (x2 + 1)), (0, .ref a0), (1, .int x1), (3, .int x3)] d_Mo_layFalls_83 rfl rfl (by decide) rfl ?_
    refine zi_goto (tgt := 9) d_Mo_layFalls_86 rfl ?_
    refine zi_lo [(0, .ref a0), (1, .int x1), (2, .int (x2 + 1))] [1, 2, 0] rfl ?_
    exact hr9 a0 x1 (x2 + 1) M h
  · rw [if_neg c_2] at h
    refine zi_aload_n 0 d_Mo_layFalls_23 rfl ?_
    refine zi_iload_n 1 d_Mo_layFalls_24 rfl ?_
    refine zi_iload_n 3 d_Mo_layFalls_25 rfl ?_
    refine zi_iload_n 2 d_Mo_layFalls_26 rfl ?_
    obtain ⟨u_3, eu_3, h⟩ := zbind h
    obtain ⟨q_4, eq_4, h⟩ := zbind h
    refine zo_virt (k' := 0) (n' := 0) 30 [.int x1, .int x3, .int x2] [] [.int q_4.1] zkd_11 (zck_s eu_3) (C_Mo_holeAbove n E S a0 x1 x3 x2 M q_4.1 q_4.2 eq_4) d_Mo_layFalls_27 tw_1529 tw_1526 tw_1528 ts_52 tw_13 dd_Mo_holeAbove ⟨Nat.le_of_ble_eq_true rfl, Nat.le_of_ble_eq_true rfl, Nat.le_of_ble_eq_true rfl, Nat.le_of_ble_eq_true rfl⟩ (Nat.le_of_ble_eq_true rfl) rfl rfl rfl rfl ?_
    refine zi_istore [(4, .int q_4.1), (0, .ref a0), (1, .int x1), (2, .int x2), (3, .int x3)] d_Mo_layFalls_30 (by decide) rfl ?_
    refine zi_aload_n 1 d_Mo_layFalls_32 rfl ?_
    obtain ⟨b_5, eb_5, h⟩ := zbind h
    refine zo_getR 36 zkd_11 45 d_Mo_layFalls_33 eb_5 rfl tw_1276 rfl ?_
    refine zi_bipush 64 d_Mo_layFalls_36 rfl ?_
    refine zi_iload_n 2 d_Mo_layFalls_38 rfl ?_
    refine zi_imul d_Mo_layFalls_39 ?_
    refine zi_bipush 8 d_Mo_layFalls_40 rfl ?_
    refine zi_iload_n 3 d_Mo_layFalls_42 rfl ?_
    refine zi_imul d_Mo_layFalls_43 ?_
    refine zi_iadd d_Mo_layFalls_44 ?_
    refine zi_iload_n 4 d_Mo_layFalls_45 rfl ?_
    refine zi_iadd d_Mo_layFalls_46 ?_
    refine zi_aload_n 1 d_Mo_layFalls_47 rfl ?_
    obtain ⟨b_6, eb_6, h⟩ := zbind h
    refine zo_getR 51 zkd_11 3 d_Mo_layFalls_48 eb_6 rfl tw_1234 rfl ?_
    refine zi_bipush 44 d_Mo_layFalls_51 rfl ?_
    refine zi_iload_n 2 d_Mo_layFalls_53 rfl ?_
    refine zi_iadd d_Mo_layFalls_54 ?_
    obtain ⟨v_7, ev_7, h⟩ := zbind h
    refine zo_iald 56 d_Mo_layFalls_55 ev_7 rfl ?_
    refine zi_iload 0 d_Mo_layFalls_56 rfl ?_
    obtain ⟨q_8, eq_8, h⟩ := zbind h
    refine zo_stat (k' := 0) (n' := 0) 61 [.int v_7, .int q_4.1] [.int (((64 * x1) + (8 * x2)) + x3), .ref b_5] [.int (bI q_8.1), .int (((64 * x1) + (8 * x2)) + x3), .ref b_5] (C_Mo_is n E S v_7 q_4.1 q_4.2 q_8.1 q_8.2 eq_8) d_Mo_layFalls_58 tw_1444 tw_1442 tw_1443 tw_13 dd_Mo_is ⟨Nat.le_of_ble_eq_true rfl, Nat.le_of_ble_eq_true rfl, Nat.le_of_ble_eq_true rfl, Nat.le_of_ble_eq_true rfl⟩ (Nat.le_of_ble_eq_true rfl) rfl rfl rfl rfl ?_
    refine zo_ifeqB d_Mo_layFalls_61 rfl 64 rfl (fun c_9 => ?_) (fun c_9 => ?_)
    · rw [if_neg c_9] at h
      refine zi_aload_n 1 d_Mo_layFalls_68 rfl ?_
      refine zi_iload_n 2 d_Mo_layFalls_69 rfl ?_
      refine zi_iload 0 d_Mo_layFalls_70 rfl ?_
      refine zi_iload_n 4 d_Mo_layFalls_72 rfl ?_
      obtain ⟨q_10, eq_10, h⟩ := zbind h
      refine zo_virt (k' := 0) (n' := 0) 76 [.int x1, .int q_4.1, .int x3] [.int (((64 * x1) + (8 * x2)) + x3), .ref b_5] [.int q_10.1, .int (((64 * x1) + (8 * x2)) + x3), .ref b_5] zkd_11 (zck_s eu_3) (C_Mo_runsOf n E S a0 x1 q_4.1 x3 q_8.2 q_10.1 q_10.2 eq_10) d_Mo_layFalls_73 tw_1448 tw_1445 tw_1447 ts_39 tw_13 dd_Mo_runsOf ⟨Nat.le_of_ble_eq_true rfl, Nat.le_of_ble_eq_true rfl, Nat.le_of_ble_eq_true rfl, Nat.le_of_ble_eq_true rfl⟩ (Nat.le_of_ble_eq_true rfl) rfl rfl rfl rfl ?_
      refine zi_lo [(0, .ref a0), (1, .int x1), (2, .int x2), (3, .int x3)] [1, 2, 3, 4] rfl ?_
      exact K_Mo_layFalls_b76 n E S r2 r9 r17 a0 x1 x2 x3 q_10.1 (((64 * x1) + (8 * x2)) + x3) b_5 q_10.2 M' hr2 hr9 hr17 h
    · rw [if_pos c_9] at h
      refine zi_iconst 0 d_Mo_layFalls_64 rfl ?_
      refine zi_goto (tgt := 76) d_Mo_layFalls_65 rfl ?_
      refine zi_lo [(0, .ref a0), (1, .int x1), (2, .int x2), (3, .int x3)] [1, 2, 3, 4] rfl ?_
      exact K_Mo_layFalls_b76 n E S r2 r9 r17 a0 x1 x2 x3 0 (((64 * x1) + (8 * x2)) + x3) b_5 q_8.2 M' hr2 hr9 hr17 h
theorem K_Mo_layFalls_b17 (n : Nat) (E : zE) (S : zS) (r2 : Nat × Int32 × zH → Option (zH)) (r9 : Nat × Int32 × Int32 × zH → Option (zH)) (a0 : Nat) (x1 : Int32) (x2 : Int32) (x3 : Int32) (M : zH) (M' : zH) (hr2 : ∀ (a0 : Nat) (x1 : Int32) (M : zH), r2 (a0, x1, M) = some M' → zG E Y_Mo_layFalls (none, S, M') 2 [(0, .ref a0), (1, .int x1)] [] S M 0 0) (hr9 : ∀ (a0 : Nat) (x1 : Int32) (x2 : Int32) (M : zH), r9 (a0, x1, x2, M) = some M' → zG E Y_Mo_layFalls (none, S, M') 9 [(0, .ref a0), (1, .int x1), (2, .int x2)] [] S M 0 0) (h : F_Mo_layFalls_b17 n E S r2 r9 (a0, x1, x2, x3, M) = some M') : zG E Y_Mo_layFalls (none, S, M') 17 [(0, .ref a0), (1, .int x1), (2, .int x2), (3, .int x3)] [] S M 0 0 := by
  have key : ∀ (k : Nat) (a0 : Nat) (x1 : Int32) (x2 : Int32) (x3 : Int32) (M : zH), zfix (fun r17 s => F_Mo_layFalls_L17 n E S r2 r9 r17 s.1 s.2.1 s.2.2.1 s.2.2.2.1 s.2.2.2.2) k (a0, x1, x2, x3, M) = some M' → zG E Y_Mo_layFalls (none, S, M') 17 [(0, .ref a0), (1, .int x1), (2, .int x2), (3, .int x3)] [] S M 0 0 := by
    intro k
    induction k with
    | zero => intro a0 x1 x2 x3 M h; cases h
    | succ k ih => intro a0 x1 x2 x3 M h; exact K_Mo_layFalls_L17 n E S r2 r9 _ a0 x1 x2 x3 M M' hr2 hr9 (fun a0 x1 x2 x3 M h => ih a0 x1 x2 x3 M h) h
  exact key n a0 x1 x2 x3 M h
theorem K_Mo_layFalls_L9 (n : Nat) (E : zE) (S : zS) (r2 : Nat × Int32 × zH → Option (zH)) (r9 : Nat × Int32 × Int32 × zH → Option (zH)) (a0 : Nat) (x1 : Int32) (x2 : Int32) (M : zH) (M' : zH) (hr2 : ∀ (a0 : Nat) (x1 : Int32) (M : zH), r2 (a0, x1, M) = some M' → zG E Y_Mo_layFalls (none, S, M') 2 [(0, .ref a0), (1, .int x1)] [] S M 0 0) (hr9 : ∀ (a0 : Nat) (x1 : Int32) (x2 : Int32) (M : zH), r9 (a0, x1, x2, M) = some M' → zG E Y_Mo_layFalls (none, S, M') 9 [(0, .ref a0), (1, .int x1), (2, .int x2)] [] S M 0 0) (h : F_Mo_layFalls_L9 n E S r2 r9 a0 x1 x2 M = some M') : zG E Y_Mo_layFalls (none, S, M') 9 [(0, .ref a0), (1, .int x1), (2, .int x2)] [] S M 0 0 := by
  unfold F_Mo_layFalls_L9 at h
  refine zi_iload_n 2 d_Mo_layFalls_9 rfl ?_
  refine zi_bipush 8 d_Mo_layFalls_10 rfl ?_
  refine zi_icmp_ge (tgt := 89) d_Mo_layFalls_12 rfl (fun c_11 => ?_) (fun c_11 => ?_)
  · rw [if_pos c_11] at h
    refine zi_iinc 1 (x1 + 1) [(1, .int (x1 + 1)), (0, .ref a0), (2, .int x2)] d_Mo_layFalls_89 rfl rfl (by decide) rfl ?_
    refine zi_goto (tgt := 2) d_Mo_layFalls_92 rfl ?_
    refine zi_lo [(0, .ref a0), (1, .int (x1 + 1))] [1, 0] rfl ?_
    exact hr2 a0 (x1 + 1) M h
  · rw [if_neg c_11] at h
    refine zi_iconst 0 d_Mo_layFalls_15 rfl ?_
    refine zi_istore_n [(3, .int 0), (0, .ref a0), (1, .int x1), (2, .int x2)] d_Mo_layFalls_16 (by decide) rfl ?_
    refine zi_lo [(0, .ref a0), (1, .int x1), (2, .int x2), (3, .int 0)] [1, 2, 3, 0] rfl ?_
    exact K_Mo_layFalls_b17 n E S r2 r9 a0 x1 x2 0 M M' hr2 hr9 h
theorem K_Mo_layFalls_b9 (n : Nat) (E : zE) (S : zS) (r2 : Nat × Int32 × zH → Option (zH)) (a0 : Nat) (x1 : Int32) (x2 : Int32) (M : zH) (M' : zH) (hr2 : ∀ (a0 : Nat) (x1 : Int32) (M : zH), r2 (a0, x1, M) = some M' → zG E Y_Mo_layFalls (none, S, M') 2 [(0, .ref a0), (1, .int x1)] [] S M 0 0) (h : F_Mo_layFalls_b9 n E S r2 (a0, x1, x2, M) = some M') : zG E Y_Mo_layFalls (none, S, M') 9 [(0, .ref a0), (1, .int x1), (2, .int x2)] [] S M 0 0 := by
  have key : ∀ (k : Nat) (a0 : Nat) (x1 : Int32) (x2 : Int32) (M : zH), zfix (fun r9 s => F_Mo_layFalls_L9 n E S r2 r9 s.1 s.2.1 s.2.2.1 s.2.2.2) k (a0, x1, x2, M) = some M' → zG E Y_Mo_layFalls (none, S, M') 9 [(0, .ref a0), (1, .int x1), (2, .int x2)] [] S M 0 0 := by
    intro k
    induction k with
    | zero => intro a0 x1 x2 M h; cases h
    | succ k ih => intro a0 x1 x2 M h; exact K_Mo_layFalls_L9 n E S r2 _ a0 x1 x2 M M' hr2 (fun a0 x1 x2 M h => ih a0 x1 x2 M h) h
  exact key n a0 x1 x2 M h
theorem K_Mo_layFalls_L2 (n : Nat) (E : zE) (S : zS) (r2 : Nat × Int32 × zH → Option (zH)) (a0 : Nat) (x1 : Int32) (M : zH) (M' : zH) (hr2 : ∀ (a0 : Nat) (x1 : Int32) (M : zH), r2 (a0, x1, M) = some M' → zG E Y_Mo_layFalls (none, S, M') 2 [(0, .ref a0), (1, .int x1)] [] S M 0 0) (h : F_Mo_layFalls_L2 n E S r2 a0 x1 M = some M') : zG E Y_Mo_layFalls (none, S, M') 2 [(0, .ref a0), (1, .int x1)] [] S M 0 0 := by
  unfold F_Mo_layFalls_L2 at h
  refine zi_iload_n 1 d_Mo_layFalls_2 rfl ?_
  refine zi_iconst 4 d_Mo_layFalls_3 rfl ?_
  refine zi_icmp_ge (tgt := 95) d_Mo_layFalls_4 rfl (fun c_12 => ?_) (fun c_12 => ?_)
  · rw [if_pos c_12] at h
    cases h
    exact zo_ret d_Mo_layFalls_95 (Nat.le_of_ble_eq_true rfl) (Nat.le_of_ble_eq_true rfl) rfl
  · rw [if_neg c_12] at h
    refine zi_iconst 0 d_Mo_layFalls_7 rfl ?_
    refine zi_istore_n [(2, .int 0), (0, .ref a0), (1, .int x1)] d_Mo_layFalls_8 (by decide) rfl ?_
    refine zi_lo [(0, .ref a0), (1, .int x1), (2, .int 0)] [1, 2, 0] rfl ?_
    exact K_Mo_layFalls_b9 n E S r2 a0 x1 0 M M' hr2 h
theorem K_Mo_layFalls_b2 (n : Nat) (E : zE) (S : zS) (a0 : Nat) (x1 : Int32) (M : zH) (M' : zH)  (h : F_Mo_layFalls_b2 n E S (a0, x1, M) = some M') : zG E Y_Mo_layFalls (none, S, M') 2 [(0, .ref a0), (1, .int x1)] [] S M 0 0 := by
  have key : ∀ (k : Nat) (a0 : Nat) (x1 : Int32) (M : zH), zfix (fun r2 s => F_Mo_layFalls_L2 n E S r2 s.1 s.2.1 s.2.2) k (a0, x1, M) = some M' → zG E Y_Mo_layFalls (none, S, M') 2 [(0, .ref a0), (1, .int x1)] [] S M 0 0 := by
    intro k
    induction k with
    | zero => intro a0 x1 M h; cases h
    | succ k ih => intro a0 x1 M h; exact K_Mo_layFalls_L2 n E S _ a0 x1 M M'  (fun a0 x1 M h => ih a0 x1 M h) h
  exact key n a0 x1 M h
theorem K_Mo_layFalls (n : Nat) (E : zE) (S : zS) (a0 : Nat) (M : zH) (M' : zH)  (h : F_Mo_layFalls n E S a0 M = some M') : zG E Y_Mo_layFalls (none, S, M') 0 [(0, .ref a0)] [] S M 0 0 := by
  unfold F_Mo_layFalls at h
  refine zi_iconst 0 d_Mo_layFalls_0 rfl ?_
  refine zi_istore_n [(1, .int 0), (0, .ref a0)] d_Mo_layFalls_1 (by decide) rfl ?_
  refine zi_lo [(0, .ref a0), (1, .int 0)] [1, 0] rfl ?_
  exact K_Mo_layFalls_b2 n E S a0 0 M M'  h
theorem C_Mo_layFalls (n : Nat) (E : zE) (S : zS) (a0 : Nat) (M : zH) (M' : zH) (h : F_Mo_layFalls n E S a0 M = some M') : zC E Y_Mo_layFalls [.ref a0] S M (none, S, M') :=
  zC.of (Or.inl (show plainName "NightColanderModel" = true by decide)) (Nat.le_of_ble_eq_true rfl) (trivial) (K_Mo_layFalls n E S a0 M M' h)
theorem d_Mo_settings_0 : decode (yB Y_Mo_settings) 0 = .ok (.aload_n 0, 1) := by decide +kernel
theorem d_Mo_settings_1 : decode (yB Y_Mo_settings) 1 = .ok (.iconst 0, 1) := by decide +kernel
theorem d_Mo_settings_2 : decode (yB Y_Mo_settings) 2 = .ok (.putfield 156, 3) := by decide +kernel
theorem d_Mo_settings_5 : decode (yB Y_Mo_settings) 5 = .ok (.aload_n 0, 1) := by decide +kernel
theorem d_Mo_settings_6 : decode (yB Y_Mo_settings) 6 = .ok (.invokevirtual 487, 3) := by decide +kernel
theorem d_Mo_settings_9 : decode (yB Y_Mo_settings) 9 = .ok (.iconst 0, 1) := by decide +kernel
theorem d_Mo_settings_10 : decode (yB Y_Mo_settings) 10 = .ok (.istore_n 2, 1) := by decide +kernel
theorem d_Mo_settings_11 : decode (yB Y_Mo_settings) 11 = .ok (.iconst (-1), 1) := by decide +kernel
theorem d_Mo_settings_12 : decode (yB Y_Mo_settings) 12 = .ok (.istore_n 3, 1) := by decide +kernel
theorem d_Mo_settings_13 : decode (yB Y_Mo_settings) 13 = .ok (.iconst 0, 1) := by decide +kernel
theorem d_Mo_settings_14 : decode (yB Y_Mo_settings) 14 = .ok (.istore 4, 2) := by decide +kernel
theorem d_Mo_settings_16 : decode (yB Y_Mo_settings) 16 = .ok (.iload 4, 2) := by decide +kernel
theorem d_Mo_settings_18 : decode (yB Y_Mo_settings) 18 = .ok (.sipush 4096, 3) := by decide +kernel
theorem d_Mo_settings_21 : decode (yB Y_Mo_settings) 21 = .ok (.if_icmp .ge 36, 3) := by decide +kernel
theorem d_Mo_settings_24 : decode (yB Y_Mo_settings) 24 = .ok (.aload_n 0, 1) := by decide +kernel
theorem d_Mo_settings_25 : decode (yB Y_Mo_settings) 25 = .ok (.iload 4, 2) := by decide +kernel
theorem d_Mo_settings_27 : decode (yB Y_Mo_settings) 27 = .ok (.invokevirtual 490, 3) := by decide +kernel
theorem d_Mo_settings_30 : decode (yB Y_Mo_settings) 30 = .ok (.ifCond .eq 21, 3) := by decide +kernel
theorem d_Mo_settings_33 : decode (yB Y_Mo_settings) 33 = .ok (.iload_n 2, 1) := by decide +kernel
theorem d_Mo_settings_34 : decode (yB Y_Mo_settings) 34 = .ok (.iload_n 1, 1) := by decide +kernel
theorem d_Mo_settings_35 : decode (yB Y_Mo_settings) 35 = .ok (.if_icmp .ne 11, 3) := by decide +kernel
theorem d_Mo_settings_38 : decode (yB Y_Mo_settings) 38 = .ok (.iload 4, 2) := by decide +kernel
theorem d_Mo_settings_40 : decode (yB Y_Mo_settings) 40 = .ok (.invokestatic 493, 3) := by decide +kernel
theorem d_Mo_settings_43 : decode (yB Y_Mo_settings) 43 = .ok (.goto 4, 3) := by decide +kernel
theorem d_Mo_settings_46 : decode (yB Y_Mo_settings) 46 = .ok (.iload_n 3, 1) := by decide +kernel
theorem d_Mo_settings_47 : decode (yB Y_Mo_settings) 47 = .ok (.istore_n 3, 1) := by decide +kernel
theorem d_Mo_settings_48 : decode (yB Y_Mo_settings) 48 = .ok (.iinc 2 1, 3) := by decide +kernel
theorem d_Mo_settings_51 : decode (yB Y_Mo_settings) 51 = .ok (.iinc 4 1, 3) := by decide +kernel
theorem d_Mo_settings_54 : decode (yB Y_Mo_settings) 54 = .ok (.goto (-38), 3) := by decide +kernel
theorem d_Mo_settings_57 : decode (yB Y_Mo_settings) 57 = .ok (.iload_n 1, 1) := by decide +kernel
theorem d_Mo_settings_58 : decode (yB Y_Mo_settings) 58 = .ok (.iconst (-1), 1) := by decide +kernel
theorem d_Mo_settings_59 : decode (yB Y_Mo_settings) 59 = .ok (.if_icmp .ne 7, 3) := by decide +kernel
theorem d_Mo_settings_62 : decode (yB Y_Mo_settings) 62 = .ok (.iload_n 2, 1) := by decide +kernel
theorem d_Mo_settings_63 : decode (yB Y_Mo_settings) 63 = .ok (.goto 4, 3) := by decide +kernel
theorem d_Mo_settings_66 : decode (yB Y_Mo_settings) 66 = .ok (.iload_n 3, 1) := by decide +kernel
theorem d_Mo_settings_67 : decode (yB Y_Mo_settings) 67 = .ok (.ireturn, 1) := by decide +kernel
def F_Mo_settings_b51 (n : Nat) (E : zE) (S : zS) (r16 : Nat × Int32 × Int32 × Int32 × Int32 × zH → Option (Int32 × zH)) (a0 : Nat) (x1 : Int32) (x2 : Int32) (x3 : Int32) (x4 : Int32) (M : zH) : Option (Int32 × zH) :=
  r16 (a0, x1, x2, x3, x4 + 1, M)
def F_Mo_settings_b47 (n : Nat) (E : zE) (S : zS) (r16 : Nat × Int32 × Int32 × Int32 × Int32 × zH → Option (Int32 × zH)) (a0 : Nat) (x1 : Int32) (x2 : Int32) (x4 : Int32) (s0 : Int32) (M : zH) : Option (Int32 × zH) :=
  F_Mo_settings_b51 n E S r16 a0 x1 (x2 + 1) s0 x4 M
def F_Mo_settings_L16 (n : Nat) (E : zE) (S : zS) (r16 : Nat × Int32 × Int32 × Int32 × Int32 × zH → Option (Int32 × zH)) (a0 : Nat) (x1 : Int32) (x2 : Int32) (x3 : Int32) (x4 : Int32) (M : zH) : Option (Int32 × zH) :=
  if 4096 ≤ x4 then
    if x1 = (-1) then
      some (x2, M)
    else
      some (x3, M)
  else
    (zck S a0 11).bind fun u_3 =>
    (F_Mo_canBe n E S a0 x4 M).bind fun q_4 =>
    if q_4.1 = true then
      if x2 = x1 then
        (F_Mo_inDigits n E S x4 q_4.2).bind fun q_7 =>
        F_Mo_settings_b47 n E S r16 a0 x1 x2 x4 q_7.1 q_7.2
      else
        F_Mo_settings_b47 n E S r16 a0 x1 x2 x4 x3 q_4.2
    else
      F_Mo_settings_b51 n E S r16 a0 x1 x2 x3 x4 q_4.2
def F_Mo_settings_b16 (n : Nat) (E : zE) (S : zS) : Nat × Int32 × Int32 × Int32 × Int32 × zH → Option (Int32 × zH) := zfix (fun r16 s => F_Mo_settings_L16 n E S r16 s.1 s.2.1 s.2.2.1 s.2.2.2.1 s.2.2.2.2.1 s.2.2.2.2.2) n
def F_Mo_settings (n : Nat) (E : zE) (S : zS) (a0 : Nat) (x1 : Int32) (M : zH) : Option (Int32 × zH) :=
  (zpI S M a0 11 0 0).bind fun m_8 =>
  (zck S a0 11).bind fun u_9 =>
  (F_Mo_layFalls n E S a0 m_8).bind fun q_10 =>
  F_Mo_settings_b16 n E S (a0, x1, 0, (-1), 0, q_10)
theorem K_Mo_settings_b51 (n : Nat) (E : zE) (S : zS) (r16 : Nat × Int32 × Int32 × Int32 × Int32 × zH → Option (Int32 × zH)) (a0 : Nat) (x1 : Int32) (x2 : Int32) (x3 : Int32) (x4 : Int32) (M : zH) (r : Int32) (M' : zH) (hr16 : ∀ (a0 : Nat) (x1 : Int32) (x2 : Int32) (x3 : Int32) (x4 : Int32) (M : zH), r16 (a0, x1, x2, x3, x4, M) = some (r, M') → zG E Y_Mo_settings (some (.int r), S, M') 16 [(0, .ref a0), (1, .int x1), (2, .int x2), (3, .int x3), (4, .int x4)] [] S M 0 0) (h : F_Mo_settings_b51 n E S r16 a0 x1 x2 x3 x4 M = some (r, M')) : zG E Y_Mo_settings (some (.int r), S, M') 51 [(0, .ref a0), (1, .int x1), (2, .int x2), (3, .int x3), (4, .int x4)] [] S M 0 0 := by
  unfold F_Mo_settings_b51 at h
  refine zi_iinc 4 (x4 + 1) [(4, .int (x4 + 1)), (0, .ref a0), (1, .int x1), (2, .int x2), (3, .int x3)] d_Mo_settings_51 rfl rfl (by decide) rfl ?_
  refine zi_goto (tgt := 16) d_Mo_settings_54 rfl ?_
  refine zi_lo [(0, .ref a0), (1, .int x1), (2, .int x2), (3, .int x3), (4, .int (x4 + 1))] [1, 2, 3, 4, 0] rfl ?_
  exact hr16 a0 x1 x2 x3 (x4 + 1) M h
theorem K_Mo_settings_b47 (n : Nat) (E : zE) (S : zS) (r16 : Nat × Int32 × Int32 × Int32 × Int32 × zH → Option (Int32 × zH)) (a0 : Nat) (x1 : Int32) (x2 : Int32) (x4 : Int32) (s0 : Int32) (M : zH) (r : Int32) (M' : zH) (hr16 : ∀ (a0 : Nat) (x1 : Int32) (x2 : Int32) (x3 : Int32) (x4 : Int32) (M : zH), r16 (a0, x1, x2, x3, x4, M) = some (r, M') → zG E Y_Mo_settings (some (.int r), S, M') 16 [(0, .ref a0), (1, .int x1), (2, .int x2), (3, .int x3), (4, .int x4)] [] S M 0 0) (h : F_Mo_settings_b47 n E S r16 a0 x1 x2 x4 s0 M = some (r, M')) : zG E Y_Mo_settings (some (.int r), S, M') 47 [(0, .ref a0), (1, .int x1), (2, .int x2), (4, .int x4)] [.int s0] S M 0 0 := by
  unfold F_Mo_settings_b47 at h
  refine zi_istore_n [(3, .int s0), (0, .ref a0), (1, .int x1), (2, .int x2), (4, .int x4)] d_Mo_settings_47 (by decide) rfl ?_
  refine zi_iinc 3 (x2 + 1) [(2, .int (x2 + 1)), (3, .int s0), (0, .ref a0), (1, .int x1), (4, .int x4)] d_Mo_settings_48 rfl rfl (by decide) rfl ?_
  refine zi_lo [(0, .ref a0), (1, .int x1), (2, .int (x2 + 1)), (3, .int s0), (4, .int x4)] [2, 3, 0, 1, 4] rfl ?_
  exact K_Mo_settings_b51 n E S r16 a0 x1 (x2 + 1) s0 x4 M r M' hr16 h
theorem K_Mo_settings_L16 (n : Nat) (E : zE) (S : zS) (r16 : Nat × Int32 × Int32 × Int32 × Int32 × zH → Option (Int32 × zH)) (a0 : Nat) (x1 : Int32) (x2 : Int32) (x3 : Int32) (x4 : Int32) (M : zH) (r : Int32) (M' : zH) (hr16 : ∀ (a0 : Nat) (x1 : Int32) (x2 : Int32) (x3 : Int32) (x4 : Int32) (M : zH), r16 (a0, x1, x2, x3, x4, M) = some (r, M') → zG E Y_Mo_settings (some (.int r), S, M') 16 [(0, .ref a0), (1, .int x1), (2, .int x2), (3, .int x3), (4, .int x4)] [] S M 0 0) (h : F_Mo_settings_L16 n E S r16 a0 x1 x2 x3 x4 M = some (r, M')) : zG E Y_Mo_settings (some (.int r), S, M') 16 [(0, .ref a0), (1, .int x1), (2, .int x2), (3, .int x3), (4, .int x4)] [] S M 0 0 := by
  unfold F_Mo_settings_L16 at h
  refine zi_iload 4 d_Mo_settings_16 rfl ?_
  refine zi_sipush 4096 d_Mo_settings_18 rfl ?_
  refine zi_icmp_ge (tgt := 57) d_Mo_settings_21 rfl (fun c_1 => ?_) (fun c_1 => ?_)
  · rw [if_pos c_1] at h
    refine zi_iload_n 1 d_Mo_settings_57 rfl ?_
    refine zi_iconst (-1) d_Mo_settings_58 rfl ?_
    refine zi_icmp_ne (tgt := 66) d_Mo_settings_59 rfl (fun c_2 => ?_) (fun c_2 => ?_)
    · rw [if_neg c_2] at h
      refine zi_iload_n 3 d_Mo_settings_66 rfl ?_
      cases h
      exact zo_ret d_Mo_settings_67 (Nat.le_of_ble_eq_true rfl) (Nat.le_of_ble_eq_true rfl) rfl
    · rw [if_pos c_2] at h
      refine zi_iload_n 2 d_Mo_settings_62 rfl ?_
      refine zi_goto (tgt := 67) d_Mo_settings_63 rfl ?_
      cases h
      exact zo_ret d_Mo_settings_67 (Nat.le_of_ble_eq_true rfl) (Nat.le_of_ble_eq_true rfl) rfl
  · rw [if_neg c_1] at h
    refine zi_aload_n 0 d_Mo_settings_24 rfl ?_
    refine zi_iload 4 d_Mo_settings_25 rfl ?_
    obtain ⟨u_3, eu_3, h⟩ := zbind h
    obtain ⟨q_4, eq_4, h⟩ := zbind h
    refine zo_virt (k' := 0) (n' := 0) 30 [.int x4] [] [.int (bI q_4.1)] zkd_11 (zck_s eu_3) (C_Mo_canBe n E S a0 x4 M q_4.1 q_4.2 eq_4) d_Mo_settings_27 tw_1786 tw_1783 tw_1785 ts_92 tw_13 dd_Mo_canBe ⟨Nat.le_of_ble_eq_true rfl, Nat.le_of_ble_eq_true rfl, Nat.le_of_ble_eq_true rfl, Nat.le_of_ble_eq_true rfl⟩ (Nat.le_of_ble_eq_true rfl) rfl rfl rfl rfl ?_
    refine zo_ifeqB d_Mo_settings_30 rfl 33 rfl (fun c_5 => ?_) (fun c_5 => ?_)
    · rw [if_neg c_5] at h
      refine zi_lo [(0, .ref a0), (1, .int x1), (2, .int x2), (3, .int x3), (4, .int x4)] [0, 1, 2, 3, 4] rfl ?_
      exact K_Mo_settings_b51 n E S r16 a0 x1 x2 x3 x4 q_4.2 r M' hr16 h
    · rw [if_pos c_5] at h
      refine zi_iload_n 2 d_Mo_settings_33 rfl ?_
      refine zi_iload_n 1 d_Mo_settings_34 rfl ?_
      refine zi_icmp_ne (tgt := 46) d_Mo_settings_35 rfl (fun c_6 => ?_) (fun c_6 => ?_)
      · rw [if_neg c_6] at h
        refine zi_iload_n 3 d_Mo_settings_46 rfl ?_
        refine zi_lo [(0, .ref a0), (1, .int x1), (2, .int x2), (4, .int x4)] [0, 1, 2, 4] rfl ?_
        exact K_Mo_settings_b47 n E S r16 a0 x1 x2 x4 x3 q_4.2 r M' hr16 h
      · rw [if_pos c_6] at h
        refine zi_iload 4 d_Mo_settings_38 rfl ?_
        obtain ⟨q_7, eq_7, h⟩ := zbind h
        refine zo_stat (k' := 0) (n' := 0) 43 [.int x4] [] [.int q_7.1] (C_Mo_inDigits n E S x4 q_4.2 q_7.1 q_7.2 eq_7) d_Mo_settings_40 tw_1796 tw_1794 tw_1795 tw_13 dd_Mo_inDigits ⟨Nat.le_of_ble_eq_true rfl, Nat.le_of_ble_eq_true rfl, Nat.le_of_ble_eq_true rfl, Nat.le_of_ble_eq_true rfl⟩ (Nat.le_of_ble_eq_true rfl) rfl rfl rfl rfl ?_
        refine zi_goto (tgt := 47) d_Mo_settings_43 rfl ?_
        refine zi_lo [(0, .ref a0), (1, .int x1), (2, .int x2), (4, .int x4)] [0, 1, 2, 4] rfl ?_
        exact K_Mo_settings_b47 n E S r16 a0 x1 x2 x4 q_7.1 q_7.2 r M' hr16 h
theorem K_Mo_settings_b16 (n : Nat) (E : zE) (S : zS) (a0 : Nat) (x1 : Int32) (x2 : Int32) (x3 : Int32) (x4 : Int32) (M : zH) (r : Int32) (M' : zH)  (h : F_Mo_settings_b16 n E S (a0, x1, x2, x3, x4, M) = some (r, M')) : zG E Y_Mo_settings (some (.int r), S, M') 16 [(0, .ref a0), (1, .int x1), (2, .int x2), (3, .int x3), (4, .int x4)] [] S M 0 0 := by
  have key : ∀ (k : Nat) (a0 : Nat) (x1 : Int32) (x2 : Int32) (x3 : Int32) (x4 : Int32) (M : zH), zfix (fun r16 s => F_Mo_settings_L16 n E S r16 s.1 s.2.1 s.2.2.1 s.2.2.2.1 s.2.2.2.2.1 s.2.2.2.2.2) k (a0, x1, x2, x3, x4, M) = some (r, M') → zG E Y_Mo_settings (some (.int r), S, M') 16 [(0, .ref a0), (1, .int x1), (2, .int x2), (3, .int x3), (4, .int x4)] [] S M 0 0 := by
    intro k
    induction k with
    | zero => intro a0 x1 x2 x3 x4 M h; cases h
    | succ k ih => intro a0 x1 x2 x3 x4 M h; exact K_Mo_settings_L16 n E S _ a0 x1 x2 x3 x4 M r M'  (fun a0 x1 x2 x3 x4 M h => ih a0 x1 x2 x3 x4 M h) h
  exact key n a0 x1 x2 x3 x4 M h
theorem K_Mo_settings (n : Nat) (E : zE) (S : zS) (a0 : Nat) (x1 : Int32) (M : zH) (r : Int32) (M' : zH)  (h : F_Mo_settings n E S a0 x1 M = some (r, M')) : zG E Y_Mo_settings (some (.int r), S, M') 0 [(0, .ref a0), (1, .int x1)] [] S M 0 0 := by
  unfold F_Mo_settings at h
  refine zi_aload_n 0 d_Mo_settings_0 rfl ?_
  refine zi_iconst 0 d_Mo_settings_1 rfl ?_
  obtain ⟨m_8, em_8, h⟩ := zbind h
  refine zo_putI 5 zkd_11 0 d_Mo_settings_2 em_8 rfl rfl rfl tw_1231 rfl ?_
  refine zi_aload_n 0 d_Mo_settings_5 rfl ?_
  obtain ⟨u_9, eu_9, h⟩ := zbind h
  obtain ⟨q_10, eq_10, h⟩ := zbind h
  refine zo_virt (k' := 0) (n' := 0) 9 [] [] [] zkd_11 (zck_s eu_9) (C_Mo_layFalls n E S a0 m_8 q_10 eq_10) d_Mo_settings_6 tw_1782 tw_1779 tw_1781 ts_91 tw_13 dd_Mo_layFalls ⟨Nat.le_of_ble_eq_true rfl, Nat.le_of_ble_eq_true rfl, Nat.le_of_ble_eq_true rfl, Nat.le_of_ble_eq_true rfl⟩ (Nat.le_of_ble_eq_true rfl) rfl rfl rfl rfl ?_
  refine zi_iconst 0 d_Mo_settings_9 rfl ?_
  refine zi_istore_n [(2, .int 0), (0, .ref a0), (1, .int x1)] d_Mo_settings_10 (by decide) rfl ?_
  refine zi_iconst (-1) d_Mo_settings_11 rfl ?_
  refine zi_istore_n [(3, .int (-1)), (2, .int 0), (0, .ref a0), (1, .int x1)] d_Mo_settings_12 (by decide) rfl ?_
  refine zi_iconst 0 d_Mo_settings_13 rfl ?_
  refine zi_istore [(4, .int 0), (3, .int (-1)), (2, .int 0), (0, .ref a0), (1, .int x1)] d_Mo_settings_14 (by decide) rfl ?_
  refine zi_lo [(0, .ref a0), (1, .int x1), (2, .int 0), (3, .int (-1)), (4, .int 0)] [3, 4, 2, 1, 0] rfl ?_
  exact K_Mo_settings_b16 n E S a0 x1 0 (-1) 0 q_10 r M'  h
theorem C_Mo_settings (n : Nat) (E : zE) (S : zS) (a0 : Nat) (x1 : Int32) (M : zH) (r : Int32) (M' : zH) (h : F_Mo_settings n E S a0 x1 M = some (r, M')) : zC E Y_Mo_settings [.ref a0, .int x1] S M (some (.int r), S, M') :=
  zC.of (Or.inl (show plainName "NightColanderModel" = true by decide)) (Nat.le_of_ble_eq_true rfl) (trivial) (K_Mo_settings n E S a0 x1 M r M' h)
theorem d_Mo_look_0 : decode (yB Y_Mo_look) 0 = .ok (.aload_n 0, 1) := by decide +kernel
theorem d_Mo_look_1 : decode (yB Y_Mo_look) 1 = .ok (.iconst 0, 1) := by decide +kernel
theorem d_Mo_look_2 : decode (yB Y_Mo_look) 2 = .ok (.putfield 156, 3) := by decide +kernel
theorem d_Mo_look_5 : decode (yB Y_Mo_look) 5 = .ok (.iload_n 1, 1) := by decide +kernel
theorem d_Mo_look_6 : decode (yB Y_Mo_look) 6 = .ok (.i2l, 1) := by decide +kernel
theorem d_Mo_look_7 : decode (yB Y_Mo_look) 7 = .ok (.lconst 0, 1) := by decide +kernel
theorem d_Mo_look_8 : decode (yB Y_Mo_look) 8 = .ok (.lconst 1, 1) := by decide +kernel
theorem d_Mo_look_9 : decode (yB Y_Mo_look) 9 = .ok (.invokestatic 176, 3) := by decide +kernel
theorem d_Mo_look_12 : decode (yB Y_Mo_look) 12 = .ok (.ifCond .ne 5, 3) := by decide +kernel
theorem d_Mo_look_15 : decode (yB Y_Mo_look) 15 = .ok (.iconst (-1), 1) := by decide +kernel
theorem d_Mo_look_16 : decode (yB Y_Mo_look) 16 = .ok (.ireturn, 1) := by decide +kernel
theorem d_Mo_look_17 : decode (yB Y_Mo_look) 17 = .ok (.aload_n 0, 1) := by decide +kernel
theorem d_Mo_look_18 : decode (yB Y_Mo_look) 18 = .ok (.invokevirtual 487, 3) := by decide +kernel
theorem d_Mo_look_21 : decode (yB Y_Mo_look) 21 = .ok (.ldc_w 496, 3) := by decide +kernel
theorem d_Mo_look_24 : decode (yB Y_Mo_look) 24 = .ok (.istore_n 2, 1) := by decide +kernel
theorem d_Mo_look_25 : decode (yB Y_Mo_look) 25 = .ok (.iconst (-1), 1) := by decide +kernel
theorem d_Mo_look_26 : decode (yB Y_Mo_look) 26 = .ok (.istore_n 3, 1) := by decide +kernel
theorem d_Mo_look_27 : decode (yB Y_Mo_look) 27 = .ok (.iconst 0, 1) := by decide +kernel
theorem d_Mo_look_28 : decode (yB Y_Mo_look) 28 = .ok (.istore 4, 2) := by decide +kernel
theorem d_Mo_look_30 : decode (yB Y_Mo_look) 30 = .ok (.iload 4, 2) := by decide +kernel
theorem d_Mo_look_32 : decode (yB Y_Mo_look) 32 = .ok (.bipush 8, 2) := by decide +kernel
theorem d_Mo_look_34 : decode (yB Y_Mo_look) 34 = .ok (.if_icmp .ge 146, 3) := by decide +kernel
theorem d_Mo_look_37 : decode (yB Y_Mo_look) 37 = .ok (.iconst 0, 1) := by decide +kernel
theorem d_Mo_look_38 : decode (yB Y_Mo_look) 38 = .ok (.istore 5, 2) := by decide +kernel
theorem d_Mo_look_40 : decode (yB Y_Mo_look) 40 = .ok (.iload 5, 2) := by decide +kernel
theorem d_Mo_look_42 : decode (yB Y_Mo_look) 42 = .ok (.sipush 400, 3) := by decide +kernel
theorem d_Mo_look_45 : decode (yB Y_Mo_look) 45 = .ok (.if_icmp .gt 17, 3) := by decide +kernel
theorem d_Mo_look_48 : decode (yB Y_Mo_look) 48 = .ok (.aload_n 0, 1) := by decide +kernel
theorem d_Mo_look_49 : decode (yB Y_Mo_look) 49 = .ok (.getfield 127, 3) := by decide +kernel
theorem d_Mo_look_52 : decode (yB Y_Mo_look) 52 = .ok (.iload 5, 2) := by decide +kernel
theorem d_Mo_look_54 : decode (yB Y_Mo_look) 54 = .ok (.iconst 0, 1) := by decide +kernel
theorem d_Mo_look_55 : decode (yB Y_Mo_look) 55 = .ok (.iastore, 1) := by decide +kernel
theorem d_Mo_look_56 : decode (yB Y_Mo_look) 56 = .ok (.iinc 5 1, 3) := by decide +kernel
theorem d_Mo_look_59 : decode (yB Y_Mo_look) 59 = .ok (.goto (-19), 3) := by decide +kernel
theorem d_Mo_look_62 : decode (yB Y_Mo_look) 62 = .ok (.iconst 0, 1) := by decide +kernel
theorem d_Mo_look_63 : decode (yB Y_Mo_look) 63 = .ok (.istore 5, 2) := by decide +kernel
theorem d_Mo_look_65 : decode (yB Y_Mo_look) 65 = .ok (.iconst 0, 1) := by decide +kernel
theorem d_Mo_look_66 : decode (yB Y_Mo_look) 66 = .ok (.istore 6, 2) := by decide +kernel
theorem d_Mo_look_68 : decode (yB Y_Mo_look) 68 = .ok (.iload 6, 2) := by decide +kernel
theorem d_Mo_look_70 : decode (yB Y_Mo_look) 70 = .ok (.sipush 4096, 3) := by decide +kernel
theorem d_Mo_look_73 : decode (yB Y_Mo_look) 73 = .ok (.if_icmp .ge 65, 3) := by decide +kernel
theorem d_Mo_look_76 : decode (yB Y_Mo_look) 76 = .ok (.aload_n 0, 1) := by decide +kernel
theorem d_Mo_look_77 : decode (yB Y_Mo_look) 77 = .ok (.iload 6, 2) := by decide +kernel
theorem d_Mo_look_79 : decode (yB Y_Mo_look) 79 = .ok (.invokevirtual 490, 3) := by decide +kernel
theorem d_Mo_look_82 : decode (yB Y_Mo_look) 82 = .ok (.ifCond .eq 50, 3) := by decide +kernel
theorem d_Mo_look_85 : decode (yB Y_Mo_look) 85 = .ok (.aload_n 0, 1) := by decide +kernel
theorem d_Mo_look_86 : decode (yB Y_Mo_look) 86 = .ok (.iload 6, 2) := by decide +kernel
theorem d_Mo_look_88 : decode (yB Y_Mo_look) 88 = .ok (.iload 4, 2) := by decide +kernel
theorem d_Mo_look_90 : decode (yB Y_Mo_look) 90 = .ok (.invokevirtual 484, 3) := by decide +kernel
theorem d_Mo_look_93 : decode (yB Y_Mo_look) 93 = .ok (.istore 7, 2) := by decide +kernel
theorem d_Mo_look_95 : decode (yB Y_Mo_look) 95 = .ok (.aload_n 0, 1) := by decide +kernel
theorem d_Mo_look_96 : decode (yB Y_Mo_look) 96 = .ok (.getfield 127, 3) := by decide +kernel
theorem d_Mo_look_99 : decode (yB Y_Mo_look) 99 = .ok (.iload 7, 2) := by decide +kernel
theorem d_Mo_look_101 : decode (yB Y_Mo_look) 101 = .ok (.dup2, 1) := by decide +kernel
theorem d_Mo_look_102 : decode (yB Y_Mo_look) 102 = .ok (.iaload, 1) := by decide +kernel
theorem d_Mo_look_103 : decode (yB Y_Mo_look) 103 = .ok (.iconst 1, 1) := by decide +kernel
theorem d_Mo_look_104 : decode (yB Y_Mo_look) 104 = .ok (.iadd, 1) := by decide +kernel
theorem d_Mo_look_105 : decode (yB Y_Mo_look) 105 = .ok (.iastore, 1) := by decide +kernel
theorem d_Mo_look_106 : decode (yB Y_Mo_look) 106 = .ok (.aload_n 0, 1) := by decide +kernel
theorem d_Mo_look_107 : decode (yB Y_Mo_look) 107 = .ok (.getfield 127, 3) := by decide +kernel
theorem d_Mo_look_110 : decode (yB Y_Mo_look) 110 = .ok (.iload 7, 2) := by decide +kernel
theorem d_Mo_look_112 : decode (yB Y_Mo_look) 112 = .ok (.iaload, 1) := by decide +kernel
theorem d_Mo_look_113 : decode (yB Y_Mo_look) 113 = .ok (.iload 5, 2) := by decide +kernel
theorem d_Mo_look_115 : decode (yB Y_Mo_look) 115 = .ok (.if_icmp .le 13, 3) := by decide +kernel
theorem d_Mo_look_118 : decode (yB Y_Mo_look) 118 = .ok (.aload_n 0, 1) := by decide +kernel
theorem d_Mo_look_119 : decode (yB Y_Mo_look) 119 = .ok (.getfield 127, 3) := by decide +kernel
theorem d_Mo_look_122 : decode (yB Y_Mo_look) 122 = .ok (.iload 7, 2) := by decide +kernel
theorem d_Mo_look_124 : decode (yB Y_Mo_look) 124 = .ok (.iaload, 1) := by decide +kernel
theorem d_Mo_look_125 : decode (yB Y_Mo_look) 125 = .ok (.goto 5, 3) := by decide +kernel
theorem d_Mo_look_128 : decode (yB Y_Mo_look) 128 = .ok (.iload 5, 2) := by decide +kernel
theorem d_Mo_look_130 : decode (yB Y_Mo_look) 130 = .ok (.istore 5, 2) := by decide +kernel
theorem d_Mo_look_132 : decode (yB Y_Mo_look) 132 = .ok (.iinc 6 1, 3) := by decide +kernel
theorem d_Mo_look_135 : decode (yB Y_Mo_look) 135 = .ok (.goto (-67), 3) := by decide +kernel
theorem d_Mo_look_138 : decode (yB Y_Mo_look) 138 = .ok (.iload 5, 2) := by decide +kernel
theorem d_Mo_look_140 : decode (yB Y_Mo_look) 140 = .ok (.ifCond .le 14, 3) := by decide +kernel
theorem d_Mo_look_143 : decode (yB Y_Mo_look) 143 = .ok (.iload 5, 2) := by decide +kernel
theorem d_Mo_look_145 : decode (yB Y_Mo_look) 145 = .ok (.iload_n 2, 1) := by decide +kernel
theorem d_Mo_look_146 : decode (yB Y_Mo_look) 146 = .ok (.if_icmp .ge 8, 3) := by decide +kernel
theorem d_Mo_look_149 : decode (yB Y_Mo_look) 149 = .ok (.iload 4, 2) := by decide +kernel
theorem d_Mo_look_151 : decode (yB Y_Mo_look) 151 = .ok (.goto 4, 3) := by decide +kernel
theorem d_Mo_look_154 : decode (yB Y_Mo_look) 154 = .ok (.iload_n 3, 1) := by decide +kernel
theorem d_Mo_look_155 : decode (yB Y_Mo_look) 155 = .ok (.istore_n 3, 1) := by decide +kernel
theorem d_Mo_look_156 : decode (yB Y_Mo_look) 156 = .ok (.iload 5, 2) := by decide +kernel
theorem d_Mo_look_158 : decode (yB Y_Mo_look) 158 = .ok (.ifCond .le 14, 3) := by decide +kernel
theorem d_Mo_look_161 : decode (yB Y_Mo_look) 161 = .ok (.iload 5, 2) := by decide +kernel
theorem d_Mo_look_163 : decode (yB Y_Mo_look) 163 = .ok (.iload_n 2, 1) := by decide +kernel
theorem d_Mo_look_164 : decode (yB Y_Mo_look) 164 = .ok (.if_icmp .ge 8, 3) := by decide +kernel
theorem d_Mo_look_167 : decode (yB Y_Mo_look) 167 = .ok (.iload 5, 2) := by decide +kernel
theorem d_Mo_look_169 : decode (yB Y_Mo_look) 169 = .ok (.goto 4, 3) := by decide +kernel
theorem d_Mo_look_172 : decode (yB Y_Mo_look) 172 = .ok (.iload_n 2, 1) := by decide +kernel
theorem d_Mo_look_173 : decode (yB Y_Mo_look) 173 = .ok (.istore_n 2, 1) := by decide +kernel
theorem d_Mo_look_174 : decode (yB Y_Mo_look) 174 = .ok (.iinc 4 1, 3) := by decide +kernel
theorem d_Mo_look_177 : decode (yB Y_Mo_look) 177 = .ok (.goto (-147), 3) := by decide +kernel
theorem d_Mo_look_180 : decode (yB Y_Mo_look) 180 = .ok (.iload_n 3, 1) := by decide +kernel
theorem d_Mo_look_181 : decode (yB Y_Mo_look) 181 = .ok (.iconst (-1), 1) := by decide +kernel
theorem d_Mo_look_182 : decode (yB Y_Mo_look) 182 = .ok (.if_icmp .eq 7, 3) := by decide +kernel
theorem d_Mo_look_185 : decode (yB Y_Mo_look) 185 = .ok (.iload_n 1, 1) := by decide +kernel
theorem d_Mo_look_186 : decode (yB Y_Mo_look) 186 = .ok (.ifCond .ne 7, 3) := by decide +kernel
theorem d_Mo_look_189 : decode (yB Y_Mo_look) 189 = .ok (.iload_n 3, 1) := by decide +kernel
theorem d_Mo_look_190 : decode (yB Y_Mo_look) 190 = .ok (.goto 4, 3) := by decide +kernel
theorem d_Mo_look_193 : decode (yB Y_Mo_look) 193 = .ok (.iload_n 2, 1) := by decide +kernel
theorem d_Mo_look_194 : decode (yB Y_Mo_look) 194 = .ok (.ireturn, 1) := by decide +kernel
def F_Mo_look_b132 (n : Nat) (E : zE) (S : zS) (r30 : Nat × Int32 × Int32 × Int32 × Int32 × zH → Option (Int32 × zH)) (r68 : Nat × Int32 × Int32 × Int32 × Int32 × Int32 × Int32 × zH → Option (Int32 × zH)) (a0 : Nat) (x1 : Int32) (x2 : Int32) (x3 : Int32) (x4 : Int32) (x5 : Int32) (x6 : Int32) (M : zH) : Option (Int32 × zH) :=
  r68 (a0, x1, x2, x3, x4, x5, x6 + 1, M)
def F_Mo_look_b130 (n : Nat) (E : zE) (S : zS) (r30 : Nat × Int32 × Int32 × Int32 × Int32 × zH → Option (Int32 × zH)) (r68 : Nat × Int32 × Int32 × Int32 × Int32 × Int32 × Int32 × zH → Option (Int32 × zH)) (a0 : Nat) (x1 : Int32) (x2 : Int32) (x3 : Int32) (x4 : Int32) (x6 : Int32) (s0 : Int32) (M : zH) : Option (Int32 × zH) :=
  F_Mo_look_b132 n E S r30 r68 a0 x1 x2 x3 x4 s0 x6 M
def F_Mo_look_b173 (n : Nat) (E : zE) (S : zS) (r30 : Nat × Int32 × Int32 × Int32 × Int32 × zH → Option (Int32 × zH)) (a0 : Nat) (x1 : Int32) (x3 : Int32) (x4 : Int32) (s0 : Int32) (M : zH) : Option (Int32 × zH) :=
  r30 (a0, x1, s0, x3, x4 + 1, M)
def F_Mo_look_b172 (n : Nat) (E : zE) (S : zS) (r30 : Nat × Int32 × Int32 × Int32 × Int32 × zH → Option (Int32 × zH)) (a0 : Nat) (x1 : Int32) (x2 : Int32) (x3 : Int32) (x4 : Int32) (M : zH) : Option (Int32 × zH) :=
  F_Mo_look_b173 n E S r30 a0 x1 x3 x4 x2 M
def F_Mo_look_b155 (n : Nat) (E : zE) (S : zS) (r30 : Nat × Int32 × Int32 × Int32 × Int32 × zH → Option (Int32 × zH)) (a0 : Nat) (x1 : Int32) (x2 : Int32) (x4 : Int32) (x5 : Int32) (s0 : Int32) (M : zH) : Option (Int32 × zH) :=
  if x5 ≤ 0 then
    F_Mo_look_b172 n E S r30 a0 x1 x2 s0 x4 M
  else
    if x2 ≤ x5 then
      F_Mo_look_b172 n E S r30 a0 x1 x2 s0 x4 M
    else
      F_Mo_look_b173 n E S r30 a0 x1 s0 x4 x5 M
def F_Mo_look_b154 (n : Nat) (E : zE) (S : zS) (r30 : Nat × Int32 × Int32 × Int32 × Int32 × zH → Option (Int32 × zH)) (a0 : Nat) (x1 : Int32) (x2 : Int32) (x3 : Int32) (x4 : Int32) (x5 : Int32) (M : zH) : Option (Int32 × zH) :=
  F_Mo_look_b155 n E S r30 a0 x1 x2 x4 x5 x3 M
def F_Mo_look_L68 (n : Nat) (E : zE) (S : zS) (r30 : Nat × Int32 × Int32 × Int32 × Int32 × zH → Option (Int32 × zH)) (r68 : Nat × Int32 × Int32 × Int32 × Int32 × Int32 × Int32 × zH → Option (Int32 × zH)) (a0 : Nat) (x1 : Int32) (x2 : Int32) (x3 : Int32) (x4 : Int32) (x5 : Int32) (x6 : Int32) (M : zH) : Option (Int32 × zH) :=
  if 4096 ≤ x6 then
    if x5 ≤ 0 then
      F_Mo_look_b154 n E S r30 a0 x1 x2 x3 x4 x5 M
    else
      if x2 ≤ x5 then
        F_Mo_look_b154 n E S r30 a0 x1 x2 x3 x4 x5 M
      else
        F_Mo_look_b155 n E S r30 a0 x1 x2 x4 x5 x4 M
  else
    (zck S a0 11).bind fun u_6 =>
    (F_Mo_canBe n E S a0 x6 M).bind fun q_7 =>
    if q_7.1 = true then
      (F_Mo_fallsOn n E S a0 x6 x4 q_7.2).bind fun q_9 =>
      (zgR S a0 11 46).bind fun b_10 =>
      (zldI S q_9.2 b_10 q_9.1).bind fun v_11 =>
      (zstI S q_9.2 b_10 q_9.1 (v_11 + 1)).bind fun m_12 =>
      (zldI S m_12 b_10 q_9.1).bind fun v_13 =>
      if v_13 ≤ x5 then
        F_Mo_look_b130 n E S r30 r68 a0 x1 x2 x3 x4 x6 x5 m_12
      else
        (zldI S m_12 b_10 q_9.1).bind fun v_15 =>
        F_Mo_look_b130 n E S r30 r68 a0 x1 x2 x3 x4 x6 v_15 m_12
    else
      F_Mo_look_b132 n E S r30 r68 a0 x1 x2 x3 x4 x5 x6 q_7.2
def F_Mo_look_b68 (n : Nat) (E : zE) (S : zS) (r30 : Nat × Int32 × Int32 × Int32 × Int32 × zH → Option (Int32 × zH)) : Nat × Int32 × Int32 × Int32 × Int32 × Int32 × Int32 × zH → Option (Int32 × zH) := zfix (fun r68 s => F_Mo_look_L68 n E S r30 r68 s.1 s.2.1 s.2.2.1 s.2.2.2.1 s.2.2.2.2.1 s.2.2.2.2.2.1 s.2.2.2.2.2.2.1 s.2.2.2.2.2.2.2) n
def F_Mo_look_L40 (n : Nat) (E : zE) (S : zS) (r30 : Nat × Int32 × Int32 × Int32 × Int32 × zH → Option (Int32 × zH)) (r40 : Nat × Int32 × Int32 × Int32 × Int32 × Int32 × zH → Option (Int32 × zH)) (a0 : Nat) (x1 : Int32) (x2 : Int32) (x3 : Int32) (x4 : Int32) (x5 : Int32) (M : zH) : Option (Int32 × zH) :=
  if 400 < x5 then
    F_Mo_look_b68 n E S r30 (a0, x1, x2, x3, x4, 0, 0, M)
  else
    (zgR S a0 11 46).bind fun b_17 =>
    (zstI S M b_17 x5 0).bind fun m_18 =>
    r40 (a0, x1, x2, x3, x4, x5 + 1, m_18)
def F_Mo_look_b40 (n : Nat) (E : zE) (S : zS) (r30 : Nat × Int32 × Int32 × Int32 × Int32 × zH → Option (Int32 × zH)) : Nat × Int32 × Int32 × Int32 × Int32 × Int32 × zH → Option (Int32 × zH) := zfix (fun r40 s => F_Mo_look_L40 n E S r30 r40 s.1 s.2.1 s.2.2.1 s.2.2.2.1 s.2.2.2.2.1 s.2.2.2.2.2.1 s.2.2.2.2.2.2) n
def F_Mo_look_b189 (n : Nat) (E : zE) (S : zS) (x3 : Int32) (M : zH) : Option (Int32 × zH) :=
  some (x3, M)
def F_Mo_look_L30 (n : Nat) (E : zE) (S : zS) (r30 : Nat × Int32 × Int32 × Int32 × Int32 × zH → Option (Int32 × zH)) (a0 : Nat) (x1 : Int32) (x2 : Int32) (x3 : Int32) (x4 : Int32) (M : zH) : Option (Int32 × zH) :=
  if 8 ≤ x4 then
    if x3 = (-1) then
      F_Mo_look_b189 n E S x3 M
    else
      if x1 = 0 then
        F_Mo_look_b189 n E S x3 M
      else
        some (x2, M)
  else
    F_Mo_look_b40 n E S r30 (a0, x1, x2, x3, x4, 0, M)
def F_Mo_look_b30 (n : Nat) (E : zE) (S : zS) : Nat × Int32 × Int32 × Int32 × Int32 × zH → Option (Int32 × zH) := zfix (fun r30 s => F_Mo_look_L30 n E S r30 s.1 s.2.1 s.2.2.1 s.2.2.2.1 s.2.2.2.2.1 s.2.2.2.2.2) n
def F_Mo_look (n : Nat) (E : zE) (S : zS) (a0 : Nat) (x1 : Int32) (M : zH) : Option (Int32 × zH) :=
  (zpI S M a0 11 0 0).bind fun m_22 =>
  (F_Mo_in n E S x1.toInt64 0 1 m_22).bind fun q_23 =>
  if q_23.1 = true then
    (zck S a0 11).bind fun u_25 =>
    (F_Mo_layFalls n E S a0 q_23.2).bind fun q_26 =>
    F_Mo_look_b30 n E S (a0, x1, 100000000, (-1), 0, q_26)
  else
    some ((-1), q_23.2)
theorem K_Mo_look_b132 (n : Nat) (E : zE) (S : zS) (r30 : Nat × Int32 × Int32 × Int32 × Int32 × zH → Option (Int32 × zH)) (r68 : Nat × Int32 × Int32 × Int32 × Int32 × Int32 × Int32 × zH → Option (Int32 × zH)) (a0 : Nat) (x1 : Int32) (x2 : Int32) (x3 : Int32) (x4 : Int32) (x5 : Int32) (x6 : Int32) (M : zH) (r : Int32) (M' : zH) (hr30 : ∀ (a0 : Nat) (x1 : Int32) (x2 : Int32) (x3 : Int32) (x4 : Int32) (M : zH), r30 (a0, x1, x2, x3, x4, M) = some (r, M') → zG E Y_Mo_look (some (.int r), S, M') 30 [(0, .ref a0), (1, .int x1), (2, .int x2), (3, .int x3), (4, .int x4)] [] S M 0 0) (hr68 : ∀ (a0 : Nat) (x1 : Int32) (x2 : Int32) (x3 : Int32) (x4 : Int32) (x5 : Int32) (x6 : Int32) (M : zH), r68 (a0, x1, x2, x3, x4, x5, x6, M) = some (r, M') → zG E Y_Mo_look (some (.int r), S, M') 68 [(0, .ref a0), (1, .int x1), (2, .int x2), (3, .int x3), (4, .int x4), (5, .int x5), (6, .int x6)] [] S M 0 0) (h : F_Mo_look_b132 n E S r30 r68 a0 x1 x2 x3 x4 x5 x6 M = some (r, M')) : zG E Y_Mo_look (some (.int r), S, M') 132 [(0, .ref a0), (1, .int x1), (2, .int x2), (3, .int x3), (4, .int x4), (5, .int x5), (6, .int x6)] [] S M 0 0 := by
  unfold F_Mo_look_b132 at h
  refine zi_iinc 6 (x6 + 1) [(6, .int (x6 + 1)), (0, .ref a0), (1, .int x1), (2, .int x2), (3, .int x3), (4, .int x4), (5, .int x5)] d_Mo_look_132 rfl rfl (by decide) rfl ?_
  refine zi_goto (tgt := 68) d_Mo_look_135 rfl ?_
  refine zi_lo [(0, .ref a0), (1, .int x1), (2, .int x2), (3, .int x3), (4, .int x4), (5, .int x5), (6, .int (x6 + 1))] [1, 2, 3, 4, 5, 6, 0] rfl ?_
  exact hr68 a0 x1 x2 x3 x4 x5 (x6 + 1) M h
theorem K_Mo_look_b130 (n : Nat) (E : zE) (S : zS) (r30 : Nat × Int32 × Int32 × Int32 × Int32 × zH → Option (Int32 × zH)) (r68 : Nat × Int32 × Int32 × Int32 × Int32 × Int32 × Int32 × zH → Option (Int32 × zH)) (a0 : Nat) (x1 : Int32) (x2 : Int32) (x3 : Int32) (x4 : Int32) (x6 : Int32) (s0 : Int32) (M : zH) (r : Int32) (M' : zH) (hr30 : ∀ (a0 : Nat) (x1 : Int32) (x2 : Int32) (x3 : Int32) (x4 : Int32) (M : zH), r30 (a0, x1, x2, x3, x4, M) = some (r, M') → zG E Y_Mo_look (some (.int r), S, M') 30 [(0, .ref a0), (1, .int x1), (2, .int x2), (3, .int x3), (4, .int x4)] [] S M 0 0) (hr68 : ∀ (a0 : Nat) (x1 : Int32) (x2 : Int32) (x3 : Int32) (x4 : Int32) (x5 : Int32) (x6 : Int32) (M : zH), r68 (a0, x1, x2, x3, x4, x5, x6, M) = some (r, M') → zG E Y_Mo_look (some (.int r), S, M') 68 [(0, .ref a0), (1, .int x1), (2, .int x2), (3, .int x3), (4, .int x4), (5, .int x5), (6, .int x6)] [] S M 0 0) (h : F_Mo_look_b130 n E S r30 r68 a0 x1 x2 x3 x4 x6 s0 M = some (r, M')) : zG E Y_Mo_look (some (.int r), S, M') 130 [(0, .ref a0), (1, .int x1), (2, .int x2), (3, .int x3), (4, .int x4), (6, .int x6)] [.int s0] S M 0 0 := by
  unfold F_Mo_look_b130 at h
  refine zi_istore [(5, .int s0), (0, .ref a0), (1, .int x1), (2, .int x2), (3, .int x3), (4, .int x4), (6, .int x6)] d_Mo_look_130 (by decide) rfl ?_
  refine zi_lo [(0, .ref a0), (1, .int x1), (2, .int x2), (3, .int x3), (4, .int x4), (5, .int s0), (6, .int x6)] [1, 2, 3, 4, 5, 0, 6] rfl ?_
  exact K_Mo_look_b132 n E S r30 r68 a0 x1 x2 x3 x4 s0 x6 M r M' hr30 hr68 h
theorem K_Mo_look_b173 (n : Nat) (E : zE) (S : zS) (r30 : Nat × Int32 × Int32 × Int32 × Int32 × zH → Option (Int32 × zH)) (a0 : Nat) (x1 : Int32) (x3 : Int32) (x4 : Int32) (s0 : Int32) (M : zH) (r : Int32) (M' : zH) (hr30 : ∀ (a0 : Nat) (x1 : Int32) (x2 : Int32) (x3 : Int32) (x4 : Int32) (M : zH), r30 (a0, x1, x2, x3, x4, M) = some (r, M') → zG E Y_Mo_look (some (.int r), S, M') 30 [(0, .ref a0), (1, .int x1), (2, .int x2), (3, .int x3), (4, .int x4)] [] S M 0 0) (h : F_Mo_look_b173 n E S r30 a0 x1 x3 x4 s0 M = some (r, M')) : zG E Y_Mo_look (some (.int r), S, M') 173 [(0, .ref a0), (1, .int x1), (3, .int x3), (4, .int x4)] [.int s0] S M 0 0 := by
  unfold F_Mo_look_b173 at h
  refine zi_istore_n [(2, .int s0), (0, .ref a0), (1, .int x1), (3, .int x3), (4, .int x4)] d_Mo_look_173 (by decide) rfl ?_
  refine zi_iinc 4 (x4 + 1) [(4, .int (x4 + 1)), (2, .int s0), (0, .ref a0), (1, .int x1), (3, .int x3)] d_Mo_look_174 rfl rfl (by decide) rfl ?_
  refine zi_goto (tgt := 30) d_Mo_look_177 rfl ?_
  refine zi_lo [(0, .ref a0), (1, .int x1), (2, .int s0), (3, .int x3), (4, .int (x4 + 1))] [2, 3, 1, 4, 0] rfl ?_
  exact hr30 a0 x1 s0 x3 (x4 + 1) M h
theorem K_Mo_look_b172 (n : Nat) (E : zE) (S : zS) (r30 : Nat × Int32 × Int32 × Int32 × Int32 × zH → Option (Int32 × zH)) (a0 : Nat) (x1 : Int32) (x2 : Int32) (x3 : Int32) (x4 : Int32) (M : zH) (r : Int32) (M' : zH) (hr30 : ∀ (a0 : Nat) (x1 : Int32) (x2 : Int32) (x3 : Int32) (x4 : Int32) (M : zH), r30 (a0, x1, x2, x3, x4, M) = some (r, M') → zG E Y_Mo_look (some (.int r), S, M') 30 [(0, .ref a0), (1, .int x1), (2, .int x2), (3, .int x3), (4, .int x4)] [] S M 0 0) (h : F_Mo_look_b172 n E S r30 a0 x1 x2 x3 x4 M = some (r, M')) : zG E Y_Mo_look (some (.int r), S, M') 172 [(0, .ref a0), (1, .int x1), (2, .int x2), (3, .int x3), (4, .int x4)] [] S M 0 0 := by
  unfold F_Mo_look_b172 at h
  refine zi_iload_n 2 d_Mo_look_172 rfl ?_
  refine zi_lo [(0, .ref a0), (1, .int x1), (3, .int x3), (4, .int x4)] [0, 1, 3, 4] rfl ?_
  exact K_Mo_look_b173 n E S r30 a0 x1 x3 x4 x2 M r M' hr30 h
theorem K_Mo_look_b155 (n : Nat) (E : zE) (S : zS) (r30 : Nat × Int32 × Int32 × Int32 × Int32 × zH → Option (Int32 × zH)) (a0 : Nat) (x1 : Int32) (x2 : Int32) (x4 : Int32) (x5 : Int32) (s0 : Int32) (M : zH) (r : Int32) (M' : zH) (hr30 : ∀ (a0 : Nat) (x1 : Int32) (x2 : Int32) (x3 : Int32) (x4 : Int32) (M : zH), r30 (a0, x1, x2, x3, x4, M) = some (r, M') → zG E Y_Mo_look (some (.int r), S, M') 30 [(0, .ref a0), (1, .int x1), (2, .int x2), (3, .int x3), (4, .int x4)] [] S M 0 0) (h : F_Mo_look_b155 n E S r30 a0 x1 x2 x4 x5 s0 M = some (r, M')) : zG E Y_Mo_look (some (.int r), S, M') 155 [(0, .ref a0), (1, .int x1), (2, .int x2), (4, .int x4), (5, .int x5)] [.int s0] S M 0 0 := by
  unfold F_Mo_look_b155 at h
  refine zi_istore_n [(3, .int s0), (0, .ref a0), (1, .int x1), (2, .int x2), (4, .int x4), (5, .int x5)] d_Mo_look_155 (by decide) rfl ?_
  refine zi_iload 5 d_Mo_look_156 rfl ?_
  refine zi_if_le (tgt := 172) d_Mo_look_158 rfl (fun c_1 => ?_) (fun c_1 => ?_)
  · rw [if_pos c_1] at h
    refine zi_lo [(0, .ref a0), (1, .int x1), (2, .int x2), (3, .int s0), (4, .int x4)] [1, 2, 3, 0, 4] rfl ?_
    exact K_Mo_look_b172 n E S r30 a0 x1 x2 s0 x4 M r M' hr30 h
  · rw [if_neg c_1] at h
    refine zi_iload 5 d_Mo_look_161 rfl ?_
    refine zi_iload_n 3 d_Mo_look_163 rfl ?_
    refine zi_icmp_ge (tgt := 172) d_Mo_look_164 rfl (fun c_2 => ?_) (fun c_2 => ?_)
    · rw [if_pos c_2] at h
      refine zi_lo [(0, .ref a0), (1, .int x1), (2, .int x2), (3, .int s0), (4, .int x4)] [1, 2, 3, 0, 4] rfl ?_
      exact K_Mo_look_b172 n E S r30 a0 x1 x2 s0 x4 M r M' hr30 h
    · rw [if_neg c_2] at h
      refine zi_iload 5 d_Mo_look_167 rfl ?_
      refine zi_goto (tgt := 173) d_Mo_look_169 rfl ?_
      refine zi_lo [(0, .ref a0), (1, .int x1), (3, .int s0), (4, .int x4)] [1, 2, 0, 4] rfl ?_
      exact K_Mo_look_b173 n E S r30 a0 x1 s0 x4 x5 M r M' hr30 h
theorem K_Mo_look_b154 (n : Nat) (E : zE) (S : zS) (r30 : Nat × Int32 × Int32 × Int32 × Int32 × zH → Option (Int32 × zH)) (a0 : Nat) (x1 : Int32) (x2 : Int32) (x3 : Int32) (x4 : Int32) (x5 : Int32) (M : zH) (r : Int32) (M' : zH) (hr30 : ∀ (a0 : Nat) (x1 : Int32) (x2 : Int32) (x3 : Int32) (x4 : Int32) (M : zH), r30 (a0, x1, x2, x3, x4, M) = some (r, M') → zG E Y_Mo_look (some (.int r), S, M') 30 [(0, .ref a0), (1, .int x1), (2, .int x2), (3, .int x3), (4, .int x4)] [] S M 0 0) (h : F_Mo_look_b154 n E S r30 a0 x1 x2 x3 x4 x5 M = some (r, M')) : zG E Y_Mo_look (some (.int r), S, M') 154 [(0, .ref a0), (1, .int x1), (2, .int x2), (3, .int x3), (4, .int x4), (5, .int x5)] [] S M 0 0 := by
  unfold F_Mo_look_b154 at h
  refine zi_iload_n 3 d_Mo_look_154 rfl ?_
  refine zi_lo [(0, .ref a0), (1, .int x1), (2, .int x2), (4, .int x4), (5, .int x5)] [0, 1, 2, 4, 5] rfl ?_
  exact K_Mo_look_b155 n E S r30 a0 x1 x2 x4 x5 x3 M r M' hr30 h
theorem K_Mo_look_L68 (n : Nat) (E : zE) (S : zS) (r30 : Nat × Int32 × Int32 × Int32 × Int32 × zH → Option (Int32 × zH)) (r68 : Nat × Int32 × Int32 × Int32 × Int32 × Int32 × Int32 × zH → Option (Int32 × zH)) (a0 : Nat) (x1 : Int32) (x2 : Int32) (x3 : Int32) (x4 : Int32) (x5 : Int32) (x6 : Int32) (M : zH) (r : Int32) (M' : zH) (hr30 : ∀ (a0 : Nat) (x1 : Int32) (x2 : Int32) (x3 : Int32) (x4 : Int32) (M : zH), r30 (a0, x1, x2, x3, x4, M) = some (r, M') → zG E Y_Mo_look (some (.int r), S, M') 30 [(0, .ref a0), (1, .int x1), (2, .int x2), (3, .int x3), (4, .int x4)] [] S M 0 0) (hr68 : ∀ (a0 : Nat) (x1 : Int32) (x2 : Int32) (x3 : Int32) (x4 : Int32) (x5 : Int32) (x6 : Int32) (M : zH), r68 (a0, x1, x2, x3, x4, x5, x6, M) = some (r, M') → zG E Y_Mo_look (some (.int r), S, M') 68 [(0, .ref a0), (1, .int x1), (2, .int x2), (3, .int x3), (4, .int x4), (5, .int x5), (6, .int x6)] [] S M 0 0) (h : F_Mo_look_L68 n E S r30 r68 a0 x1 x2 x3 x4 x5 x6 M = some (r, M')) : zG E Y_Mo_look (some (.int r), S, M') 68 [(0, .ref a0), (1, .int x1), (2, .int x2), (3, .int x3), (4, .int x4), (5, .int x5), (6, .int x6)] [] S M 0 0 := by
  unfold F_Mo_look_L68 at h
  refine zi_iload 6 d_Mo_look_68 rfl ?_
  refine zi_sipush 4096 d_Mo_look_70 rfl ?_
  refine zi_icmp_ge (tgt := 138) d_Mo_look_73 rfl (fun c_3 => ?_) (fun c_3 => ?_)
  · rw [if_pos c_3] at h
    refine zi_iload 5 d_Mo_look_138 rfl ?_
    refine zi_if_le (tgt := 154) d_Mo_look_140 rfl (fun c_4 => ?_) (fun c_4 => ?_)
    · rw [if_pos c_4] at h
      refine zi_lo [(0, .ref a0), (1, .int x1), (2, .int x2), (3, .int x3), (4, .int x4), (5, .int x5)] [0, 1, 2, 3, 4, 5] rfl ?_
      exact K_Mo_look_b154 n E S r30 a0 x1 x2 x3 x4 x5 M r M' hr30 h
    · rw [if_neg c_4] at h
      refine zi_iload 5 d_Mo_look_143 rfl ?_
      refine zi_iload_n 2 d_Mo_look_145 rfl ?_
      refine zi_icmp_ge (tgt := 154) d_Mo_look_146 rfl (fun c_5 => ?_) (fun c_5 => ?_)
      · rw [if_pos c_5] at h
        refine zi_lo [(0, .ref a0), (1, .int x1), (2, .int x2), (3, .int x3), (4, .int x4), (5, .int x5)] [0, 1, 2, 3, 4, 5] rfl ?_
        exact K_Mo_look_b154 n E S r30 a0 x1 x2 x3 x4 x5 M r M' hr30 h
      · rw [if_neg c_5] at h
        refine zi_iload 4 d_Mo_look_149 rfl ?_
        refine zi_goto (tgt := 155) d_Mo_look_151 rfl ?_
        refine zi_lo [(0, .ref a0), (1, .int x1), (2, .int x2), (4, .int x4), (5, .int x5)] [0, 1, 2, 4, 5] rfl ?_
        exact K_Mo_look_b155 n E S r30 a0 x1 x2 x4 x5 x4 M r M' hr30 h
  · rw [if_neg c_3] at h
    refine zi_aload_n 0 d_Mo_look_76 rfl ?_
    refine zi_iload 6 d_Mo_look_77 rfl ?_
    obtain ⟨u_6, eu_6, h⟩ := zbind h
    obtain ⟨q_7, eq_7, h⟩ := zbind h
    refine zo_virt (k' := 0) (n' := 0) 82 [.int x6] [] [.int (bI q_7.1)] zkd_11 (zck_s eu_6) (C_Mo_canBe n E S a0 x6 M q_7.1 q_7.2 eq_7) d_Mo_look_79 tw_1786 tw_1783 tw_1785 ts_92 tw_13 dd_Mo_canBe ⟨Nat.le_of_ble_eq_true rfl, Nat.le_of_ble_eq_true rfl, Nat.le_of_ble_eq_true rfl, Nat.le_of_ble_eq_true rfl⟩ (Nat.le_of_ble_eq_true rfl) rfl rfl rfl rfl ?_
    refine zo_ifeqB d_Mo_look_82 rfl 85 rfl (fun c_8 => ?_) (fun c_8 => ?_)
    · rw [if_neg c_8] at h
      refine zi_lo [(0, .ref a0), (1, .int x1), (2, .int x2), (3, .int x3), (4, .int x4), (5, .int x5), (6, .int x6)] [0, 1, 2, 3, 4, 5, 6] rfl ?_
      exact K_Mo_look_b132 n E S r30 r68 a0 x1 x2 x3 x4 x5 x6 q_7.2 r M' hr30 hr68 h
    · rw [if_pos c_8] at h
      refine zi_aload_n 0 d_Mo_look_85 rfl ?_
      refine zi_iload 6 d_Mo_look_86 rfl ?_
      refine zi_iload 4 d_Mo_look_88 rfl ?_
      obtain ⟨q_9, eq_9, h⟩ := zbind h
      refine zo_virt (k' := 0) (n' := 0) 93 [.int x6, .int x4] [] [.int q_9.1] zkd_11 (zck_s eu_6) (C_Mo_fallsOn n E S a0 x6 x4 q_7.2 q_9.1 q_9.2 eq_9) d_Mo_look_90 tw_1790 tw_1787 tw_1789 ts_93 tw_13 dd_Mo_fallsOn ⟨Nat.le_of_ble_eq_true rfl, Nat.le_of_ble_eq_true rfl, Nat.le_of_ble_eq_true rfl, Nat.le_of_ble_eq_true rfl⟩ (Nat.le_of_ble_eq_true rfl) rfl rfl rfl rfl ?_
      refine zi_istore [(7, .int q_9.1), (0, .ref a0), (1, .int x1), (2, .int x2), (3, .int x3), (4, .int x4), (5, .int x5), (6, .int x6)] d_Mo_look_93 (by decide) rfl ?_
      refine zi_aload_n 1 d_Mo_look_95 rfl ?_
      obtain ⟨b_10, eb_10, h⟩ := zbind h
      refine zo_getR 99 zkd_11 46 d_Mo_look_96 eb_10 rfl tw_1277 rfl ?_
      refine zi_iload 0 d_Mo_look_99 rfl ?_
      refine zi_dup2 d_Mo_look_101 rfl rfl ?_
      obtain ⟨v_11, ev_11, h⟩ := zbind h
      refine zo_iald 103 d_Mo_look_102 ev_11 rfl ?_
      refine zi_iconst 1 d_Mo_look_103 rfl ?_
      refine zi_iadd d_Mo_look_104 ?_
      obtain ⟨m_12, em_12, h⟩ := zbind h
      refine zo_iast 106 d_Mo_look_105 em_12 rfl ?_
      refine zi_aload_n 1 d_Mo_look_106 rfl ?_
      refine zo_getR 110 zkd_11 46 d_Mo_look_107 eb_10 rfl tw_1277 rfl ?_
      refine zi_iload 0 d_Mo_look_110 rfl ?_
      obtain ⟨v_13, ev_13, h⟩ := zbind h
      refine zo_iald 113 d_Mo_look_112 ev_13 rfl ?_
      refine zi_iload 6 d_Mo_look_113 rfl ?_
      refine zi_icmp_le (tgt := 128) d_Mo_look_115 rfl (fun c_14 => ?_) (fun c_14 => ?_)
      · rw [if_pos c_14] at h
        refine zi_iload 6 d_Mo_look_128 rfl ?_
        refine zi_lo [(0, .ref a0), (1, .int x1), (2, .int x2), (3, .int x3), (4, .int x4), (6, .int x6)] [1, 2, 3, 4, 5, 7] rfl ?_
        exact K_Mo_look_b130 n E S r30 r68 a0 x1 x2 x3 x4 x6 x5 m_12 r M' hr30 hr68 h
      · rw [if_neg c_14] at h
        refine zi_aload_n 1 d_Mo_look_118 rfl ?_
        refine zo_getR 122 zkd_11 46 d_Mo_look_119 eb_10 rfl tw_1277 rfl ?_
        refine zi_iload 0 d_Mo_look_122 rfl ?_
        obtain ⟨v_15, ev_15, h⟩ := zbind h
        refine zo_iald 125 d_Mo_look_124 ev_15 rfl ?_
        refine zi_goto (tgt := 130) d_Mo_look_125 rfl ?_
        refine zi_lo [(0, .ref a0), (1, .int x1), (2, .int x2), (3, .int x3), (4, .int x4), (6, .int x6)] [1, 2, 3, 4, 5, 7] rfl ?_
        exact K_Mo_look_b130 n E S r30 r68 a0 x1 x2 x3 x4 x6 v_15 m_12 r M' hr30 hr68 h
theorem K_Mo_look_b68 (n : Nat) (E : zE) (S : zS) (r30 : Nat × Int32 × Int32 × Int32 × Int32 × zH → Option (Int32 × zH)) (a0 : Nat) (x1 : Int32) (x2 : Int32) (x3 : Int32) (x4 : Int32) (x5 : Int32) (x6 : Int32) (M : zH) (r : Int32) (M' : zH) (hr30 : ∀ (a0 : Nat) (x1 : Int32) (x2 : Int32) (x3 : Int32) (x4 : Int32) (M : zH), r30 (a0, x1, x2, x3, x4, M) = some (r, M') → zG E Y_Mo_look (some (.int r), S, M') 30 [(0, .ref a0), (1, .int x1), (2, .int x2), (3, .int x3), (4, .int x4)] [] S M 0 0) (h : F_Mo_look_b68 n E S r30 (a0, x1, x2, x3, x4, x5, x6, M) = some (r, M')) : zG E Y_Mo_look (some (.int r), S, M') 68 [(0, .ref a0), (1, .int x1), (2, .int x2), (3, .int x3), (4, .int x4), (5, .int x5), (6, .int x6)] [] S M 0 0 := by
  have key : ∀ (k : Nat) (a0 : Nat) (x1 : Int32) (x2 : Int32) (x3 : Int32) (x4 : Int32) (x5 : Int32) (x6 : Int32) (M : zH), zfix (fun r68 s => F_Mo_look_L68 n E S r30 r68 s.1 s.2.1 s.2.2.1 s.2.2.2.1 s.2.2.2.2.1 s.2.2.2.2.2.1 s.2.2.2.2.2.2.1 s.2.2.2.2.2.2.2) k (a0, x1, x2, x3, x4, x5, x6, M) = some (r, M') → zG E Y_Mo_look (some (.int r), S, M') 68 [(0, .ref a0), (1, .int x1), (2, .int x2), (3, .int x3), (4, .int x4), (5, .int x5), (6, .int x6)] [] S M 0 0 := by
    intro k
    induction k with
    | zero => intro a0 x1 x2 x3 x4 x5 x6 M h; cases h
    | succ k ih => intro a0 x1 x2 x3 x4 x5 x6 M h; exact K_Mo_look_L68 n E S r30 _ a0 x1 x2 x3 x4 x5 x6 M r M' hr30 (fun a0 x1 x2 x3 x4 x5 x6 M h => ih a0 x1 x2 x3 x4 x5 x6 M h) h
  exact key n a0 x1 x2 x3 x4 x5 x6 M h
theorem K_Mo_look_L40 (n : Nat) (E : zE) (S : zS) (r30 : Nat × Int32 × Int32 × Int32 × Int32 × zH → Option (Int32 × zH)) (r40 : Nat × Int32 × Int32 × Int32 × Int32 × Int32 × zH → Option (Int32 × zH)) (a0 : Nat) (x1 : Int32) (x2 : Int32) (x3 : Int32) (x4 : Int32) (x5 : Int32) (M : zH) (r : Int32) (M' : zH) (hr30 : ∀ (a0 : Nat) (x1 : Int32) (x2 : Int32) (x3 : Int32) (x4 : Int32) (M : zH), r30 (a0, x1, x2, x3, x4, M) = some (r, M') → zG E Y_Mo_look (some (.int r), S, M') 30 [(0, .ref a0), (1, .int x1), (2, .int x2), (3, .int x3), (4, .int x4)] [] S M 0 0) (hr40 : ∀ (a0 : Nat) (x1 : Int32) (x2 : Int32) (x3 : Int32) (x4 : Int32) (x5 : Int32) (M : zH), r40 (a0, x1, x2, x3, x4, x5, M) = some (r, M') → zG E Y_Mo_look (some (.int r), S, M') 40 [(0, .ref a0), (1, .int x1), (2, .int x2), (3, .int x3), (4, .int x4), (5, .int x5)] [] S M 0 0) (h : F_Mo_look_L40 n E S r30 r40 a0 x1 x2 x3 x4 x5 M = some (r, M')) : zG E Y_Mo_look (some (.int r), S, M') 40 [(0, .ref a0), (1, .int x1), (2, .int x2), (3, .int x3), (4, .int x4), (5, .int x5)] [] S M 0 0 := by
  unfold F_Mo_look_L40 at h
  refine zi_iload 5 d_Mo_look_40 rfl ?_
  refine zi_sipush 400 d_Mo_look_42 rfl ?_
  refine zi_icmp_gt (tgt := 62) d_Mo_look_45 rfl (fun c_16 => ?_) (fun c_16 => ?_)
  · rw [if_pos c_16] at h
    refine zi_iconst 0 d_Mo_look_62 rfl ?_
    refine zi_istore [(5, .int 0), (0, .ref a0), (1, .int x1), (2, .int x2), (3, .int x3), (4, .int x4)] d_Mo_look_63 (by decide) rfl ?_
    refine zi_iconst 0 d_Mo_look_65 rfl ?_
    refine zi_istore [(6, .int 0), (5, .int 0), (0, .ref a0), (1, .int x1), (2, .int x2), (3, .int x3), (4, .int x4)] d_Mo_look_66 (by decide) rfl ?_
    refine zi_lo [(0, .ref a0), (1, .int x1), (2, .int x2), (3, .int x3), (4, .int x4), (5, .int 0), (6, .int 0)] [2, 3, 4, 5, 6, 1, 0] rfl ?_
    exact K_Mo_look_b68 n E S r30 a0 x1 x2 x3 x4 0 0 M r M' hr30 h
  · rw [if_neg c_16] at h
    refine zi_aload_n 0 d_Mo_look_48 rfl ?_
    obtain ⟨b_17, eb_17, h⟩ := zbind h
    refine zo_getR 52 zkd_11 46 d_Mo_look_49 eb_17 rfl tw_1277 rfl ?_
    refine zi_iload 5 d_Mo_look_52 rfl ?_
    refine zi_iconst 0 d_Mo_look_54 rfl ?_
    obtain ⟨m_18, em_18, h⟩ := zbind h
    refine zo_iast 56 d_Mo_look_55 em_18 rfl ?_
    refine zi_iinc 5 (x5 + 1) [(5, .int (x5 + 1)), (0, .ref a0), (1, .int x1), (2, .int x2), (3, .int x3), (4, .int x4)] d_Mo_look_56 rfl rfl (by decide) rfl ?_
    refine zi_goto (tgt := 40) d_Mo_look_59 rfl ?_
    refine zi_lo [(0, .ref a0), (1, .int x1), (2, .int x2), (3, .int x3), (4, .int x4), (5, .int (x5 + 1))] [1, 2, 3, 4, 5, 0] rfl ?_
    exact hr40 a0 x1 x2 x3 x4 (x5 + 1) m_18 h
theorem K_Mo_look_b40 (n : Nat) (E : zE) (S : zS) (r30 : Nat × Int32 × Int32 × Int32 × Int32 × zH → Option (Int32 × zH)) (a0 : Nat) (x1 : Int32) (x2 : Int32) (x3 : Int32) (x4 : Int32) (x5 : Int32) (M : zH) (r : Int32) (M' : zH) (hr30 : ∀ (a0 : Nat) (x1 : Int32) (x2 : Int32) (x3 : Int32) (x4 : Int32) (M : zH), r30 (a0, x1, x2, x3, x4, M) = some (r, M') → zG E Y_Mo_look (some (.int r), S, M') 30 [(0, .ref a0), (1, .int x1), (2, .int x2), (3, .int x3), (4, .int x4)] [] S M 0 0) (h : F_Mo_look_b40 n E S r30 (a0, x1, x2, x3, x4, x5, M) = some (r, M')) : zG E Y_Mo_look (some (.int r), S, M') 40 [(0, .ref a0), (1, .int x1), (2, .int x2), (3, .int x3), (4, .int x4), (5, .int x5)] [] S M 0 0 := by
  have key : ∀ (k : Nat) (a0 : Nat) (x1 : Int32) (x2 : Int32) (x3 : Int32) (x4 : Int32) (x5 : Int32) (M : zH), zfix (fun r40 s => F_Mo_look_L40 n E S r30 r40 s.1 s.2.1 s.2.2.1 s.2.2.2.1 s.2.2.2.2.1 s.2.2.2.2.2.1 s.2.2.2.2.2.2) k (a0, x1, x2, x3, x4, x5, M) = some (r, M') → zG E Y_Mo_look (some (.int r), S, M') 40 [(0, .ref a0), (1, .int x1), (2, .int x2), (3, .int x3), (4, .int x4), (5, .int x5)] [] S M 0 0 := by
    intro k
    induction k with
    | zero => intro a0 x1 x2 x3 x4 x5 M h; cases h
    | succ k ih => intro a0 x1 x2 x3 x4 x5 M h; exact K_Mo_look_L40 n E S r30 _ a0 x1 x2 x3 x4 x5 M r M' hr30 (fun a0 x1 x2 x3 x4 x5 M h => ih a0 x1 x2 x3 x4 x5 M h) h
  exact key n a0 x1 x2 x3 x4 x5 M h
theorem K_Mo_look_b189 (n : Nat) (E : zE) (S : zS) (x3 : Int32) (M : zH) (r : Int32) (M' : zH)  (h : F_Mo_look_b189 n E S x3 M = some (r, M')) : zG E Y_Mo_look (some (.int r), S, M') 189 [(3, .int x3)] [] S M 0 0 := by
  unfold F_Mo_look_b189 at h
  refine zi_iload_n 0 d_Mo_look_189 rfl ?_
  refine zi_goto (tgt := 194) d_Mo_look_190 rfl ?_
  cases h
  exact zo_ret d_Mo_look_194 (Nat.le_of_ble_eq_true rfl) (Nat.le_of_ble_eq_true rfl) rfl
theorem K_Mo_look_L30 (n : Nat) (E : zE) (S : zS) (r30 : Nat × Int32 × Int32 × Int32 × Int32 × zH → Option (Int32 × zH)) (a0 : Nat) (x1 : Int32) (x2 : Int32) (x3 : Int32) (x4 : Int32) (M : zH) (r : Int32) (M' : zH) (hr30 : ∀ (a0 : Nat) (x1 : Int32) (x2 : Int32) (x3 : Int32) (x4 : Int32) (M : zH), r30 (a0, x1, x2, x3, x4, M) = some (r, M') → zG E Y_Mo_look (some (.int r), S, M') 30 [(0, .ref a0), (1, .int x1), (2, .int x2), (3, .int x3), (4, .int x4)] [] S M 0 0) (h : F_Mo_look_L30 n E S r30 a0 x1 x2 x3 x4 M = some (r, M')) : zG E Y_Mo_look (some (.int r), S, M') 30 [(0, .ref a0), (1, .int x1), (2, .int x2), (3, .int x3), (4, .int x4)] [] S M 0 0 := by
  unfold F_Mo_look_L30 at h
  refine zi_iload 4 d_Mo_look_30 rfl ?_
  refine zi_bipush 8 d_Mo_look_32 rfl ?_
  refine zi_icmp_ge (tgt := 180) d_Mo_look_34 rfl (fun c_19 => ?_) (fun c_19 => ?_)
  · rw [if_pos c_19] at h
    refine zi_iload_n 3 d_Mo_look_180 rfl ?_
    refine zi_iconst (-1) d_Mo_look_181 rfl ?_
    refine zi_icmp_eq (tgt := 189) d_Mo_look_182 rfl (fun c_20 => ?_) (fun c_20 => ?_)
    · rw [if_pos c_20] at h
      refine zi_lo [(3, .int x3)] [3] rfl ?_
      exact K_Mo_look_b189 n E S x3 M r M'  h
    · rw [if_neg c_20] at h
      refine zi_iload_n 1 d_Mo_look_185 rfl ?_
      refine zi_if_ne (tgt := 193) d_Mo_look_186 rfl (fun c_21 => ?_) (fun c_21 => ?_)
      · rw [if_neg c_21] at h
        refine zi_iload_n 2 d_Mo_look_193 rfl ?_
        cases h
        exact zo_ret d_Mo_look_194 (Nat.le_of_ble_eq_true rfl) (Nat.le_of_ble_eq_true rfl) rfl
      · rw [if_pos c_21] at h
        refine zi_lo [(3, .int x3)] [3] rfl ?_
        exact K_Mo_look_b189 n E S x3 M r M'  h
  · rw [if_neg c_19] at h
    refine zi_iconst 0 d_Mo_look_37 rfl ?_
    refine zi_istore [(5, .int 0), (0, .ref a0), (1, .int x1), (2, .int x2), (3, .int x3), (4, .int x4)] d_Mo_look_38 (by decide) rfl ?_
    refine zi_lo [(0, .ref a0), (1, .int x1), (2, .int x2), (3, .int x3), (4, .int x4), (5, .int 0)] [1, 2, 3, 4, 5, 0] rfl ?_
    exact K_Mo_look_b40 n E S r30 a0 x1 x2 x3 x4 0 M r M' hr30 h
theorem K_Mo_look_b30 (n : Nat) (E : zE) (S : zS) (a0 : Nat) (x1 : Int32) (x2 : Int32) (x3 : Int32) (x4 : Int32) (M : zH) (r : Int32) (M' : zH)  (h : F_Mo_look_b30 n E S (a0, x1, x2, x3, x4, M) = some (r, M')) : zG E Y_Mo_look (some (.int r), S, M') 30 [(0, .ref a0), (1, .int x1), (2, .int x2), (3, .int x3), (4, .int x4)] [] S M 0 0 := by
  have key : ∀ (k : Nat) (a0 : Nat) (x1 : Int32) (x2 : Int32) (x3 : Int32) (x4 : Int32) (M : zH), zfix (fun r30 s => F_Mo_look_L30 n E S r30 s.1 s.2.1 s.2.2.1 s.2.2.2.1 s.2.2.2.2.1 s.2.2.2.2.2) k (a0, x1, x2, x3, x4, M) = some (r, M') → zG E Y_Mo_look (some (.int r), S, M') 30 [(0, .ref a0), (1, .int x1), (2, .int x2), (3, .int x3), (4, .int x4)] [] S M 0 0 := by
    intro k
    induction k with
    | zero => intro a0 x1 x2 x3 x4 M h; cases h
    | succ k ih => intro a0 x1 x2 x3 x4 M h; exact K_Mo_look_L30 n E S _ a0 x1 x2 x3 x4 M r M'  (fun a0 x1 x2 x3 x4 M h => ih a0 x1 x2 x3 x4 M h) h
  exact key n a0 x1 x2 x3 x4 M h
theorem K_Mo_look (n : Nat) (E : zE) (S : zS) (a0 : Nat) (x1 : Int32) (M : zH) (r : Int32) (M' : zH)  (h : F_Mo_look n E S a0 x1 M = some (r, M')) : zG E Y_Mo_look (some (.int r), S, M') 0 [(0, .ref a0), (1, .int x1)] [] S M 0 0 := by
  unfold F_Mo_look at h
  refine zi_aload_n 0 d_Mo_look_0 rfl ?_
  refine zi_iconst 0 d_Mo_look_1 rfl ?_
  obtain ⟨m_22, em_22, h⟩ := zbind h
  refine zo_putI 5 zkd_11 0 d_Mo_look_2 em_22 rfl rfl rfl tw_1231 rfl ?_
  refine zi_iload_n 1 d_Mo_look_5 rfl ?_
  refine zi_i2l d_Mo_look_6 ?_
  refine zi_lconst 0 d_Mo_look_7 rfl ?_
  refine zi_lconst 1 d_Mo_look_8 rfl ?_
  obtain ⟨q_23, eq_23, h⟩ := zbind h
  refine zo_stat (k' := 0) (n' := 0) 12 [.long x1.toInt64, .long 0, .long 1] [] [.int (bI q_23.1)] (C_Mo_in n E S x1.toInt64 0 1 m_22 q_23.1 q_23.2 eq_23) d_Mo_look_9 tw_1421 tw_1419 tw_1420 tw_13 dd_Mo_in ⟨Nat.le_of_ble_eq_true rfl, Nat.le_of_ble_eq_true rfl, Nat.le_of_ble_eq_true rfl, Nat.le_of_ble_eq_true rfl⟩ (Nat.le_of_ble_eq_true rfl) rfl rfl rfl rfl ?_
  refine zo_ifneB d_Mo_look_12 rfl 15 rfl (fun c_24 => ?_) (fun c_24 => ?_)
  · rw [if_pos c_24] at h
    refine zi_aload_n 0 d_Mo_look_17 rfl ?_
    obtain ⟨u_25, eu_25, h⟩ := zbind h
    obtain ⟨q_26, eq_26, h⟩ := zbind h
    refine zo_virt (k' := 0) (n' := 0) 21 [] [] [] zkd_11 (zck_s eu_25) (C_Mo_layFalls n E S a0 q_23.2 q_26 eq_26) d_Mo_look_18 tw_1782 tw_1779 tw_1781 ts_91 tw_13 dd_Mo_layFalls ⟨Nat.le_of_ble_eq_true rfl, Nat.le_of_ble_eq_true rfl, Nat.le_of_ble_eq_true rfl, Nat.le_of_ble_eq_true rfl⟩ (Nat.le_of_ble_eq_true rfl) rfl rfl rfl rfl ?_
    refine zi_ldcw d_Mo_look_21 tw_1801 ?_
    refine zi_istore_n [(2, .int 100000000), (0, .ref a0), (1, .int x1)] d_Mo_look_24 (by decide) rfl ?_
    refine zi_iconst (-1) d_Mo_look_25 rfl ?_
    refine zi_istore_n [(3, .int (-1)), (2, .int 100000000), (0, .ref a0), (1, .int x1)] d_Mo_look_26 (by decide) rfl ?_
    refine zi_iconst 0 d_Mo_look_27 rfl ?_
    refine zi_istore [(4, .int 0), (3, .int (-1)), (2, .int 100000000), (0, .ref a0), (1, .int x1)] d_Mo_look_28 (by decide) rfl ?_
    refine zi_lo [(0, .ref a0), (1, .int x1), (2, .int 100000000), (3, .int (-1)), (4, .int 0)] [3, 4, 2, 1, 0] rfl ?_
    exact K_Mo_look_b30 n E S a0 x1 100000000 (-1) 0 q_26 r M'  h
  · rw [if_neg c_24] at h
    refine zi_iconst (-1) d_Mo_look_15 rfl ?_
    cases h
    exact zo_ret d_Mo_look_16 (Nat.le_of_ble_eq_true rfl) (Nat.le_of_ble_eq_true rfl) rfl
theorem C_Mo_look (n : Nat) (E : zE) (S : zS) (a0 : Nat) (x1 : Int32) (M : zH) (r : Int32) (M' : zH) (h : F_Mo_look n E S a0 x1 M = some (r, M')) : zC E Y_Mo_look [.ref a0, .int x1] S M (some (.int r), S, M') :=
  zC.of (Or.inl (show plainName "NightColanderModel" = true by decide)) (Nat.le_of_ble_eq_true rfl) (trivial) (K_Mo_look n E S a0 x1 M r M' h)
theorem d_Mo_isWanted_0 : decode (yB Y_Mo_isWanted) 0 = .ok (.iconst 1, 1) := by decide +kernel
theorem d_Mo_isWanted_1 : decode (yB Y_Mo_isWanted) 1 = .ok (.istore_n 2, 1) := by decide +kernel
theorem d_Mo_isWanted_2 : decode (yB Y_Mo_isWanted) 2 = .ok (.iconst 0, 1) := by decide +kernel
theorem d_Mo_isWanted_3 : decode (yB Y_Mo_isWanted) 3 = .ok (.istore_n 3, 1) := by decide +kernel
theorem d_Mo_isWanted_4 : decode (yB Y_Mo_isWanted) 4 = .ok (.iload_n 3, 1) := by decide +kernel
theorem d_Mo_isWanted_5 : decode (yB Y_Mo_isWanted) 5 = .ok (.bipush 8, 2) := by decide +kernel
theorem d_Mo_isWanted_7 : decode (yB Y_Mo_isWanted) 7 = .ok (.if_icmp .ge 50, 3) := by decide +kernel
theorem d_Mo_isWanted_10 : decode (yB Y_Mo_isWanted) 10 = .ok (.iload_n 2, 1) := by decide +kernel
theorem d_Mo_isWanted_11 : decode (yB Y_Mo_isWanted) 11 = .ok (.ifCond .eq 46, 3) := by decide +kernel
theorem d_Mo_isWanted_14 : decode (yB Y_Mo_isWanted) 14 = .ok (.aload_n 0, 1) := by decide +kernel
theorem d_Mo_isWanted_15 : decode (yB Y_Mo_isWanted) 15 = .ok (.getfield 13, 3) := by decide +kernel
theorem d_Mo_isWanted_18 : decode (yB Y_Mo_isWanted) 18 = .ok (.bipush 57, 2) := by decide +kernel
theorem d_Mo_isWanted_20 : decode (yB Y_Mo_isWanted) 20 = .ok (.iload_n 3, 1) := by decide +kernel
theorem d_Mo_isWanted_21 : decode (yB Y_Mo_isWanted) 21 = .ok (.iadd, 1) := by decide +kernel
theorem d_Mo_isWanted_22 : decode (yB Y_Mo_isWanted) 22 = .ok (.iaload, 1) := by decide +kernel
theorem d_Mo_isWanted_23 : decode (yB Y_Mo_isWanted) 23 = .ok (.iconst (-1), 1) := by decide +kernel
theorem d_Mo_isWanted_24 : decode (yB Y_Mo_isWanted) 24 = .ok (.if_icmp .eq 21, 3) := by decide +kernel
theorem d_Mo_isWanted_27 : decode (yB Y_Mo_isWanted) 27 = .ok (.aload_n 0, 1) := by decide +kernel
theorem d_Mo_isWanted_28 : decode (yB Y_Mo_isWanted) 28 = .ok (.iload_n 1, 1) := by decide +kernel
theorem d_Mo_isWanted_29 : decode (yB Y_Mo_isWanted) 29 = .ok (.iload_n 3, 1) := by decide +kernel
theorem d_Mo_isWanted_30 : decode (yB Y_Mo_isWanted) 30 = .ok (.invokevirtual 484, 3) := by decide +kernel
theorem d_Mo_isWanted_33 : decode (yB Y_Mo_isWanted) 33 = .ok (.aload_n 0, 1) := by decide +kernel
theorem d_Mo_isWanted_34 : decode (yB Y_Mo_isWanted) 34 = .ok (.getfield 13, 3) := by decide +kernel
theorem d_Mo_isWanted_37 : decode (yB Y_Mo_isWanted) 37 = .ok (.bipush 57, 2) := by decide +kernel
theorem d_Mo_isWanted_39 : decode (yB Y_Mo_isWanted) 39 = .ok (.iload_n 3, 1) := by decide +kernel
theorem d_Mo_isWanted_40 : decode (yB Y_Mo_isWanted) 40 = .ok (.iadd, 1) := by decide +kernel
theorem d_Mo_isWanted_41 : decode (yB Y_Mo_isWanted) 41 = .ok (.iaload, 1) := by decide +kernel
theorem d_Mo_isWanted_42 : decode (yB Y_Mo_isWanted) 42 = .ok (.if_icmp .ne 7, 3) := by decide +kernel
theorem d_Mo_isWanted_45 : decode (yB Y_Mo_isWanted) 45 = .ok (.iconst 1, 1) := by decide +kernel
theorem d_Mo_isWanted_46 : decode (yB Y_Mo_isWanted) 46 = .ok (.goto 4, 3) := by decide +kernel
theorem d_Mo_isWanted_49 : decode (yB Y_Mo_isWanted) 49 = .ok (.iconst 0, 1) := by decide +kernel
theorem d_Mo_isWanted_50 : decode (yB Y_Mo_isWanted) 50 = .ok (.istore_n 2, 1) := by decide +kernel
theorem d_Mo_isWanted_51 : decode (yB Y_Mo_isWanted) 51 = .ok (.iinc 3 1, 3) := by decide +kernel
theorem d_Mo_isWanted_54 : decode (yB Y_Mo_isWanted) 54 = .ok (.goto (-50), 3) := by decide +kernel
theorem d_Mo_isWanted_57 : decode (yB Y_Mo_isWanted) 57 = .ok (.iload_n 2, 1) := by decide +kernel
theorem d_Mo_isWanted_58 : decode (yB Y_Mo_isWanted) 58 = .ok (.ireturn, 1) := by decide +kernel
def F_Mo_isWanted_b50 (n : Nat) (E : zE) (S : zS) (r4 : Nat × Int32 × Int32 × Int32 × zH → Option (Bool × zH)) (a0 : Nat) (x1 : Int32) (x3 : Int32) (s0 : Int32) (M : zH) : Option (Bool × zH) :=
  r4 (a0, x1, s0, x3 + 1, M)
def F_Mo_isWanted_b45 (n : Nat) (E : zE) (S : zS) (r4 : Nat × Int32 × Int32 × Int32 × zH → Option (Bool × zH)) (a0 : Nat) (x1 : Int32) (x3 : Int32) (M : zH) : Option (Bool × zH) :=
  F_Mo_isWanted_b50 n E S r4 a0 x1 x3 1 M
def F_Mo_isWanted_L4 (n : Nat) (E : zE) (S : zS) (r4 : Nat × Int32 × Int32 × Int32 × zH → Option (Bool × zH)) (a0 : Nat) (x1 : Int32) (x2 : Int32) (x3 : Int32) (M : zH) : Option (Bool × zH) :=
  if 8 ≤ x3 then
    (zbl x2).bind fun z_2 =>
    some (z_2, M)
  else
    if x2 = 0 then
      (zbl x2).bind fun z_4 =>
      some (z_4, M)
    else
      (zgR S a0 11 3).bind fun b_5 =>
      (zldI S M b_5 (57 + x3)).bind fun v_6 =>
      if v_6 = (-1) then
        F_Mo_isWanted_b45 n E S r4 a0 x1 x3 M
      else
        (F_Mo_fallsOn n E S a0 x1 x3 M).bind fun q_8 =>
        (zldI S q_8.2 b_5 (57 + x3)).bind fun v_9 =>
        if q_8.1 = v_9 then
          F_Mo_isWanted_b45 n E S r4 a0 x1 x3 q_8.2
        else
          F_Mo_isWanted_b50 n E S r4 a0 x1 x3 0 q_8.2
def F_Mo_isWanted_b4 (n : Nat) (E : zE) (S : zS) : Nat × Int32 × Int32 × Int32 × zH → Option (Bool × zH) := zfix (fun r4 s => F_Mo_isWanted_L4 n E S r4 s.1 s.2.1 s.2.2.1 s.2.2.2.1 s.2.2.2.2) n
def F_Mo_isWanted (n : Nat) (E : zE) (S : zS) (a0 : Nat) (x1 : Int32) (M : zH) : Option (Bool × zH) :=
  F_Mo_isWanted_b4 n E S (a0, x1, 1, 0, M)
theorem K_Mo_isWanted_b50 (n : Nat) (E : zE) (S : zS) (r4 : Nat × Int32 × Int32 × Int32 × zH → Option (Bool × zH)) (a0 : Nat) (x1 : Int32) (x3 : Int32) (s0 : Int32) (M : zH) (r : Bool) (M' : zH) (hr4 : ∀ (a0 : Nat) (x1 : Int32) (x2 : Int32) (x3 : Int32) (M : zH), r4 (a0, x1, x2, x3, M) = some (r, M') → zG E Y_Mo_isWanted (some (.int (bI r)), S, M') 4 [(0, .ref a0), (1, .int x1), (2, .int x2), (3, .int x3)] [] S M 0 0) (h : F_Mo_isWanted_b50 n E S r4 a0 x1 x3 s0 M = some (r, M')) : zG E Y_Mo_isWanted (some (.int (bI r)), S, M') 50 [(0, .ref a0), (1, .int x1), (3, .int x3)] [.int s0] S M 0 0 := by
  unfold F_Mo_isWanted_b50 at h
  refine zi_istore_n [(2, .int s0), (0, .ref a0), (1, .int x1), (3, .int x3)] d_Mo_isWanted_50 (by decide) rfl ?_
  refine zi_iinc 3 (x3 + 1) [(3, .int (x3 + 1)), (2, .int s0), (0, .ref a0), (1, .int x1)] d_Mo_isWanted_51 rfl rfl (by decide) rfl ?_
  refine zi_goto (tgt := 4) d_Mo_isWanted_54 rfl ?_
  refine zi_lo [(0, .ref a0), (1, .int x1), (2, .int s0), (3, .int (x3 + 1))] [2, 3, 1, 0] rfl ?_
  exact hr4 a0 x1 s0 (x3 + 1) M h
theorem K_Mo_isWanted_b45 (n : Nat) (E : zE) (S : zS) (r4 : Nat × Int32 × Int32 × Int32 × zH → Option (Bool × zH)) (a0 : Nat) (x1 : Int32) (x3 : Int32) (M : zH) (r : Bool) (M' : zH) (hr4 : ∀ (a0 : Nat) (x1 : Int32) (x2 : Int32) (x3 : Int32) (M : zH), r4 (a0, x1, x2, x3, M) = some (r, M') → zG E Y_Mo_isWanted (some (.int (bI r)), S, M') 4 [(0, .ref a0), (1, .int x1), (2, .int x2), (3, .int x3)] [] S M 0 0) (h : F_Mo_isWanted_b45 n E S r4 a0 x1 x3 M = some (r, M')) : zG E Y_Mo_isWanted (some (.int (bI r)), S, M') 45 [(0, .ref a0), (1, .int x1), (3, .int x3)] [] S M 0 0 := by
  unfold F_Mo_isWanted_b45 at h
  refine zi_iconst 1 d_Mo_isWanted_45 rfl ?_
  refine zi_goto (tgt := 50) d_Mo_isWanted_46 rfl ?_
  refine zi_lo [(0, .ref a0), (1, .int x1), (3, .int x3)] [0, 1, 2] rfl ?_
  exact K_Mo_isWanted_b50 n E S r4 a0 x1 x3 1 M r M' hr4 h
theorem K_Mo_isWanted_L4 (n : Nat) (E : zE) (S : zS) (r4 : Nat × Int32 × Int32 × Int32 × zH → Option (Bool × zH)) (a0 : Nat) (x1 : Int32) (x2 : Int32) (x3 : Int32) (M : zH) (r : Bool) (M' : zH) (hr4 : ∀ (a0 : Nat) (x1 : Int32) (x2 : Int32) (x3 : Int32) (M : zH), r4 (a0, x1, x2, x3, M) = some (r, M') → zG E Y_Mo_isWanted (some (.int (bI r)), S, M') 4 [(0, .ref a0), (1, .int x1), (2, .int x2), (3, .int x3)] [] S M 0 0) (h : F_Mo_isWanted_L4 n E S r4 a0 x1 x2 x3 M = some (r, M')) : zG E Y_Mo_isWanted (some (.int (bI r)), S, M') 4 [(0, .ref a0), (1, .int x1), (2, .int x2), (3, .int x3)] [] S M 0 0 := by
  unfold F_Mo_isWanted_L4 at h
  refine zi_iload_n 3 d_Mo_isWanted_4 rfl ?_
  refine zi_bipush 8 d_Mo_isWanted_5 rfl ?_
  refine zi_icmp_ge (tgt := 57) d_Mo_isWanted_7 rfl (fun c_1 => ?_) (fun c_1 => ?_)
  · rw [if_pos c_1] at h
    refine zi_iload_n 2 d_Mo_isWanted_57 rfl ?_
    obtain ⟨z_2, ez_2, h⟩ := zbind h
    cases h
    exact zo_retB d_Mo_isWanted_58 (Nat.le_of_ble_eq_true rfl) (Nat.le_of_ble_eq_true rfl) (zbl_s ez_2)
  · rw [if_neg c_1] at h
    refine zi_iload_n 2 d_Mo_isWanted_10 rfl ?_
    refine zi_if_eq (tgt := 57) d_Mo_isWanted_11 rfl (fun c_3 => ?_) (fun c_3 => ?_)
    · rw [if_pos c_3] at h
      refine zi_iload_n 2 d_Mo_isWanted_57 rfl ?_
      obtain ⟨z_4, ez_4, h⟩ := zbind h
      cases h
      exact zo_retB d_Mo_isWanted_58 (Nat.le_of_ble_eq_true rfl) (Nat.le_of_ble_eq_true rfl) (zbl_s ez_4)
    · rw [if_neg c_3] at h
      refine zi_aload_n 0 d_Mo_isWanted_14 rfl ?_
      obtain ⟨b_5, eb_5, h⟩ := zbind h
      refine zo_getR 18 zkd_11 3 d_Mo_isWanted_15 eb_5 rfl tw_1234 rfl ?_
      refine zi_bipush 57 d_Mo_isWanted_18 rfl ?_
      refine zi_iload_n 3 d_Mo_isWanted_20 rfl ?_
      refine zi_iadd d_Mo_isWanted_21 ?_
      obtain ⟨v_6, ev_6, h⟩ := zbind h
      refine zo_iald 23 d_Mo_isWanted_22 ev_6 rfl ?_
      refine zi_iconst (-1) d_Mo_isWanted_23 rfl ?_
      refine zi_icmp_eq (tgt := 45) d_Mo_isWanted_24 rfl (fun c_7 => ?_) (fun c_7 => ?_)
      · rw [if_pos c_7] at h
        refine zi_lo [(0, .ref a0), (1, .int x1), (3, .int x3)] [0, 1, 3] rfl ?_
        exact K_Mo_isWanted_b45 n E S r4 a0 x1 x3 M r M' hr4 h
      · rw [if_neg c_7] at h
        refine zi_aload_n 0 d_Mo_isWanted_27 rfl ?_
        refine zi_iload_n 1 d_Mo_isWanted_28 rfl ?_
        refine zi_iload_n 3 d_Mo_isWanted_29 rfl ?_
        obtain ⟨q_8, eq_8, h⟩ := zbind h
        refine zo_virt (k' := 0) (n' := 0) 33 [.int x1, .int x3] [] [.int q_8.1] zkd_11 (zgR_s eb_5).1 (C_Mo_fallsOn n E S a0 x1 x3 M q_8.1 q_8.2 eq_8) d_Mo_isWanted_30 tw_1790 tw_1787 tw_1789 ts_93 tw_13 dd_Mo_fallsOn ⟨Nat.le_of_ble_eq_true rfl, Nat.le_of_ble_eq_true rfl, Nat.le_of_ble_eq_true rfl, Nat.le_of_ble_eq_true rfl⟩ (Nat.le_of_ble_eq_true rfl) rfl rfl rfl rfl ?_
        refine zi_aload_n 0 d_Mo_isWanted_33 rfl ?_
        refine zo_getR 37 zkd_11 3 d_Mo_isWanted_34 eb_5 rfl tw_1234 rfl ?_
        refine zi_bipush 57 d_Mo_isWanted_37 rfl ?_
        refine zi_iload_n 3 d_Mo_isWanted_39 rfl ?_
        refine zi_iadd d_Mo_isWanted_40 ?_
        obtain ⟨v_9, ev_9, h⟩ := zbind h
        refine zo_iald 42 d_Mo_isWanted_41 ev_9 rfl ?_
        refine zi_icmp_ne (tgt := 49) d_Mo_isWanted_42 rfl (fun c_10 => ?_) (fun c_10 => ?_)
        · rw [if_neg c_10] at h
          refine zi_iconst 0 d_Mo_isWanted_49 rfl ?_
          refine zi_lo [(0, .ref a0), (1, .int x1), (3, .int x3)] [0, 1, 3] rfl ?_
          exact K_Mo_isWanted_b50 n E S r4 a0 x1 x3 0 q_8.2 r M' hr4 h
        · rw [if_pos c_10] at h
          refine zi_lo [(0, .ref a0), (1, .int x1), (3, .int x3)] [0, 1, 3] rfl ?_
          exact K_Mo_isWanted_b45 n E S r4 a0 x1 x3 q_8.2 r M' hr4 h
theorem K_Mo_isWanted_b4 (n : Nat) (E : zE) (S : zS) (a0 : Nat) (x1 : Int32) (x2 : Int32) (x3 : Int32) (M : zH) (r : Bool) (M' : zH)  (h : F_Mo_isWanted_b4 n E S (a0, x1, x2, x3, M) = some (r, M')) : zG E Y_Mo_isWanted (some (.int (bI r)), S, M') 4 [(0, .ref a0), (1, .int x1), (2, .int x2), (3, .int x3)] [] S M 0 0 := by
  have key : ∀ (k : Nat) (a0 : Nat) (x1 : Int32) (x2 : Int32) (x3 : Int32) (M : zH), zfix (fun r4 s => F_Mo_isWanted_L4 n E S r4 s.1 s.2.1 s.2.2.1 s.2.2.2.1 s.2.2.2.2) k (a0, x1, x2, x3, M) = some (r, M') → zG E Y_Mo_isWanted (some (.int (bI r)), S, M') 4 [(0, .ref a0), (1, .int x1), (2, .int x2), (3, .int x3)] [] S M 0 0 := by
    intro k
    induction k with
    | zero => intro a0 x1 x2 x3 M h; cases h
    | succ k ih => intro a0 x1 x2 x3 M h; exact K_Mo_isWanted_L4 n E S _ a0 x1 x2 x3 M r M'  (fun a0 x1 x2 x3 M h => ih a0 x1 x2 x3 M h) h
  exact key n a0 x1 x2 x3 M h
theorem K_Mo_isWanted (n : Nat) (E : zE) (S : zS) (a0 : Nat) (x1 : Int32) (M : zH) (r : Bool) (M' : zH)  (h : F_Mo_isWanted n E S a0 x1 M = some (r, M')) : zG E Y_Mo_isWanted (some (.int (bI r)), S, M') 0 [(0, .ref a0), (1, .int x1)] [] S M 0 0 := by
  unfold F_Mo_isWanted at h
  refine zi_iconst 1 d_Mo_isWanted_0 rfl ?_
  refine zi_istore_n [(2, .int 1), (0, .ref a0), (1, .int x1)] d_Mo_isWanted_1 (by decide) rfl ?_
  refine zi_iconst 0 d_Mo_isWanted_2 rfl ?_
  refine zi_istore_n [(3, .int 0), (2, .int 1), (0, .ref a0), (1, .int x1)] d_Mo_isWanted_3 (by decide) rfl ?_
  refine zi_lo [(0, .ref a0), (1, .int x1), (2, .int 1), (3, .int 0)] [2, 3, 1, 0] rfl ?_
  exact K_Mo_isWanted_b4 n E S a0 x1 1 0 M r M'  h
theorem C_Mo_isWanted (n : Nat) (E : zE) (S : zS) (a0 : Nat) (x1 : Int32) (M : zH) (r : Bool) (M' : zH) (h : F_Mo_isWanted n E S a0 x1 M = some (r, M')) : zC E Y_Mo_isWanted [.ref a0, .int x1] S M (some (.int (bI r)), S, M') :=
  zC.of (Or.inl (show plainName "NightColanderModel" = true by decide)) (Nat.le_of_ble_eq_true rfl) (bI_nar r) (K_Mo_isWanted n E S a0 x1 M r M' h)
theorem d_Mo_stepsTo_0 : decode (yB Y_Mo_stepsTo) 0 = .ok (.iconst 0, 1) := by decide +kernel
theorem d_Mo_stepsTo_1 : decode (yB Y_Mo_stepsTo) 1 = .ok (.istore_n 2, 1) := by decide +kernel
theorem d_Mo_stepsTo_2 : decode (yB Y_Mo_stepsTo) 2 = .ok (.iconst 0, 1) := by decide +kernel
theorem d_Mo_stepsTo_3 : decode (yB Y_Mo_stepsTo) 3 = .ok (.istore_n 3, 1) := by decide +kernel
theorem d_Mo_stepsTo_4 : decode (yB Y_Mo_stepsTo) 4 = .ok (.iload_n 3, 1) := by decide +kernel
theorem d_Mo_stepsTo_5 : decode (yB Y_Mo_stepsTo) 5 = .ok (.iconst 4, 1) := by decide +kernel
theorem d_Mo_stepsTo_6 : decode (yB Y_Mo_stepsTo) 6 = .ok (.if_icmp .ge 55, 3) := by decide +kernel
theorem d_Mo_stepsTo_9 : decode (yB Y_Mo_stepsTo) 9 = .ok (.iload_n 1, 1) := by decide +kernel
theorem d_Mo_stepsTo_10 : decode (yB Y_Mo_stepsTo) 10 = .ok (.iload_n 3, 1) := by decide +kernel
theorem d_Mo_stepsTo_11 : decode (yB Y_Mo_stepsTo) 11 = .ok (.invokestatic 481, 3) := by decide +kernel
theorem d_Mo_stepsTo_14 : decode (yB Y_Mo_stepsTo) 14 = .ok (.bipush 8, 2) := by decide +kernel
theorem d_Mo_stepsTo_16 : decode (yB Y_Mo_stepsTo) 16 = .ok (.iadd, 1) := by decide +kernel
theorem d_Mo_stepsTo_17 : decode (yB Y_Mo_stepsTo) 17 = .ok (.aload_n 0, 1) := by decide +kernel
theorem d_Mo_stepsTo_18 : decode (yB Y_Mo_stepsTo) 18 = .ok (.getfield 13, 3) := by decide +kernel
theorem d_Mo_stepsTo_21 : decode (yB Y_Mo_stepsTo) 21 = .ok (.bipush 8, 2) := by decide +kernel
theorem d_Mo_stepsTo_23 : decode (yB Y_Mo_stepsTo) 23 = .ok (.iload_n 3, 1) := by decide +kernel
theorem d_Mo_stepsTo_24 : decode (yB Y_Mo_stepsTo) 24 = .ok (.iadd, 1) := by decide +kernel
theorem d_Mo_stepsTo_25 : decode (yB Y_Mo_stepsTo) 25 = .ok (.iaload, 1) := by decide +kernel
theorem d_Mo_stepsTo_26 : decode (yB Y_Mo_stepsTo) 26 = .ok (.isub, 1) := by decide +kernel
theorem d_Mo_stepsTo_27 : decode (yB Y_Mo_stepsTo) 27 = .ok (.bipush 8, 2) := by decide +kernel
theorem d_Mo_stepsTo_29 : decode (yB Y_Mo_stepsTo) 29 = .ok (.irem, 1) := by decide +kernel
theorem d_Mo_stepsTo_30 : decode (yB Y_Mo_stepsTo) 30 = .ok (.istore 4, 2) := by decide +kernel
theorem d_Mo_stepsTo_32 : decode (yB Y_Mo_stepsTo) 32 = .ok (.iload_n 2, 1) := by decide +kernel
theorem d_Mo_stepsTo_33 : decode (yB Y_Mo_stepsTo) 33 = .ok (.iload 4, 2) := by decide +kernel
theorem d_Mo_stepsTo_35 : decode (yB Y_Mo_stepsTo) 35 = .ok (.bipush 8, 2) := by decide +kernel
theorem d_Mo_stepsTo_37 : decode (yB Y_Mo_stepsTo) 37 = .ok (.iload 4, 2) := by decide +kernel
theorem d_Mo_stepsTo_39 : decode (yB Y_Mo_stepsTo) 39 = .ok (.isub, 1) := by decide +kernel
theorem d_Mo_stepsTo_40 : decode (yB Y_Mo_stepsTo) 40 = .ok (.if_icmp .ge 8, 3) := by decide +kernel
theorem d_Mo_stepsTo_43 : decode (yB Y_Mo_stepsTo) 43 = .ok (.iload 4, 2) := by decide +kernel
theorem d_Mo_stepsTo_45 : decode (yB Y_Mo_stepsTo) 45 = .ok (.goto 8, 3) := by decide +kernel
theorem d_Mo_stepsTo_48 : decode (yB Y_Mo_stepsTo) 48 = .ok (.bipush 8, 2) := by decide +kernel
theorem d_Mo_stepsTo_50 : decode (yB Y_Mo_stepsTo) 50 = .ok (.iload 4, 2) := by decide +kernel
theorem d_Mo_stepsTo_52 : decode (yB Y_Mo_stepsTo) 52 = .ok (.isub, 1) := by decide +kernel
theorem d_Mo_stepsTo_53 : decode (yB Y_Mo_stepsTo) 53 = .ok (.iadd, 1) := by decide +kernel
theorem d_Mo_stepsTo_54 : decode (yB Y_Mo_stepsTo) 54 = .ok (.istore_n 2, 1) := by decide +kernel
theorem d_Mo_stepsTo_55 : decode (yB Y_Mo_stepsTo) 55 = .ok (.iinc 3 1, 3) := by decide +kernel
theorem d_Mo_stepsTo_58 : decode (yB Y_Mo_stepsTo) 58 = .ok (.goto (-54), 3) := by decide +kernel
theorem d_Mo_stepsTo_61 : decode (yB Y_Mo_stepsTo) 61 = .ok (.iload_n 2, 1) := by decide +kernel
theorem d_Mo_stepsTo_62 : decode (yB Y_Mo_stepsTo) 62 = .ok (.ireturn, 1) := by decide +kernel
def F_Mo_stepsTo_b53 (n : Nat) (E : zE) (S : zS) (r4 : Nat × Int32 × Int32 × Int32 × zH → Option (Int32 × zH)) (a0 : Nat) (x1 : Int32) (x3 : Int32) (s0 : Int32) (s1 : Int32) (M : zH) : Option (Int32 × zH) :=
  r4 (a0, x1, s1 + s0, x3 + 1, M)
def F_Mo_stepsTo_L4 (n : Nat) (E : zE) (S : zS) (r4 : Nat × Int32 × Int32 × Int32 × zH → Option (Int32 × zH)) (a0 : Nat) (x1 : Int32) (x2 : Int32) (x3 : Int32) (M : zH) : Option (Int32 × zH) :=
  if 4 ≤ x3 then
    some (x2, M)
  else
    (F_Mo_turnOf n E S x1 x3 M).bind fun q_2 =>
    (zgR S a0 11 3).bind fun b_3 =>
    (zldI S q_2.2 b_3 (8 + x3)).bind fun v_4 =>
    (zremI ((q_2.1 + 8) - v_4) 8).bind fun v_5 =>
    if (8 - v_5) ≤ v_5 then
      F_Mo_stepsTo_b53 n E S r4 a0 x1 x3 (8 - v_5) x2 q_2.2
    else
      F_Mo_stepsTo_b53 n E S r4 a0 x1 x3 v_5 x2 q_2.2
def F_Mo_stepsTo_b4 (n : Nat) (E : zE) (S : zS) : Nat × Int32 × Int32 × Int32 × zH → Option (Int32 × zH) := zfix (fun r4 s => F_Mo_stepsTo_L4 n E S r4 s.1 s.2.1 s.2.2.1 s.2.2.2.1 s.2.2.2.2) n
def F_Mo_stepsTo (n : Nat) (E : zE) (S : zS) (a0 : Nat) (x1 : Int32) (M : zH) : Option (Int32 × zH) :=
  F_Mo_stepsTo_b4 n E S (a0, x1, 0, 0, M)
theorem K_Mo_stepsTo_b53 (n : Nat) (E : zE) (S : zS) (r4 : Nat × Int32 × Int32 × Int32 × zH → Option (Int32 × zH)) (a0 : Nat) (x1 : Int32) (x3 : Int32) (s0 : Int32) (s1 : Int32) (M : zH) (r : Int32) (M' : zH) (hr4 : ∀ (a0 : Nat) (x1 : Int32) (x2 : Int32) (x3 : Int32) (M : zH), r4 (a0, x1, x2, x3, M) = some (r, M') → zG E Y_Mo_stepsTo (some (.int r), S, M') 4 [(0, .ref a0), (1, .int x1), (2, .int x2), (3, .int x3)] [] S M 0 0) (h : F_Mo_stepsTo_b53 n E S r4 a0 x1 x3 s0 s1 M = some (r, M')) : zG E Y_Mo_stepsTo (some (.int r), S, M') 53 [(0, .ref a0), (1, .int x1), (3, .int x3)] [.int s0, .int s1] S M 0 0 := by
  unfold F_Mo_stepsTo_b53 at h
  refine zi_iadd d_Mo_stepsTo_53 ?_
  refine zi_istore_n [(2, .int (s1 + s0)), (0, .ref a0), (1, .int x1), (3, .int x3)] d_Mo_stepsTo_54 (by decide) rfl ?_
  refine zi_iinc 3 (x3 + 1) [(3, .int (x3 + 1)), (2, .int (s1 + s0)), (0, .ref a0), (1, .int x1)] d_Mo_stepsTo_55 rfl rfl (by decide) rfl ?_
  refine zi_goto (tgt := 4) d_Mo_stepsTo_58 rfl ?_
  refine zi_lo [(0, .ref a0), (1, .int x1), (2, .int (s1 + s0)), (3, .int (x3 + 1))] [2, 3, 1, 0] rfl ?_
  exact hr4 a0 x1 (s1 + s0) (x3 + 1) M h
theorem K_Mo_stepsTo_L4 (n : Nat) (E : zE) (S : zS) (r4 : Nat × Int32 × Int32 × Int32 × zH → Option (Int32 × zH)) (a0 : Nat) (x1 : Int32) (x2 : Int32) (x3 : Int32) (M : zH) (r : Int32) (M' : zH) (hr4 : ∀ (a0 : Nat) (x1 : Int32) (x2 : Int32) (x3 : Int32) (M : zH), r4 (a0, x1, x2, x3, M) = some (r, M') → zG E Y_Mo_stepsTo (some (.int r), S, M') 4 [(0, .ref a0), (1, .int x1), (2, .int x2), (3, .int x3)] [] S M 0 0) (h : F_Mo_stepsTo_L4 n E S r4 a0 x1 x2 x3 M = some (r, M')) : zG E Y_Mo_stepsTo (some (.int r), S, M') 4 [(0, .ref a0), (1, .int x1), (2, .int x2), (3, .int x3)] [] S M 0 0 := by
  unfold F_Mo_stepsTo_L4 at h
  refine zi_iload_n 3 d_Mo_stepsTo_4 rfl ?_
  refine zi_iconst 4 d_Mo_stepsTo_5 rfl ?_
  refine zi_icmp_ge (tgt := 61) d_Mo_stepsTo_6 rfl (fun c_1 => ?_) (fun c_1 => ?_)
  · rw [if_pos c_1] at h
    refine zi_iload_n 2 d_Mo_stepsTo_61 rfl ?_
    cases h
    exact zo_ret d_Mo_stepsTo_62 (Nat.le_of_ble_eq_true rfl) (Nat.le_of_ble_eq_true rfl) rfl
  · rw [if_neg c_1] at h
    refine zi_iload_n 1 d_Mo_stepsTo_9 rfl ?_
    refine zi_iload_n 3 d_Mo_stepsTo_10 rfl ?_
    obtain ⟨q_2, eq_2, h⟩ := zbind h
    refine zo_stat (k' := 0) (n' := 0) 14 [.int x1, .int x3] [] [.int q_2.1] (C_Mo_turnOf n E S x1 x3 M q_2.1 q_2.2 eq_2) d_Mo_stepsTo_11 tw_1793 tw_1791 tw_1792 tw_13 dd_Mo_turnOf ⟨Nat.le_of_ble_eq_true rfl, Nat.le_of_ble_eq_true rfl, Nat.le_of_ble_eq_true rfl, Nat.le_of_ble_eq_true rfl⟩ (Nat.le_of_ble_eq_true rfl) rfl rfl rfl rfl ?_
    refine zi_bipush 8 d_Mo_stepsTo_14 rfl ?_
    refine zi_iadd d_Mo_stepsTo_16 ?_
    refine zi_aload_n 0 d_Mo_stepsTo_17 rfl ?_
    obtain ⟨b_3, eb_3, h⟩ := zbind h
    refine zo_getR 21 zkd_11 3 d_Mo_stepsTo_18 eb_3 rfl tw_1234 rfl ?_
    refine zi_bipush 8 d_Mo_stepsTo_21 rfl ?_
    refine zi_iload_n 3 d_Mo_stepsTo_23 rfl ?_
    refine zi_iadd d_Mo_stepsTo_24 ?_
    obtain ⟨v_4, ev_4, h⟩ := zbind h
    refine zo_iald 26 d_Mo_stepsTo_25 ev_4 rfl ?_
    refine zi_isub d_Mo_stepsTo_26 ?_
    refine zi_bipush 8 d_Mo_stepsTo_27 rfl ?_
    obtain ⟨v_5, ev_5, h⟩ := zbind h
    refine zo_irem 30 d_Mo_stepsTo_29 ev_5 rfl ?_
    refine zi_istore [(4, .int v_5), (0, .ref a0), (1, .int x1), (2, .int x2), (3, .int x3)] d_Mo_stepsTo_30 (by decide) rfl ?_
    refine zi_iload_n 3 d_Mo_stepsTo_32 rfl ?_
    refine zi_iload 0 d_Mo_stepsTo_33 rfl ?_
    refine zi_bipush 8 d_Mo_stepsTo_35 rfl ?_
    refine zi_iload 0 d_Mo_stepsTo_37 rfl ?_
    refine zi_isub d_Mo_stepsTo_39 ?_
    refine zi_icmp_ge (tgt := 48) d_Mo_stepsTo_40 rfl (fun c_6 => ?_) (fun c_6 => ?_)
    · rw [if_pos c_6] at h
      refine zi_bipush 8 d_Mo_stepsTo_48 rfl ?_
      refine zi_iload 0 d_Mo_stepsTo_50 rfl ?_
      refine zi_isub d_Mo_stepsTo_52 ?_
      refine zi_lo [(0, .ref a0), (1, .int x1), (3, .int x3)] [1, 2, 4] rfl ?_
      exact K_Mo_stepsTo_b53 n E S r4 a0 x1 x3 (8 - v_5) x2 q_2.2 r M' hr4 h
    · rw [if_neg c_6] at h
      refine zi_iload 0 d_Mo_stepsTo_43 rfl ?_
      refine zi_goto (tgt := 53) d_Mo_stepsTo_45 rfl ?_
      refine zi_lo [(0, .ref a0), (1, .int x1), (3, .int x3)] [1, 2, 4] rfl ?_
      exact K_Mo_stepsTo_b53 n E S r4 a0 x1 x3 v_5 x2 q_2.2 r M' hr4 h
theorem K_Mo_stepsTo_b4 (n : Nat) (E : zE) (S : zS) (a0 : Nat) (x1 : Int32) (x2 : Int32) (x3 : Int32) (M : zH) (r : Int32) (M' : zH)  (h : F_Mo_stepsTo_b4 n E S (a0, x1, x2, x3, M) = some (r, M')) : zG E Y_Mo_stepsTo (some (.int r), S, M') 4 [(0, .ref a0), (1, .int x1), (2, .int x2), (3, .int x3)] [] S M 0 0 := by
  have key : ∀ (k : Nat) (a0 : Nat) (x1 : Int32) (x2 : Int32) (x3 : Int32) (M : zH), zfix (fun r4 s => F_Mo_stepsTo_L4 n E S r4 s.1 s.2.1 s.2.2.1 s.2.2.2.1 s.2.2.2.2) k (a0, x1, x2, x3, M) = some (r, M') → zG E Y_Mo_stepsTo (some (.int r), S, M') 4 [(0, .ref a0), (1, .int x1), (2, .int x2), (3, .int x3)] [] S M 0 0 := by
    intro k
    induction k with
    | zero => intro a0 x1 x2 x3 M h; cases h
    | succ k ih => intro a0 x1 x2 x3 M h; exact K_Mo_stepsTo_L4 n E S _ a0 x1 x2 x3 M r M'  (fun a0 x1 x2 x3 M h => ih a0 x1 x2 x3 M h) h
  exact key n a0 x1 x2 x3 M h
theorem K_Mo_stepsTo (n : Nat) (E : zE) (S : zS) (a0 : Nat) (x1 : Int32) (M : zH) (r : Int32) (M' : zH)  (h : F_Mo_stepsTo n E S a0 x1 M = some (r, M')) : zG E Y_Mo_stepsTo (some (.int r), S, M') 0 [(0, .ref a0), (1, .int x1)] [] S M 0 0 := by
  unfold F_Mo_stepsTo at h
  refine zi_iconst 0 d_Mo_stepsTo_0 rfl ?_
  refine zi_istore_n [(2, .int 0), (0, .ref a0), (1, .int x1)] d_Mo_stepsTo_1 (by decide) rfl ?_
  refine zi_iconst 0 d_Mo_stepsTo_2 rfl ?_
  refine zi_istore_n [(3, .int 0), (2, .int 0), (0, .ref a0), (1, .int x1)] d_Mo_stepsTo_3 (by decide) rfl ?_
  refine zi_lo [(0, .ref a0), (1, .int x1), (2, .int 0), (3, .int 0)] [2, 3, 1, 0] rfl ?_
  exact K_Mo_stepsTo_b4 n E S a0 x1 0 0 M r M'  h
theorem C_Mo_stepsTo (n : Nat) (E : zE) (S : zS) (a0 : Nat) (x1 : Int32) (M : zH) (r : Int32) (M' : zH) (h : F_Mo_stepsTo n E S a0 x1 M = some (r, M')) : zC E Y_Mo_stepsTo [.ref a0, .int x1] S M (some (.int r), S, M') :=
  zC.of (Or.inl (show plainName "NightColanderModel" = true by decide)) (Nat.le_of_ble_eq_true rfl) (trivial) (K_Mo_stepsTo n E S a0 x1 M r M' h)
theorem d_Mo_turned_0 : decode (yB Y_Mo_turned) 0 = .ok (.aload_n 0, 1) := by decide +kernel
theorem d_Mo_turned_1 : decode (yB Y_Mo_turned) 1 = .ok (.iconst 0, 1) := by decide +kernel
theorem d_Mo_turned_2 : decode (yB Y_Mo_turned) 2 = .ok (.putfield 156, 3) := by decide +kernel
theorem d_Mo_turned_5 : decode (yB Y_Mo_turned) 5 = .ok (.iload_n 1, 1) := by decide +kernel
theorem d_Mo_turned_6 : decode (yB Y_Mo_turned) 6 = .ok (.iconst (-1), 1) := by decide +kernel
theorem d_Mo_turned_7 : decode (yB Y_Mo_turned) 7 = .ok (.if_icmp .eq 12, 3) := by decide +kernel
theorem d_Mo_turned_10 : decode (yB Y_Mo_turned) 10 = .ok (.iload_n 1, 1) := by decide +kernel
theorem d_Mo_turned_11 : decode (yB Y_Mo_turned) 11 = .ok (.invokestatic 190, 3) := by decide +kernel
theorem d_Mo_turned_14 : decode (yB Y_Mo_turned) 14 = .ok (.ifCond .ne 5, 3) := by decide +kernel
theorem d_Mo_turned_17 : decode (yB Y_Mo_turned) 17 = .ok (.iconst (-1), 1) := by decide +kernel
theorem d_Mo_turned_18 : decode (yB Y_Mo_turned) 18 = .ok (.ireturn, 1) := by decide +kernel
theorem d_Mo_turned_19 : decode (yB Y_Mo_turned) 19 = .ok (.aload_n 0, 1) := by decide +kernel
theorem d_Mo_turned_20 : decode (yB Y_Mo_turned) 20 = .ok (.invokevirtual 487, 3) := by decide +kernel
theorem d_Mo_turned_23 : decode (yB Y_Mo_turned) 23 = .ok (.ldc_w 496, 3) := by decide +kernel
theorem d_Mo_turned_26 : decode (yB Y_Mo_turned) 26 = .ok (.istore_n 2, 1) := by decide +kernel
theorem d_Mo_turned_27 : decode (yB Y_Mo_turned) 27 = .ok (.iconst (-1), 1) := by decide +kernel
theorem d_Mo_turned_28 : decode (yB Y_Mo_turned) 28 = .ok (.istore_n 3, 1) := by decide +kernel
theorem d_Mo_turned_29 : decode (yB Y_Mo_turned) 29 = .ok (.iconst 0, 1) := by decide +kernel
theorem d_Mo_turned_30 : decode (yB Y_Mo_turned) 30 = .ok (.istore 4, 2) := by decide +kernel
theorem d_Mo_turned_32 : decode (yB Y_Mo_turned) 32 = .ok (.iload 4, 2) := by decide +kernel
theorem d_Mo_turned_34 : decode (yB Y_Mo_turned) 34 = .ok (.sipush 4096, 3) := by decide +kernel
theorem d_Mo_turned_37 : decode (yB Y_Mo_turned) 37 = .ok (.if_icmp .ge 63, 3) := by decide +kernel
theorem d_Mo_turned_40 : decode (yB Y_Mo_turned) 40 = .ok (.aload_n 0, 1) := by decide +kernel
theorem d_Mo_turned_41 : decode (yB Y_Mo_turned) 41 = .ok (.iload 4, 2) := by decide +kernel
theorem d_Mo_turned_43 : decode (yB Y_Mo_turned) 43 = .ok (.invokevirtual 497, 3) := by decide +kernel
theorem d_Mo_turned_46 : decode (yB Y_Mo_turned) 46 = .ok (.iload_n 2, 1) := by decide +kernel
theorem d_Mo_turned_47 : decode (yB Y_Mo_turned) 47 = .ok (.if_icmp .ge 16, 3) := by decide +kernel
theorem d_Mo_turned_50 : decode (yB Y_Mo_turned) 50 = .ok (.aload_n 0, 1) := by decide +kernel
theorem d_Mo_turned_51 : decode (yB Y_Mo_turned) 51 = .ok (.iload 4, 2) := by decide +kernel
theorem d_Mo_turned_53 : decode (yB Y_Mo_turned) 53 = .ok (.invokevirtual 500, 3) := by decide +kernel
theorem d_Mo_turned_56 : decode (yB Y_Mo_turned) 56 = .ok (.ifCond .eq 7, 3) := by decide +kernel
theorem d_Mo_turned_59 : decode (yB Y_Mo_turned) 59 = .ok (.iconst 1, 1) := by decide +kernel
theorem d_Mo_turned_60 : decode (yB Y_Mo_turned) 60 = .ok (.goto 4, 3) := by decide +kernel
theorem d_Mo_turned_63 : decode (yB Y_Mo_turned) 63 = .ok (.iconst 0, 1) := by decide +kernel
theorem d_Mo_turned_64 : decode (yB Y_Mo_turned) 64 = .ok (.istore 5, 2) := by decide +kernel
theorem d_Mo_turned_66 : decode (yB Y_Mo_turned) 66 = .ok (.iload 5, 2) := by decide +kernel
theorem d_Mo_turned_68 : decode (yB Y_Mo_turned) 68 = .ok (.ifCond .eq 8, 3) := by decide +kernel
theorem d_Mo_turned_71 : decode (yB Y_Mo_turned) 71 = .ok (.iload 4, 2) := by decide +kernel
theorem d_Mo_turned_73 : decode (yB Y_Mo_turned) 73 = .ok (.goto 4, 3) := by decide +kernel
theorem d_Mo_turned_76 : decode (yB Y_Mo_turned) 76 = .ok (.iload_n 3, 1) := by decide +kernel
theorem d_Mo_turned_77 : decode (yB Y_Mo_turned) 77 = .ok (.istore_n 3, 1) := by decide +kernel
theorem d_Mo_turned_78 : decode (yB Y_Mo_turned) 78 = .ok (.iload 5, 2) := by decide +kernel
theorem d_Mo_turned_80 : decode (yB Y_Mo_turned) 80 = .ok (.ifCond .eq 12, 3) := by decide +kernel
theorem d_Mo_turned_83 : decode (yB Y_Mo_turned) 83 = .ok (.aload_n 0, 1) := by decide +kernel
theorem d_Mo_turned_84 : decode (yB Y_Mo_turned) 84 = .ok (.iload 4, 2) := by decide +kernel
theorem d_Mo_turned_86 : decode (yB Y_Mo_turned) 86 = .ok (.invokevirtual 497, 3) := by decide +kernel
theorem d_Mo_turned_89 : decode (yB Y_Mo_turned) 89 = .ok (.goto 4, 3) := by decide +kernel
theorem d_Mo_turned_92 : decode (yB Y_Mo_turned) 92 = .ok (.iload_n 2, 1) := by decide +kernel
theorem d_Mo_turned_93 : decode (yB Y_Mo_turned) 93 = .ok (.istore_n 2, 1) := by decide +kernel
theorem d_Mo_turned_94 : decode (yB Y_Mo_turned) 94 = .ok (.iinc 4 1, 3) := by decide +kernel
theorem d_Mo_turned_97 : decode (yB Y_Mo_turned) 97 = .ok (.goto (-65), 3) := by decide +kernel
theorem d_Mo_turned_100 : decode (yB Y_Mo_turned) 100 = .ok (.iload_n 3, 1) := by decide +kernel
theorem d_Mo_turned_101 : decode (yB Y_Mo_turned) 101 = .ok (.iconst (-1), 1) := by decide +kernel
theorem d_Mo_turned_102 : decode (yB Y_Mo_turned) 102 = .ok (.if_icmp .ne 7, 3) := by decide +kernel
theorem d_Mo_turned_105 : decode (yB Y_Mo_turned) 105 = .ok (.iconst (-1), 1) := by decide +kernel
theorem d_Mo_turned_106 : decode (yB Y_Mo_turned) 106 = .ok (.goto 17, 3) := by decide +kernel
theorem d_Mo_turned_109 : decode (yB Y_Mo_turned) 109 = .ok (.iload_n 1, 1) := by decide +kernel
theorem d_Mo_turned_110 : decode (yB Y_Mo_turned) 110 = .ok (.iconst (-1), 1) := by decide +kernel
theorem d_Mo_turned_111 : decode (yB Y_Mo_turned) 111 = .ok (.if_icmp .ne 7, 3) := by decide +kernel
theorem d_Mo_turned_114 : decode (yB Y_Mo_turned) 114 = .ok (.iload_n 2, 1) := by decide +kernel
theorem d_Mo_turned_115 : decode (yB Y_Mo_turned) 115 = .ok (.goto 8, 3) := by decide +kernel
theorem d_Mo_turned_118 : decode (yB Y_Mo_turned) 118 = .ok (.iload_n 3, 1) := by decide +kernel
theorem d_Mo_turned_119 : decode (yB Y_Mo_turned) 119 = .ok (.iload_n 1, 1) := by decide +kernel
theorem d_Mo_turned_120 : decode (yB Y_Mo_turned) 120 = .ok (.invokestatic 481, 3) := by decide +kernel
theorem d_Mo_turned_123 : decode (yB Y_Mo_turned) 123 = .ok (.ireturn, 1) := by decide +kernel
def F_Mo_turned_b93 (n : Nat) (E : zE) (S : zS) (r32 : Nat × Int32 × Int32 × Int32 × Int32 × zH → Option (Int32 × zH)) (a0 : Nat) (x1 : Int32) (x3 : Int32) (x4 : Int32) (s0 : Int32) (M : zH) : Option (Int32 × zH) :=
  r32 (a0, x1, s0, x3, x4 + 1, M)
def F_Mo_turned_b77 (n : Nat) (E : zE) (S : zS) (r32 : Nat × Int32 × Int32 × Int32 × Int32 × zH → Option (Int32 × zH)) (a0 : Nat) (x1 : Int32) (x2 : Int32) (x4 : Int32) (x5 : Int32) (s0 : Int32) (M : zH) : Option (Int32 × zH) :=
  if x5 = 0 then
    F_Mo_turned_b93 n E S r32 a0 x1 s0 x4 x2 M
  else
    (zck S a0 11).bind fun u_2 =>
    (F_Mo_stepsTo n E S a0 x4 M).bind fun q_3 =>
    F_Mo_turned_b93 n E S r32 a0 x1 s0 x4 q_3.1 q_3.2
def F_Mo_turned_b64 (n : Nat) (E : zE) (S : zS) (r32 : Nat × Int32 × Int32 × Int32 × Int32 × zH → Option (Int32 × zH)) (a0 : Nat) (x1 : Int32) (x2 : Int32) (x3 : Int32) (x4 : Int32) (s0 : Int32) (M : zH) : Option (Int32 × zH) :=
  if s0 = 0 then
    F_Mo_turned_b77 n E S r32 a0 x1 x2 x4 s0 x3 M
  else
    F_Mo_turned_b77 n E S r32 a0 x1 x2 x4 s0 x4 M
def F_Mo_turned_b63 (n : Nat) (E : zE) (S : zS) (r32 : Nat × Int32 × Int32 × Int32 × Int32 × zH → Option (Int32 × zH)) (a0 : Nat) (x1 : Int32) (x2 : Int32) (x3 : Int32) (x4 : Int32) (M : zH) : Option (Int32 × zH) :=
  F_Mo_turned_b64 n E S r32 a0 x1 x2 x3 x4 0 M
def F_Mo_turned_L32 (n : Nat) (E : zE) (S : zS) (r32 : Nat × Int32 × Int32 × Int32 × Int32 × zH → Option (Int32 × zH)) (a0 : Nat) (x1 : Int32) (x2 : Int32) (x3 : Int32) (x4 : Int32) (M : zH) : Option (Int32 × zH) :=
  if 4096 ≤ x4 then
    if x3 = (-1) then
      some ((-1), M)
    else
      if x1 = (-1) then
        some (x2, M)
      else
        (F_Mo_turnOf n E S x3 x1 M).bind fun q_8 =>
        some (q_8.1, q_8.2)
  else
    (zck S a0 11).bind fun u_9 =>
    (F_Mo_stepsTo n E S a0 x4 M).bind fun q_10 =>
    if x2 ≤ q_10.1 then
      F_Mo_turned_b63 n E S r32 a0 x1 x2 x3 x4 q_10.2
    else
      (F_Mo_isWanted n E S a0 x4 q_10.2).bind fun q_12 =>
      if q_12.1 = true then
        F_Mo_turned_b64 n E S r32 a0 x1 x2 x3 x4 1 q_12.2
      else
        F_Mo_turned_b63 n E S r32 a0 x1 x2 x3 x4 q_12.2
def F_Mo_turned_b32 (n : Nat) (E : zE) (S : zS) : Nat × Int32 × Int32 × Int32 × Int32 × zH → Option (Int32 × zH) := zfix (fun r32 s => F_Mo_turned_L32 n E S r32 s.1 s.2.1 s.2.2.1 s.2.2.2.1 s.2.2.2.2.1 s.2.2.2.2.2) n
def F_Mo_turned_b19 (n : Nat) (E : zE) (S : zS) (a0 : Nat) (x1 : Int32) (M : zH) : Option (Int32 × zH) :=
  (zck S a0 11).bind fun u_14 =>
  (F_Mo_layFalls n E S a0 M).bind fun q_15 =>
  F_Mo_turned_b32 n E S (a0, x1, 100000000, (-1), 0, q_15)
def F_Mo_turned (n : Nat) (E : zE) (S : zS) (a0 : Nat) (x1 : Int32) (M : zH) : Option (Int32 × zH) :=
  (zpI S M a0 11 0 0).bind fun m_16 =>
  if x1 = (-1) then
    F_Mo_turned_b19 n E S a0 x1 m_16
  else
    (F_Mo_isRing n E S x1 m_16).bind fun q_18 =>
    if q_18.1 = true then
      F_Mo_turned_b19 n E S a0 x1 q_18.2
    else
      some ((-1), q_18.2)
theorem K_Mo_turned_b93 (n : Nat) (E : zE) (S : zS) (r32 : Nat × Int32 × Int32 × Int32 × Int32 × zH → Option (Int32 × zH)) (a0 : Nat) (x1 : Int32) (x3 : Int32) (x4 : Int32) (s0 : Int32) (M : zH) (r : Int32) (M' : zH) (hr32 : ∀ (a0 : Nat) (x1 : Int32) (x2 : Int32) (x3 : Int32) (x4 : Int32) (M : zH), r32 (a0, x1, x2, x3, x4, M) = some (r, M') → zG E Y_Mo_turned (some (.int r), S, M') 32 [(0, .ref a0), (1, .int x1), (2, .int x2), (3, .int x3), (4, .int x4)] [] S M 0 0) (h : F_Mo_turned_b93 n E S r32 a0 x1 x3 x4 s0 M = some (r, M')) : zG E Y_Mo_turned (some (.int r), S, M') 93 [(0, .ref a0), (1, .int x1), (3, .int x3), (4, .int x4)] [.int s0] S M 0 0 := by
  unfold F_Mo_turned_b93 at h
  refine zi_istore_n [(2, .int s0), (0, .ref a0), (1, .int x1), (3, .int x3), (4, .int x4)] d_Mo_turned_93 (by decide) rfl ?_
  refine zi_iinc 4 (x4 + 1) [(4, .int (x4 + 1)), (2, .int s0), (0, .ref a0), (1, .int x1), (3, .int x3)] d_Mo_turned_94 rfl rfl (by decide) rfl ?_
  refine zi_goto (tgt := 32) d_Mo_turned_97 rfl ?_
  refine zi_lo [(0, .ref a0), (1, .int x1), (2, .int s0), (3, .int x3), (4, .int (x4 + 1))] [2, 3, 1, 4, 0] rfl ?_
  exact hr32 a0 x1 s0 x3 (x4 + 1) M h
theorem K_Mo_turned_b77 (n : Nat) (E : zE) (S : zS) (r32 : Nat × Int32 × Int32 × Int32 × Int32 × zH → Option (Int32 × zH)) (a0 : Nat) (x1 : Int32) (x2 : Int32) (x4 : Int32) (x5 : Int32) (s0 : Int32) (M : zH) (r : Int32) (M' : zH) (hr32 : ∀ (a0 : Nat) (x1 : Int32) (x2 : Int32) (x3 : Int32) (x4 : Int32) (M : zH), r32 (a0, x1, x2, x3, x4, M) = some (r, M') → zG E Y_Mo_turned (some (.int r), S, M') 32 [(0, .ref a0), (1, .int x1), (2, .int x2), (3, .int x3), (4, .int x4)] [] S M 0 0) (h : F_Mo_turned_b77 n E S r32 a0 x1 x2 x4 x5 s0 M = some (r, M')) : zG E Y_Mo_turned (some (.int r), S, M') 77 [(0, .ref a0), (1, .int x1), (2, .int x2), (4, .int x4), (5, .int x5)] [.int s0] S M 0 0 := by
  unfold F_Mo_turned_b77 at h
  refine zi_istore_n [(3, .int s0), (0, .ref a0), (1, .int x1), (2, .int x2), (4, .int x4), (5, .int x5)] d_Mo_turned_77 (by decide) rfl ?_
  refine zi_iload 5 d_Mo_turned_78 rfl ?_
  refine zi_if_eq (tgt := 92) d_Mo_turned_80 rfl (fun c_1 => ?_) (fun c_1 => ?_)
  · rw [if_pos c_1] at h
    refine zi_iload_n 3 d_Mo_turned_92 rfl ?_
    refine zi_lo [(0, .ref a0), (1, .int x1), (3, .int s0), (4, .int x4)] [1, 2, 0, 4] rfl ?_
    exact K_Mo_turned_b93 n E S r32 a0 x1 s0 x4 x2 M r M' hr32 h
  · rw [if_neg c_1] at h
    refine zi_aload_n 1 d_Mo_turned_83 rfl ?_
    refine zi_iload 4 d_Mo_turned_84 rfl ?_
    obtain ⟨u_2, eu_2, h⟩ := zbind h
    obtain ⟨q_3, eq_3, h⟩ := zbind h
    refine zo_virt (k' := 0) (n' := 0) 89 [.int x4] [] [.int q_3.1] zkd_11 (zck_s eu_2) (C_Mo_stepsTo n E S a0 x4 M q_3.1 q_3.2 eq_3) d_Mo_turned_86 tw_1809 tw_1806 tw_1808 ts_94 tw_13 dd_Mo_stepsTo ⟨Nat.le_of_ble_eq_true rfl, Nat.le_of_ble_eq_true rfl, Nat.le_of_ble_eq_true rfl, Nat.le_of_ble_eq_true rfl⟩ (Nat.le_of_ble_eq_true rfl) rfl rfl rfl rfl ?_
    refine zi_goto (tgt := 93) d_Mo_turned_89 rfl ?_
    refine zi_lo [(0, .ref a0), (1, .int x1), (3, .int s0), (4, .int x4)] [1, 2, 0, 4] rfl ?_
    exact K_Mo_turned_b93 n E S r32 a0 x1 s0 x4 q_3.1 q_3.2 r M' hr32 h
theorem K_Mo_turned_b64 (n : Nat) (E : zE) (S : zS) (r32 : Nat × Int32 × Int32 × Int32 × Int32 × zH → Option (Int32 × zH)) (a0 : Nat) (x1 : Int32) (x2 : Int32) (x3 : Int32) (x4 : Int32) (s0 : Int32) (M : zH) (r : Int32) (M' : zH) (hr32 : ∀ (a0 : Nat) (x1 : Int32) (x2 : Int32) (x3 : Int32) (x4 : Int32) (M : zH), r32 (a0, x1, x2, x3, x4, M) = some (r, M') → zG E Y_Mo_turned (some (.int r), S, M') 32 [(0, .ref a0), (1, .int x1), (2, .int x2), (3, .int x3), (4, .int x4)] [] S M 0 0) (h : F_Mo_turned_b64 n E S r32 a0 x1 x2 x3 x4 s0 M = some (r, M')) : zG E Y_Mo_turned (some (.int r), S, M') 64 [(0, .ref a0), (1, .int x1), (2, .int x2), (3, .int x3), (4, .int x4)] [.int s0] S M 0 0 := by
  unfold F_Mo_turned_b64 at h
  refine zi_istore [(5, .int s0), (0, .ref a0), (1, .int x1), (2, .int x2), (3, .int x3), (4, .int x4)] d_Mo_turned_64 (by decide) rfl ?_
  refine zi_iload 0 d_Mo_turned_66 rfl ?_
  refine zi_if_eq (tgt := 76) d_Mo_turned_68 rfl (fun c_4 => ?_) (fun c_4 => ?_)
  · rw [if_pos c_4] at h
    refine zi_iload_n 4 d_Mo_turned_76 rfl ?_
    refine zi_lo [(0, .ref a0), (1, .int x1), (2, .int x2), (4, .int x4), (5, .int s0)] [1, 2, 3, 5, 0] rfl ?_
    exact K_Mo_turned_b77 n E S r32 a0 x1 x2 x4 s0 x3 M r M' hr32 h
  · rw [if_neg c_4] at h
    refine zi_iload 5 d_Mo_turned_71 rfl ?_
    refine zi_goto (tgt := 77) d_Mo_turned_73 rfl ?_
    refine zi_lo [(0, .ref a0), (1, .int x1), (2, .int x2), (4, .int x4), (5, .int s0)] [1, 2, 3, 5, 0] rfl ?_
    exact K_Mo_turned_b77 n E S r32 a0 x1 x2 x4 s0 x4 M r M' hr32 h
theorem K_Mo_turned_b63 (n : Nat) (E : zE) (S : zS) (r32 : Nat × Int32 × Int32 × Int32 × Int32 × zH → Option (Int32 × zH)) (a0 : Nat) (x1 : Int32) (x2 : Int32) (x3 : Int32) (x4 : Int32) (M : zH) (r : Int32) (M' : zH) (hr32 : ∀ (a0 : Nat) (x1 : Int32) (x2 : Int32) (x3 : Int32) (x4 : Int32) (M : zH), r32 (a0, x1, x2, x3, x4, M) = some (r, M') → zG E Y_Mo_turned (some (.int r), S, M') 32 [(0, .ref a0), (1, .int x1), (2, .int x2), (3, .int x3), (4, .int x4)] [] S M 0 0) (h : F_Mo_turned_b63 n E S r32 a0 x1 x2 x3 x4 M = some (r, M')) : zG E Y_Mo_turned (some (.int r), S, M') 63 [(0, .ref a0), (1, .int x1), (2, .int x2), (3, .int x3), (4, .int x4)] [] S M 0 0 := by
  unfold F_Mo_turned_b63 at h
  refine zi_iconst 0 d_Mo_turned_63 rfl ?_
  refine zi_lo [(0, .ref a0), (1, .int x1), (2, .int x2), (3, .int x3), (4, .int x4)] [0, 1, 2, 3, 4] rfl ?_
  exact K_Mo_turned_b64 n E S r32 a0 x1 x2 x3 x4 0 M r M' hr32 h
theorem K_Mo_turned_L32 (n : Nat) (E : zE) (S : zS) (r32 : Nat × Int32 × Int32 × Int32 × Int32 × zH → Option (Int32 × zH)) (a0 : Nat) (x1 : Int32) (x2 : Int32) (x3 : Int32) (x4 : Int32) (M : zH) (r : Int32) (M' : zH) (hr32 : ∀ (a0 : Nat) (x1 : Int32) (x2 : Int32) (x3 : Int32) (x4 : Int32) (M : zH), r32 (a0, x1, x2, x3, x4, M) = some (r, M') → zG E Y_Mo_turned (some (.int r), S, M') 32 [(0, .ref a0), (1, .int x1), (2, .int x2), (3, .int x3), (4, .int x4)] [] S M 0 0) (h : F_Mo_turned_L32 n E S r32 a0 x1 x2 x3 x4 M = some (r, M')) : zG E Y_Mo_turned (some (.int r), S, M') 32 [(0, .ref a0), (1, .int x1), (2, .int x2), (3, .int x3), (4, .int x4)] [] S M 0 0 := by
  unfold F_Mo_turned_L32 at h
  refine zi_iload 4 d_Mo_turned_32 rfl ?_
  refine zi_sipush 4096 d_Mo_turned_34 rfl ?_
  refine zi_icmp_ge (tgt := 100) d_Mo_turned_37 rfl (fun c_5 => ?_) (fun c_5 => ?_)
  · rw [if_pos c_5] at h
    refine zi_iload_n 3 d_Mo_turned_100 rfl ?_
    refine zi_iconst (-1) d_Mo_turned_101 rfl ?_
    refine zi_icmp_ne (tgt := 109) d_Mo_turned_102 rfl (fun c_6 => ?_) (fun c_6 => ?_)
    · rw [if_neg c_6] at h
      refine zi_iload_n 1 d_Mo_turned_109 rfl ?_
      refine zi_iconst (-1) d_Mo_turned_110 rfl ?_
      refine zi_icmp_ne (tgt := 118) d_Mo_turned_111 rfl (fun c_7 => ?_) (fun c_7 => ?_)
      · rw [if_neg c_7] at h
        refine zi_iload_n 3 d_Mo_turned_118 rfl ?_
        refine zi_iload_n 1 d_Mo_turned_119 rfl ?_
        obtain ⟨q_8, eq_8, h⟩ := zbind h
        refine zo_stat (k' := 0) (n' := 0) 123 [.int x3, .int x1] [] [.int q_8.1] (C_Mo_turnOf n E S x3 x1 M q_8.1 q_8.2 eq_8) d_Mo_turned_120 tw_1793 tw_1791 tw_1792 tw_13 dd_Mo_turnOf ⟨Nat.le_of_ble_eq_true rfl, Nat.le_of_ble_eq_true rfl, Nat.le_of_ble_eq_true rfl, Nat.le_of_ble_eq_true rfl⟩ (Nat.le_of_ble_eq_true rfl) rfl rfl rfl rfl ?_
        cases h
        exact zo_ret d_Mo_turned_123 (Nat.le_of_ble_eq_true rfl) (Nat.le_of_ble_eq_true rfl) rfl
      · rw [if_pos c_7] at h
        refine zi_iload_n 2 d_Mo_turned_114 rfl ?_
        refine zi_goto (tgt := 123) d_Mo_turned_115 rfl ?_
        cases h
        exact zo_ret d_Mo_turned_123 (Nat.le_of_ble_eq_true rfl) (Nat.le_of_ble_eq_true rfl) rfl
    · rw [if_pos c_6] at h
      refine zi_iconst (-1) d_Mo_turned_105 rfl ?_
      refine zi_goto (tgt := 123) d_Mo_turned_106 rfl ?_
      cases h
      exact zo_ret d_Mo_turned_123 (Nat.le_of_ble_eq_true rfl) (Nat.le_of_ble_eq_true rfl) rfl
  · rw [if_neg c_5] at h
    refine zi_aload_n 0 d_Mo_turned_40 rfl ?_
    refine zi_iload 4 d_Mo_turned_41 rfl ?_
    obtain ⟨u_9, eu_9, h⟩ := zbind h
    obtain ⟨q_10, eq_10, h⟩ := zbind h
    refine zo_virt (k' := 0) (n' := 0) 46 [.int x4] [] [.int q_10.1] zkd_11 (zck_s eu_9) (C_Mo_stepsTo n E S a0 x4 M q_10.1 q_10.2 eq_10) d_Mo_turned_43 tw_1809 tw_1806 tw_1808 ts_94 tw_13 dd_Mo_stepsTo ⟨Nat.le_of_ble_eq_true rfl, Nat.le_of_ble_eq_true rfl, Nat.le_of_ble_eq_true rfl, Nat.le_of_ble_eq_true rfl⟩ (Nat.le_of_ble_eq_true rfl) rfl rfl rfl rfl ?_
    refine zi_iload_n 2 d_Mo_turned_46 rfl ?_
    refine zi_icmp_ge (tgt := 63) d_Mo_turned_47 rfl (fun c_11 => ?_) (fun c_11 => ?_)
    · rw [if_pos c_11] at h
      refine zi_lo [(0, .ref a0), (1, .int x1), (2, .int x2), (3, .int x3), (4, .int x4)] [0, 1, 2, 3, 4] rfl ?_
      exact K_Mo_turned_b63 n E S r32 a0 x1 x2 x3 x4 q_10.2 r M' hr32 h
    · rw [if_neg c_11] at h
      refine zi_aload_n 0 d_Mo_turned_50 rfl ?_
      refine zi_iload 4 d_Mo_turned_51 rfl ?_
      obtain ⟨q_12, eq_12, h⟩ := zbind h
      refine zo_virt (k' := 0) (n' := 0) 56 [.int x4] [] [.int (bI q_12.1)] zkd_11 (zck_s eu_9) (C_Mo_isWanted n E S a0 x4 q_10.2 q_12.1 q_12.2 eq_12) d_Mo_turned_53 tw_1813 tw_1810 tw_1812 ts_95 tw_13 dd_Mo_isWanted ⟨Nat.le_of_ble_eq_true rfl, Nat.le_of_ble_eq_true rfl, Nat.le_of_ble_eq_true rfl, Nat.le_of_ble_eq_true rfl⟩ (Nat.le_of_ble_eq_true rfl) rfl rfl rfl rfl ?_
      refine zo_ifeqB d_Mo_turned_56 rfl 59 rfl (fun c_13 => ?_) (fun c_13 => ?_)
      · rw [if_neg c_13] at h
        refine zi_lo [(0, .ref a0), (1, .int x1), (2, .int x2), (3, .int x3), (4, .int x4)] [0, 1, 2, 3, 4] rfl ?_
        exact K_Mo_turned_b63 n E S r32 a0 x1 x2 x3 x4 q_12.2 r M' hr32 h
      · rw [if_pos c_13] at h
        refine zi_iconst 1 d_Mo_turned_59 rfl ?_
        refine zi_goto (tgt := 64) d_Mo_turned_60 rfl ?_
        refine zi_lo [(0, .ref a0), (1, .int x1), (2, .int x2), (3, .int x3), (4, .int x4)] [0, 1, 2, 3, 4] rfl ?_
        exact K_Mo_turned_b64 n E S r32 a0 x1 x2 x3 x4 1 q_12.2 r M' hr32 h
theorem K_Mo_turned_b32 (n : Nat) (E : zE) (S : zS) (a0 : Nat) (x1 : Int32) (x2 : Int32) (x3 : Int32) (x4 : Int32) (M : zH) (r : Int32) (M' : zH)  (h : F_Mo_turned_b32 n E S (a0, x1, x2, x3, x4, M) = some (r, M')) : zG E Y_Mo_turned (some (.int r), S, M') 32 [(0, .ref a0), (1, .int x1), (2, .int x2), (3, .int x3), (4, .int x4)] [] S M 0 0 := by
  have key : ∀ (k : Nat) (a0 : Nat) (x1 : Int32) (x2 : Int32) (x3 : Int32) (x4 : Int32) (M : zH), zfix (fun r32 s => F_Mo_turned_L32 n E S r32 s.1 s.2.1 s.2.2.1 s.2.2.2.1 s.2.2.2.2.1 s.2.2.2.2.2) k (a0, x1, x2, x3, x4, M) = some (r, M') → zG E Y_Mo_turned (some (.int r), S, M') 32 [(0, .ref a0), (1, .int x1), (2, .int x2), (3, .int x3), (4, .int x4)] [] S M 0 0 := by
    intro k
    induction k with
    | zero => intro a0 x1 x2 x3 x4 M h; cases h
    | succ k ih => intro a0 x1 x2 x3 x4 M h; exact K_Mo_turned_L32 n E S _ a0 x1 x2 x3 x4 M r M'  (fun a0 x1 x2 x3 x4 M h => ih a0 x1 x2 x3 x4 M h) h
  exact key n a0 x1 x2 x3 x4 M h
theorem K_Mo_turned_b19 (n : Nat) (E : zE) (S : zS) (a0 : Nat) (x1 : Int32) (M : zH) (r : Int32) (M' : zH)  (h : F_Mo_turned_b19 n E S a0 x1 M = some (r, M')) : zG E Y_Mo_turned (some (.int r), S, M') 19 [(0, .ref a0), (1, .int x1)] [] S M 0 0 := by
  unfold F_Mo_turned_b19 at h
  refine zi_aload_n 0 d_Mo_turned_19 rfl ?_
  obtain ⟨u_14, eu_14, h⟩ := zbind h
  obtain ⟨q_15, eq_15, h⟩ := zbind h
  refine zo_virt (k' := 0) (n' := 0) 23 [] [] [] zkd_11 (zck_s eu_14) (C_Mo_layFalls n E S a0 M q_15 eq_15) d_Mo_turned_20 tw_1782 tw_1779 tw_1781 ts_91 tw_13 dd_Mo_layFalls ⟨Nat.le_of_ble_eq_true rfl, Nat.le_of_ble_eq_true rfl, Nat.le_of_ble_eq_true rfl, Nat.le_of_ble_eq_true rfl⟩ (Nat.le_of_ble_eq_true rfl) rfl rfl rfl rfl ?_
  refine zi_ldcw d_Mo_turned_23 tw_1801 ?_
  refine zi_istore_n [(2, .int 100000000), (0, .ref a0), (1, .int x1)] d_Mo_turned_26 (by decide) rfl ?_
  refine zi_iconst (-1) d_Mo_turned_27 rfl ?_
  refine zi_istore_n [(3, .int (-1)), (2, .int 100000000), (0, .ref a0), (1, .int x1)] d_Mo_turned_28 (by decide) rfl ?_
  refine zi_iconst 0 d_Mo_turned_29 rfl ?_
  refine zi_istore [(4, .int 0), (3, .int (-1)), (2, .int 100000000), (0, .ref a0), (1, .int x1)] d_Mo_turned_30 (by decide) rfl ?_
  refine zi_lo [(0, .ref a0), (1, .int x1), (2, .int 100000000), (3, .int (-1)), (4, .int 0)] [3, 4, 2, 1, 0] rfl ?_
  exact K_Mo_turned_b32 n E S a0 x1 100000000 (-1) 0 q_15 r M'  h
theorem K_Mo_turned (n : Nat) (E : zE) (S : zS) (a0 : Nat) (x1 : Int32) (M : zH) (r : Int32) (M' : zH)  (h : F_Mo_turned n E S a0 x1 M = some (r, M')) : zG E Y_Mo_turned (some (.int r), S, M') 0 [(0, .ref a0), (1, .int x1)] [] S M 0 0 := by
  unfold F_Mo_turned at h
  refine zi_aload_n 0 d_Mo_turned_0 rfl ?_
  refine zi_iconst 0 d_Mo_turned_1 rfl ?_
  obtain ⟨m_16, em_16, h⟩ := zbind h
  refine zo_putI 5 zkd_11 0 d_Mo_turned_2 em_16 rfl rfl rfl tw_1231 rfl ?_
  refine zi_iload_n 1 d_Mo_turned_5 rfl ?_
  refine zi_iconst (-1) d_Mo_turned_6 rfl ?_
  refine zi_icmp_eq (tgt := 19) d_Mo_turned_7 rfl (fun c_17 => ?_) (fun c_17 => ?_)
  · rw [if_pos c_17] at h
    refine zi_lo [(0, .ref a0), (1, .int x1)] [0, 1] rfl ?_
    exact K_Mo_turned_b19 n E S a0 x1 m_16 r M'  h
  · rw [if_neg c_17] at h
    refine zi_iload_n 1 d_Mo_turned_10 rfl ?_
    obtain ⟨q_18, eq_18, h⟩ := zbind h
    refine zo_stat (k' := 0) (n' := 0) 14 [.int x1] [] [.int (bI q_18.1)] (C_Mo_isRing n E S x1 m_16 q_18.1 q_18.2 eq_18) d_Mo_turned_11 tw_1436 tw_1434 tw_1435 tw_13 dd_Mo_isRing ⟨Nat.le_of_ble_eq_true rfl, Nat.le_of_ble_eq_true rfl, Nat.le_of_ble_eq_true rfl, Nat.le_of_ble_eq_true rfl⟩ (Nat.le_of_ble_eq_true rfl) rfl rfl rfl rfl ?_
    refine zo_ifneB d_Mo_turned_14 rfl 17 rfl (fun c_19 => ?_) (fun c_19 => ?_)
    · rw [if_pos c_19] at h
      refine zi_lo [(0, .ref a0), (1, .int x1)] [0, 1] rfl ?_
      exact K_Mo_turned_b19 n E S a0 x1 q_18.2 r M'  h
    · rw [if_neg c_19] at h
      refine zi_iconst (-1) d_Mo_turned_17 rfl ?_
      cases h
      exact zo_ret d_Mo_turned_18 (Nat.le_of_ble_eq_true rfl) (Nat.le_of_ble_eq_true rfl) rfl
theorem C_Mo_turned (n : Nat) (E : zE) (S : zS) (a0 : Nat) (x1 : Int32) (M : zH) (r : Int32) (M' : zH) (h : F_Mo_turned n E S a0 x1 M = some (r, M')) : zC E Y_Mo_turned [.ref a0, .int x1] S M (some (.int r), S, M') :=
  zC.of (Or.inl (show plainName "NightColanderModel" = true by decide)) (Nat.le_of_ble_eq_true rfl) (trivial) (K_Mo_turned n E S a0 x1 M r M' h)
