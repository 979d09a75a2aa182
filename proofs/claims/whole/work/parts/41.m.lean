/-! METHODS (printed by gen/build.py): Mo_isWanted Mo_stepsTo Mo_turned Mo_ones Mo_cleared Mo_drought -/
theorem d_Mo_isWanted_0 : decode (yB Y_Mo_isWanted) 0 = .ok (.iconst 1, 1) := by decide +kernel
theorem d_Mo_isWanted_1 : decode (yB Y_Mo_isWanted) 1 = .ok (.istore_n 2, 1) := by decide +kernel
theorem d_Mo_isWanted_2 : decode (yB Y_Mo_isWanted) 2 = .ok (.iconst 0, 1) := by decide +kernel
theorem d_Mo_isWanted_3 : decode (yB Y_Mo_isWanted) 3 = .ok (.istore_n 3, 1) := by decide +kernel
theorem d_Mo_isWanted_4 : decode (yB Y_Mo_isWanted) 4 = .ok (.iload_n 3, 1) := by decide +kernel
theorem d_Mo_isWanted_5 : decode (yB Y_Mo_isWanted) 5 = .ok (.bipush 8, 2) := by decide +kernel
theorem d_Mo_isWanted_7 : decode (yB Y_Mo_isWanted) 7 = .ok (.if_icmp .ge 50, 3) := by decide +kernel
theorem d_Mo_isWanted_10 : decode (yB Y_Mo_isWanted) 10 = .ok (.iload_n 2, 1) := by decide +kernel
theorem d_Mo_isWanted_11 : decode (yB Y_Mo_isWanted) 11 = .ok (.ifCond .eq 46, 3) := by decide +kernel
theorem d_Mo_isWanted_14 : decode (yB Y_Mo_isWanted) 14 = .ok (.aload_n 0, 1) := by decide +kernel
theorem d_Mo_isWanted_15 : decode (yB Y_Mo_isWanted) 15 = .ok (.getfield 13, 3) := by decide +kernel
theorem d_Mo_isWanted_18 : decode (yB Y_Mo_isWanted) 18 = .ok (.bipush 57, 2) := by decide +kernel
theorem d_Mo_isWanted_20 : decode (yB Y_Mo_isWanted) 20 = .ok (.iload_n 3, 1) := by decide +kernel
theorem d_Mo_isWanted_21 : decode (yB Y_Mo_isWanted) 21 = .ok (.iadd, 1) := by decide +kernel
theorem d_Mo_isWanted_22 : decode (yB Y_Mo_isWanted) 22 = .ok (.iaload, 1) := by decide +kernel
theorem d_Mo_isWanted_23 : decode (yB Y_Mo_isWanted) 23 = .ok (.iconst (-1), 1) := by decide +kernel
theorem d_Mo_isWanted_24 : decode (yB Y_Mo_isWanted) 24 = .ok (.if_icmp .eq 21, 3) := by decide +kernel
theorem d_Mo_isWanted_27 : decode (yB Y_Mo_isWanted) 27 = .ok (.aload_n 0, 1) := by decide +kernel
theorem d_Mo_isWanted_28 : decode (yB Y_Mo_isWanted) 28 = .ok (.iload_n 1, 1) := by decide +kernel
theorem d_Mo_isWanted_29 : decode (yB Y_Mo_isWanted) 29 = .ok (.iload_n 3, 1) := by decide +kernel
theorem d_Mo_isWanted_30 : decode (yB Y_Mo_isWanted) 30 = .ok (.invokevirtual 484, 3) := by decide +kernel
theorem d_Mo_isWanted_33 : decode (yB Y_Mo_isWanted) 33 = .ok (.aload_n 0, 1) := by decide +kernel
theorem d_Mo_isWanted_34 : decode (yB Y_Mo_isWanted) 34 = .ok (.getfield 13, 3) := by decide +kernel
theorem d_Mo_isWanted_37 : decode (yB Y_Mo_isWanted) 37 = .ok (.bipush 57, 2) := by decide +kernel
theorem d_Mo_isWanted_39 : decode (yB Y_Mo_isWanted) 39 = .ok (.iload_n 3, 1) := by decide +kernel
theorem d_Mo_isWanted_40 : decode (yB Y_Mo_isWanted) 40 = .ok (.iadd, 1) := by decide +kernel
theorem d_Mo_isWanted_41 : decode (yB Y_Mo_isWanted) 41 = .ok (.iaload, 1) := by decide +kernel
theorem d_Mo_isWanted_42 : decode (yB Y_Mo_isWanted) 42 = .ok (.if_icmp .ne 7, 3) := by decide +kernel
theorem d_Mo_isWanted_45 : decode (yB Y_Mo_isWanted) 45 = .ok (.iconst 1, 1) := by decide +kernel
theorem d_Mo_isWanted_46 : decode (yB Y_Mo_isWanted) 46 = .ok (.goto 4, 3) := by decide +kernel
theorem d_Mo_isWanted_49 : decode (yB Y_Mo_isWanted) 49 = .ok (.iconst 0, 1) := by decide +kernel
theorem d_Mo_isWanted_50 : decode (yB Y_Mo_isWanted) 50 = .ok (.istore_n 2, 1) := by decide +kernel
theorem d_Mo_isWanted_51 : decode (yB Y_Mo_isWanted) 51 = .ok (.iinc 3 1, 3) := by decide +kernel
theorem d_Mo_isWanted_54 : decode (yB Y_Mo_isWanted) 54 = .ok (.goto (-50), 3) := by decide +kernel
theorem d_Mo_isWanted_57 : decode (yB Y_Mo_isWanted) 57 = .ok (.iload_n 2, 1) := by decide +kernel
theorem d_Mo_isWanted_58 : decode (yB Y_Mo_isWanted) 58 = .ok (.ireturn, 1) := by decide +kernel
def F_Mo_isWanted_b50 (n : Nat) (E : zE) (S : zS) (r4 : Nat × Int32 × Int32 × Int32 × zH → Option (Bool × zH)) (a0 : Nat) (x1 : Int32) (x3 : Int32) (s0 : Int32) (M : zH) : Option (Bool × zH) :=
  r4 (a0, x1, s0, x3 + 1, M)
def F_Mo_isWanted_b45 (n : Nat) (E : zE) (S : zS) (r4 : Nat × Int32 × Int32 × Int32 × zH → Option (Bool × zH)) (a0 : Nat) (x1 : Int32) (x3 : Int32) (M : zH) : Option (Bool × zH) :=
  F_Mo_isWanted_b50 n E S r4 a0 x1 x3 1 M
def F_Mo_isWanted_L4 (n : Nat) (E : zE) (S : zS) (r4 : Nat × Int32 × Int32 × Int32 × zH → Option (Bool × zH)) (a0 : Nat) (x1 : Int32) (x2 : Int32) (x3 : Int32) (M : zH) : Option (Bool × zH) :=
  if 8 ≤ x3 then
    (zbl x2).bind fun z_2 =>
    some (z_2, M)
  else
    if x2 = 0 then
      (zbl x2).bind fun z_4 =>
      some (z_4, M)
    else
      (zgR S a0 11 3).bind fun b_5 =>
      (zldI S M b_5 (57 + x3)).bind fun v_6 =>
      if v_6 = (-1) then
        F_Mo_isWanted_b45 n E S r4 a0 x1 x3 M
      else
        (F_Mo_fallsOn n E S a0 x1 x3 M).bind fun q_8 =>
        (zldI S q_8.2 b_5 (57 + x3)).bind fun v_9 =>
        if q_8.1 = v_9 then
          F_Mo_isWanted_b45 n E S r4 a0 x1 x3 q_8.2
        else
          F_Mo_isWanted_b50 n E S r4 a0 x1 x3 0 q_8.2
def F_Mo_isWanted_b4 (n : Nat) (E : zE) (S : zS) : Nat × Int32 × Int32 × Int32 × zH → Option (Bool × zH) := zfix (fun r4 s => F_Mo_isWanted_L4 n E S r4 s.1 s.2.1 s.2.2.1 s.2.2.2.1 s.2.2.2.2) n
def F_Mo_isWanted (n : Nat) (E : zE) (S : zS) (a0 : Nat) (x1 : Int32) (M : zH) : Option (Bool × zH) :=
  F_Mo_isWanted_b4 n E S (a0, x1, 1, 0, M)
theorem K_Mo_isWanted_b50 (n : Nat) (E : zE) (S : zS) (r4 : Nat × Int32 × Int32 × Int32 × zH → Option (Bool × zH)) (a0 : Nat) (x1 : Int32) (x3 : Int32) (s0 : Int32) (M : zH) (r : Bool) (M' : zH) (hr4 : ∀ (a0 : Nat) (x1 : Int32) (x2 : Int32) (x3 : Int32) (M : zH), r4 (a0, x1, x2, x3, M) = some (r, M') → zG E Y_Mo_isWanted (some (.int (bI r)), S, M') 4 [(0, .ref a0), (1, .int x1), (2, .int x2), (3, .int x3)] [] S M 0 0) (h : F_Mo_isWanted_b50 n E S r4 a0 x1 x3 s0 M = some (r, M')) : zG E Y_Mo_isWanted (some (.int (bI r)), S, M') 50 [(0, .ref a0), (1, .int x1), (3, .int x3)] [.int s0] S M 0 0 := by
  unfold F_Mo_isWanted_b50 at h
  refine zi_istore_n [(2, .int s0), (0, .ref a0), (1, .int x1), (3, .int x3)] d_Mo_isWanted_50 (by decide) rfl ?_
  refine zi_iinc 3 (x3 + 1) [(3, .int (x3 + 1)), (2, .int s0), (0, .ref a0), (1, .int x1)] d_Mo_isWanted_51 rfl rfl (by decide) rfl ?_
  refine zi_goto (tgt := 4) d_Mo_isWanted_54 rfl ?_
  refine zi_lo [(0, .ref a0), (1, .int x1), (2, .int s0), (3, .int (x3 + 1))] [2, 3, 1, 0] rfl ?_
  exact hr4 a0 x1 s0 (x3 + 1) M h
theorem K_Mo_isWanted_b45 (n : Nat) (E : zE) (S : zS) (r4 : Nat × Int32 × Int32 × Int32 × zH → Option (Bool × zH)) (a0 : Nat) (x1 : Int32) (x3 : Int32) (M : zH) (r : Bool) (M' : zH) (hr4 : ∀ (a0 : Nat) (x1 : Int32) (x2 : Int32) (x3 : Int32) (M : zH), r4 (a0, x1, x2, x3, M) = some (r, M') → zG E Y_Mo_isWanted (some (.int (bI r)), S, M') 4 [(0, .ref a0), (1, .int x1), (2, .int x2), (3, .int x3)] [] S M 0 0) (h : F_Mo_isWanted_b45 n E S r4 a0 x1 x3 M = some (r, M')) : zG E Y_Mo_isWanted (some (.int (bI r)), S, M') 45 [(0, .ref a0), (1, .int x1), (3, .int x3)] [] S M 0 0 := by
  unfold F_Mo_isWanted_b45 at h
  refine zi_iconst 1 d_Mo_isWanted_45 rfl ?_
  refine zi_goto (tgt := 50) d_Mo_isWanted_46 rfl ?_
  refine zi_lo [(0, .ref a0), (1, .int x1), (3, .int x3)] [0, 1, 2] rfl ?_
  exact K_Mo_isWanted_b50 n E S r4 a0 x1 x3 1 M r M' hr4 h
theorem K_Mo_isWanted_L4 (n : Nat) (E : zE) (S : zS) (r4 : Nat × Int32 × Int32 × Int32 × zH → Option (Bool × zH)) (a0 : Nat) (x1 : Int32) (x2 : Int32) (x3 : Int32) (M : zH) (r : Bool) (M' : zH) (hr4 : ∀ (a0 : Nat) (x1 : Int32) (x2 : Int32) (x3 : Int32) (M : zH), r4 (a0, x1, x2, x3, M) = some (r, M') → zG E Y_Mo_isWanted (some (.int (bI r)), S, M') 4 [(0, .ref a0), (1, .int x1), (2, .int x2), (3, .int x3)] [] S M 0 0) (h : F_Mo_isWanted_L4 n E S r4 a0 x1 x2 x3 M = some (r, M')) : zG E Y_Mo_isWanted (some (.int (bI r)), S, M') 4 [(0, .ref a0), (1, .int x1), (2, .int x2), (3, .int x3)] [] S M 0 0 := by
  unfold F_Mo_isWanted_L4 at h
  refine zi_iload_n 3 d_Mo_isWanted_4 rfl ?_
  refine zi_bipush 8 d_Mo_isWanted_5 rfl ?_
  refine zi_icmp_ge (tgt := 57) d_Mo_isWanted_7 rfl (fun c_1 => ?_) (fun c_1 => ?_)
  · rw [if_pos c_1] at h
    refine zi_iload_n 2 d_Mo_isWanted_57 rfl ?_
    obtain ⟨z_2, ez_2, h⟩ := zbind h
    cases h
    exact zo_retB d_Mo_isWanted_58 (Nat.le_of_ble_eq_true rfl) (Nat.le_of_ble_eq_true rfl) (zbl_s ez_2)
  · rw [if_neg c_1] at h
    refine zi_iload_n 2 d_Mo_isWanted_10 rfl ?_
    refine zi_if_eq (tgt := 57) d_Mo_isWanted_11 rfl (fun c_3 => ?_) (fun c_3 => ?_)
    · rw [if_pos c_3] at h
      refine zi_iload_n 2 d_Mo_isWanted_57 rfl ?_
      obtain ⟨z_4, ez_4, h⟩ := zbind h
      cases h
      exact zo_retB d_Mo_isWanted_58 (Nat.le_of_ble_eq_true rfl) (Nat.le_of_ble_eq_true rfl) (zbl_s ez_4)
    · rw [if_neg c_3] at h
      refine zi_aload_n 0 d_Mo_isWanted_14 rfl ?_
      obtain ⟨b_5, eb_5, h⟩ := zbind h
      refine zo_getR 18 zkd_11 3 d_Mo_isWanted_15 eb_5 rfl tw_1232 rfl ?_
      refine zi_bipush 57 d_Mo_isWanted_18 rfl ?_
      refine zi_iload_n 3 d_Mo_isWanted_20 rfl ?_
      refine zi_iadd d_Mo_isWanted_21 ?_
      obtain ⟨v_6, ev_6, h⟩ := zbind h
      refine zo_iald 23 d_Mo_isWanted_22 ev_6 rfl ?_
      refine zi_iconst (-1) d_Mo_isWanted_23 rfl ?_
      refine zi_icmp_eq (tgt := 45) d_Mo_isWanted_24 rfl (fun c_7 => ?_) (fun c_7 => ?_)
      · rw [if_pos c_7] at h
        refine zi_lo [(0, .ref a0), (1, .int x1), (3, .int x3)] [0, 1, 3] rfl ?_
        exact K_Mo_isWanted_b45 n E S r4 a0 x1 x3 M r M' hr4 h
      · rw [if_neg c_7] at h
        refine zi_aload_n 0 d_Mo_isWanted_27 rfl ?_
        refine zi_iload_n 1 d_Mo_isWanted_28 rfl ?_
        refine zi_iload_n 3 d_Mo_isWanted_29 rfl ?_
        obtain ⟨q_8, eq_8, h⟩ := zbind h
        refine zo_virt (k' := 0) (n' := 0) 33 [.int x1, .int x3] [] [.int q_8.1] zkd_11 (zgR_s eb_5).1 (C_Mo_fallsOn n E S a0 x1 x3 M q_8.1 q_8.2 eq_8) d_Mo_isWanted_30 tw_1788 tw_1785 tw_1787 ts_93 tw_13 dd_Mo_fallsOn ⟨Nat.le_of_ble_eq_true rfl, Nat.le_of_ble_eq_true rfl, Nat.le_of_ble_eq_true rfl, Nat.le_of_ble_eq_true rfl⟩ (Nat.le_of_ble_eq_true rfl) rfl rfl rfl rfl ?_
        refine zi_aload_n 0 d_Mo_isWanted_33 rfl ?_
        refine zo_getR 37 zkd_11 3 d_Mo_isWanted_34 eb_5 rfl tw_1232 rfl ?_
        refine zi_bipush 57 d_Mo_isWanted_37 rfl ?_
        refine zi_iload_n 3 d_Mo_isWanted_39 rfl ?_
        refine zi_iadd d_Mo_isWanted_40 ?_
        obtain ⟨v_9, ev_9, h⟩ := zbind h
        refine zo_iald 42 d_Mo_isWanted_41 ev_9 rfl ?_
        refine zi_icmp_ne (tgt := 49) d_Mo_isWanted_42 rfl (fun c_10 => ?_) (fun c_10 => ?_)
        · rw [if_neg c_10] at h
          refine zi_iconst 0 d_Mo_isWanted_49 rfl ?_
          refine zi_lo [(0, .ref a0), (1, .int x1), (3, .int x3)] [0, 1, 3] rfl ?_
          exact K_Mo_isWanted_b50 n E S r4 a0 x1 x3 0 q_8.2 r M' hr4 h
        · rw [if_pos c_10] at h
          refine zi_lo [(0, .ref a0), (1, .int x1), (3, .int x3)] [0, 1, 3] rfl ?_
          exact K_Mo_isWanted_b45 n E S r4 a0 x1 x3 q_8.2 r M' hr4 h
theorem K_Mo_isWanted_b4 (n : Nat) (E : zE) (S : zS) (a0 : Nat) (x1 : Int32) (x2 : Int32) (x3 : Int32) (M : zH) (r : Bool) (M' : zH)  (h : F_Mo_isWanted_b4 n E S (a0, x1, x2, x3, M) = some (r, M')) : zG E Y_Mo_isWanted (some (.int (bI r)), S, M') 4 [(0, .ref a0), (1, .int x1), (2, .int x2), (3, .int x3)] [] S M 0 0 := by
  have key : ∀ (k : Nat) (a0 : Nat) (x1 : Int32) (x2 : Int32) (x3 : Int32) (M : zH), zfix (fun r4 s => F_Mo_isWanted_L4 n E S r4 s.1 s.2.1 s.2.2.1 s.2.2.2.1 s.2.2.2.2) k (a0, x1, x2, x3, M) = some (r, M') → zG E Y_Mo_isWanted (some (.int (bI r)), S, M') 4 [(0, .ref a0), (1, .int x1), (2, .int x2), (3, .int x3)] [] S M 0 0 := by
    intro k
    induction k with
    | zero => intro a0 x1 x2 x3 M h; cases h
    | succ k ih => intro a0 x1 x2 x3 M h; exact K_Mo_isWanted_L4 n E S _ a0 x1 x2 x3 M r M'  (fun a0 x1 x2 x3 M h => ih a0 x1 x2 x3 M h) h
  exact key n a0 x1 x2 x3 M h
theorem K_Mo_isWanted (n : Nat) (E : zE) (S : zS) (a0 : Nat) (x1 : Int32) (M : zH) (r : Bool) (M' : zH)  (h : F_Mo_isWanted n E S a0 x1 M = some (r, M')) : zG E Y_Mo_isWanted (some (.int (bI r)), S, M') 0 [(0, .ref a0), (1, .int x1)] [] S M 0 0 := by
  unfold F_Mo_isWanted at h
  refine zi_iconst 1 d_Mo_isWanted_0 rfl ?_
  refine zi_istore_n [(2, .int 1), (0, .ref a0), (1, .int x1)] d_Mo_isWanted_1 (by decide) rfl ?_
  refine zi_iconst 0 d_Mo_isWanted_2 rfl ?_
  refine zi_istore_n [(3, .int 0), (2, .int 1), (0, .ref a0), (1, .int x1)] d_Mo_isWanted_3 (by decide) rfl ?_
  refine zi_lo [(0, .ref a0), (1, .int x1), (2, .int 1), (3, .int 0)] [2, 3, 1, 0] rfl ?_
  exact K_Mo_isWanted_b4 n E S a0 x1 1 0 M r M'  h
theorem C_Mo_isWanted (n : Nat) (E : zE) (S : zS) (a0 : Nat) (x1 : Int32) (M : zH) (r : Bool) (M' : zH) (h : F_Mo_isWanted n E S a0 x1 M = some (r, M')) : zC E Y_Mo_isWanted [.ref a0, .int x1] S M (some (.int (bI r)), S, M') :=
  zC.of (Or.inl (show plainName "NightColanderModel" = true by decide)) (Nat.le_of_ble_eq_true rfl) (bI_nar r) (K_Mo_isWanted n E S a0 x1 M r M' h)
theorem d_Mo_stepsTo_0 : decode (yB Y_Mo_stepsTo) 0 = .ok (.iconst 0, 1) := by decide +kernel
theorem d_Mo_stepsTo_1 : decode (yB Y_Mo_stepsTo) 1 = .ok (.istore_n 2, 1) := by decide +kernel
theorem d_Mo_stepsTo_2 : decode (yB Y_Mo_stepsTo) 2 = .ok (.iconst 0, 1) := by decide +kernel
theorem d_Mo_stepsTo_3 : decode (yB Y_Mo_stepsTo) 3 = .ok (.istore_n 3, 1) := by decide +kernel
theorem d_Mo_stepsTo_4 : decode (yB Y_Mo_stepsTo) 4 = .ok (.iload_n 3, 1) := by decide +kernel
theorem d_Mo_stepsTo_5 : decode (yB Y_Mo_stepsTo) 5 = .ok (.iconst 4, 1) := by decide +kernel
theorem d_Mo_stepsTo_6 : decode (yB Y_Mo_stepsTo) 6 = .ok (.if_icmp .ge 55, 3) := by decide +kernel
theorem d_Mo_stepsTo_9 : decode (yB Y_Mo_stepsTo) 9 = .ok (.iload_n 1, 1) := by decide +kernel
theorem d_Mo_stepsTo_10 : decode (yB Y_Mo_stepsTo) 10 = .ok (.iload_n 3, 1) := by decide +kernel
theorem d_Mo_stepsTo_11 : decode (yB Y_Mo_stepsTo) 11 = .ok (.invokestatic 481, 3) := by decide +kernel
theorem d_Mo_stepsTo_14 : decode (yB Y_Mo_stepsTo) 14 = .ok (.bipush 8, 2) := by decide +kernel
theorem d_Mo_stepsTo_16 : decode (yB Y_Mo_stepsTo) 16 = .ok (.iadd, 1) := by decide +kernel
theorem d_Mo_stepsTo_17 : decode (yB Y_Mo_stepsTo) 17 = .ok (.aload_n 0, 1) := by decide +kernel
theorem d_Mo_stepsTo_18 : decode (yB Y_Mo_stepsTo) 18 = .ok (.getfield 13, 3) := by decide +kernel
theorem d_Mo_stepsTo_21 : decode (yB Y_Mo_stepsTo) 21 = .ok (.bipush 8, 2) := by decide +kernel
theorem d_Mo_stepsTo_23 : decode (yB Y_Mo_stepsTo) 23 = .ok (.iload_n 3, 1) := by decide +kernel
theorem d_Mo_stepsTo_24 : decode (yB Y_Mo_stepsTo) 24 = .ok (.iadd, 1) := by decide +kernel
theorem d_Mo_stepsTo_25 : decode (yB Y_Mo_stepsTo) 25 = .ok (.iaload, 1) := by decide +kernel
theorem d_Mo_stepsTo_26 : decode (yB Y_Mo_stepsTo) 26 = .ok (.isub, 1) := by decide +kernel
theorem d_Mo_stepsTo_27 : decode (yB Y_Mo_stepsTo) 27 = .ok (.bipush 8, 2) := by decide +kernel
theorem d_Mo_stepsTo_29 : decode (yB Y_Mo_stepsTo) 29 = .ok (.irem, 1) := by decide +kernel
theorem d_Mo_stepsTo_30 : decode (yB Y_Mo_stepsTo) 30 = .ok (.istore 4, 2) := by decide +kernel
theorem d_Mo_stepsTo_32 : decode (yB Y_Mo_stepsTo) 32 = .ok (.iload_n 2, 1) := by decide +kernel
theorem d_Mo_stepsTo_33 : decode (yB Y_Mo_stepsTo) 33 = .ok (.iload 4, 2) := by decide +kernel
theorem d_Mo_stepsTo_35 : decode (yB Y_Mo_stepsTo) 35 = .ok (.bipush 8, 2) := by decide +kernel
theorem d_Mo_stepsTo_37 : decode (yB Y_Mo_stepsTo) 37 = .ok (.iload 4, 2) := by decide +kernel
theorem d_Mo_stepsTo_39 : decode (yB Y_Mo_stepsTo) 39 = .ok (.isub, 1) := by decide +kernel
theorem d_Mo_stepsTo_40 : decode (yB Y_Mo_stepsTo) 40 = .ok (.if_icmp .ge 8, 3) := by decide +kernel
theorem d_Mo_stepsTo_43 : decode (yB Y_Mo_stepsTo) 43 = .ok (.iload 4, 2) := by decide +kernel
theorem d_Mo_stepsTo_45 : decode (yB Y_Mo_stepsTo) 45 = .ok (.goto 8, 3) := by decide +kernel
theorem d_Mo_stepsTo_48 : decode (yB Y_Mo_stepsTo) 48 = .ok (.bipush 8, 2) := by decide +kernel
theorem d_Mo_stepsTo_50 : decode (yB Y_Mo_stepsTo) 50 = .ok (.iload 4, 2) := by decide +kernel
theorem d_Mo_stepsTo_52 : decode (yB Y_Mo_stepsTo) 52 = .ok (.isub, 1) := by decide +kernel
theorem d_Mo_stepsTo_53 : decode (yB Y_Mo_stepsTo) 53 = .ok (.iadd, 1) := by decide +kernel
theorem d_Mo_stepsTo_54 : decode (yB Y_Mo_stepsTo) 54 = .ok (.istore_n 2, 1) := by decide +kernel
theorem d_Mo_stepsTo_55 : decode (yB Y_Mo_stepsTo) 55 = .ok (.iinc 3 1, 3) := by decide +kernel
theorem d_Mo_stepsTo_58 : decode (yB Y_Mo_stepsTo) 58 = .ok (.goto (-54), 3) := by decide +kernel
theorem d_Mo_stepsTo_61 : decode (yB Y_Mo_stepsTo) 61 = .ok (.iload_n 2, 1) := by decide +kernel
theorem d_Mo_stepsTo_62 : decode (yB Y_Mo_stepsTo) 62 = .ok (.ireturn, 1) := by decide +kernel
def F_Mo_stepsTo_b53 (n : Nat) (E : zE) (S : zS) (r4 : Nat × Int32 × Int32 × Int32 × zH → Option (Int32 × zH)) (a0 : Nat) (x1 : Int32) (x3 : Int32) (s0 : Int32) (s1 : Int32) (M : zH) : Option (Int32 × zH) :=
  r4 (a0, x1, s1 + s0, x3 + 1, M)
def F_Mo_stepsTo_L4 (n : Nat) (E : zE) (S : zS) (r4 : Nat × Int32 × Int32 × Int32 × zH → Option (Int32 × zH)) (a0 : Nat) (x1 : Int32) (x2 : Int32) (x3 : Int32) (M : zH) : Option (Int32 × zH) :=
  if 4 ≤ x3 then
    some (x2, M)
  else
    (F_Mo_turnOf n E S x1 x3 M).bind fun q_2 =>
    (zgR S a0 11 3).bind fun b_3 =>
    (zldI S q_2.2 b_3 (8 + x3)).bind fun v_4 =>
    (zremI ((q_2.1 + 8) - v_4) 8).bind fun v_5 =>
    if (8 - v_5) ≤ v_5 then
      F_Mo_stepsTo_b53 n E S r4 a0 x1 x3 (8 - v_5) x2 q_2.2
    else
      F_Mo_stepsTo_b53 n E S r4 a0 x1 x3 v_5 x2 q_2.2
def F_Mo_stepsTo_b4 (n : Nat) (E : zE) (S : zS) : Nat × Int32 × Int32 × Int32 × zH → Option (Int32 × zH) := zfix (fun r4 s => F_Mo_stepsTo_L4 n E S r4 s.1 s.2.1 s.2.2.1 s.2.2.2.1 s.2.2.2.2) n
def F_Mo_stepsTo (n : Nat) (E : zE) (S : zS) (a0 : Nat) (x1 : Int32) (M : zH) : Option (Int32 × zH) :=
  F_Mo_stepsTo_b4 n E S (a0, x1, 0, 0, M)
theorem K_Mo_stepsTo_b53 (n : Nat) (E : zE) (S : zS) (r4 : Nat × Int32 × Int32 × Int32 × zH → Option (Int32 × zH)) (a0 : Nat) (x1 : Int32) (x3 : Int32) (s0 : Int32) (s1 : Int32) (M : zH) (r : Int32) (M' : zH) (hr4 : ∀ (a0 : Nat) (x1 : Int32) (x2 : Int32) (x3 : Int32) (M : zH), r4 (a0, x1, x2, x3, M) = some (r, M') → zG E Y_Mo_stepsTo (some (.int r), S, M') 4 [(0, .ref a0), (1, .int x1), (2, .int x2), (3, .int x3)] [] S M 0 0) (h : F_Mo_stepsTo_b53 n E S r4 a0 x1 x3 s0 s1 M = some (r, M')) : zG E Y_Mo_stepsTo (some (.int r), S, M') 53 [(0, .ref a0), (1, .int x1), (3, .int x3)] [.int s0, .int s1] S M 0 0 := by
  unfold F_Mo_stepsTo_b53 at h
  refine zi_iadd d_Mo_stepsTo_53 ?_
  refine zi_istore_n [(2, .int (s1 + s0)), (0, .ref a0), (1, .int x1), (3, .int x3)] d_Mo_stepsTo_54 (by decide) rfl ?_
  refine zi_iinc 3 (x3 + 1) [(3, .int (x3 + 1)), (2, .int (s1 + s0)), (0, .ref a0), (1, .int x1)] d_Mo_stepsTo_55 rfl rfl (by decide) rfl ?_
  refine zi_goto (tgt := 4) d_Mo_stepsTo_58 rfl ?_
  refine zi_lo [(0, .ref a0), (1, .int x1), (2, .int (s1 + s0)), (3, .int (x3 + 1))] [2, 3, 1, 0] rfl ?_
  exact hr4 a0 x1 (s1 + s0) (x3 + 1) M h
theorem K_Mo_stepsTo_L4 (n : Nat) (E : zE) (S : zS) (r4 : Nat × Int32 × Int32 × Int32 × zH → Option (Int32 × zH)) (a0 : Nat) (x1 : Int32) (x2 : Int32) (x3 : Int32) (M : zH) (r : Int32) (M' : zH) (hr4 : ∀ (a0 : Nat) (x1 : Int32) (x2 : Int32) (x3 : Int32) (M : zH), r4 (a0, x1, x2, x3, M) = some (r, M') → zG E Y_Mo_stepsTo (some (.int r), S, M') 4 [(0, .ref a0), (1, .int x1), (2, .int x2), (3, .int x3)] [] S M 0 0) (h : F_Mo_stepsTo_L4 n E S r4 a0 x1 x2 x3 M = some (r, M')) : zG E Y_Mo_stepsTo (some (.int r), S, M') 4 [(0, .ref a0), (1, .int x1), (2, .int x2), (3, .int x3)] [] S M 0 0 := by
  unfold F_Mo_stepsTo_L4 at h
  refine zi_iload_n 3 d_Mo_stepsTo_4 rfl ?_
  refine zi_iconst 4 d_Mo_stepsTo_5 rfl ?_
  refine zi_icmp_ge (tgt := 61) d_Mo_stepsTo_6 rfl (fun c_1 => ?_) (fun c_1 => ?_)
  · rw [if_pos c_1] at h
    refine zi_iload_n 2 d_Mo_stepsTo_61 rfl ?_
    cases h
    exact zo_ret d_Mo_stepsTo_62 (Nat.le_of_ble_eq_true rfl) (Nat.le_of_ble_eq_true rfl) rfl
  · rw [if_neg c_1] at h
    refine zi_iload_n 1 d_Mo_stepsTo_9 rfl ?_
    refine zi_iload_n 3 d_Mo_stepsTo_10 rfl ?_
    obtain ⟨q_2, eq_2, h⟩ := zbind h
    refine zo_stat (k' := 0) (n' := 0) 14 [.int x1, .int x3] [] [.int q_2.1] (C_Mo_turnOf n E S x1 x3 M q_2.1 q_2.2 eq_2) d_Mo_stepsTo_11 tw_1791 tw_1789 tw_1790 tw_13 dd_Mo_turnOf ⟨Nat.le_of_ble_eq_true rfl, Nat.le_of_ble_eq_true rfl, Nat.le_of_ble_eq_true rfl, Nat.le_of_ble_eq_true rfl⟩ (Nat.le_of_ble_eq_true rfl) rfl rfl rfl rfl ?_
    refine zi_bipush 8 d_Mo_stepsTo_14 rfl ?_
    refine zi_iadd d_Mo_stepsTo_16 ?_
    refine zi_aload_n 0 d_Mo_stepsTo_17 rfl ?_
    obtain ⟨b_3, eb_3, h⟩ := zbind h
    refine zo_getR 21 zkd_11 3 d_Mo_stepsTo_18 eb_3 rfl tw_1232 rfl ?_
    refine zi_bipush 8 d_Mo_stepsTo_21 rfl ?_
    refine zi_iload_n 3 d_Mo_stepsTo_23 rfl ?_
    refine zi_iadd d_Mo_stepsTo_24 ?_
    obtain ⟨v_4, ev_4, h⟩ := zbind h
    refine zo_iald 26 d_Mo_stepsTo_25 ev_4 rfl ?_
    refine zi_isub d_Mo_stepsTo_26 ?_
    refine zi_bipush 8 d_Mo_stepsTo_27 rfl ?_
    obtain ⟨v_5, ev_5, h⟩ := zbind h
    refine zo_irem 30 d_Mo_stepsTo_29 ev_5 rfl ?_
    refine zi_istore [(4, .int v_5), (0, .ref a0), (1, .int x1), (2, .int x2), (3, .int x3)] d_Mo_stepsTo_30 (by decide) rfl ?_
    refine zi_iload_n 3 d_Mo_stepsTo_32 rfl ?_
    refine zi_iload 0 d_Mo_stepsTo_33 rfl ?_
    refine zi_bipush 8 d_Mo_stepsTo_35 rfl ?_
    refine zi_iload 0 d_Mo_stepsTo_37 rfl ?_
    refine zi_isub d_Mo_stepsTo_39 ?_
    refine zi_icmp_ge (tgt := 48) d_Mo_stepsTo_40 rfl (fun c_6 => ?_) (fun c_6 => ?_)
    · rw [if_pos c_6] at h
      refine zi_bipush 8 d_Mo_stepsTo_48 rfl ?_
      refine zi_iload 0 d_Mo_stepsTo_50 rfl ?_
      refine zi_isub d_Mo_stepsTo_52 ?_
      refine zi_lo [(0, .ref a0), (1, .int x1), (3, .int x3)] [1, 2, 4] rfl ?_
      exact K_Mo_stepsTo_b53 n E S r4 a0 x1 x3 (8 - v_5) x2 q_2.2 r M' hr4 h
    · rw [if_neg c_6] at h
      refine zi_iload 0 d_Mo_stepsTo_43 rfl ?_
      refine zi_goto (tgt := 53) d_Mo_stepsTo_45 rfl ?_
      refine zi_lo [(0, .ref a0), (1, .int x1), (3, .int x3)] [1, 2, 4] rfl ?_
      exact K_Mo_stepsTo_b53 n E S r4 a0 x1 x3 v_5 x2 q_2.2 r M' hr4 h
theorem K_Mo_stepsTo_b4 (n : Nat) (E : zE) (S : zS) (a0 : Nat) (x1 : Int32) (x2 : Int32) (x3 : Int32) (M : zH) (r : Int32) (M' : zH)  (h : F_Mo_stepsTo_b4 n E S (a0, x1, x2, x3, M) = some (r, M')) : zG E Y_Mo_stepsTo (some (.int r), S, M') 4 [(0, .ref a0), (1, .int x1), (2, .int x2), (3, .int x3)] [] S M 0 0 := by
  have key : ∀ (k : Nat) (a0 : Nat) (x1 : Int32) (x2 : Int32) (x3 : Int32) (M : zH), zfix (fun r4 s => F_Mo_stepsTo_L4 n E S r4 s.1 s.2.1 s.2.2.1 s.2.2.2.1 s.2.2.2.2) k (a0, x1, x2, x3, M) = some (r, M') → zG E Y_Mo_stepsTo (some (.int r), S, M') 4 [(0, .ref a0), (1, .int x1), (2, .int x2), (3, .int x3)] [] S M 0 0 := by
    intro k
    induction k with
    | zero => intro a0 x1 x2 x3 M h; cases h
    | succ k ih => intro a0 x1 x2 x3 M h; exact K_Mo_stepsTo_L4 n E S _ a0 x1 x2 x3 M r M'  (fun a0 x1 x2 x3 M h => ih a0 x1 x2 x3 M h) h
  exact key n a0 x1 x2 x3 M h
theorem K_Mo_stepsTo (n : Nat) (E : zE) (S : zS) (a0 : Nat) (x1 : Int32) (M : zH) (r : Int32) (M' : zH)  (h : F_Mo_stepsTo n E S a0 x1 M = some (r, M')) : zG E Y_Mo_stepsTo (some (.int r), S, M') 0 [(0, .ref a0), (1, .int x1)] [] S M 0 0 := by
  unfold F_Mo_stepsTo at h
  refine zi_iconst 0 d_Mo_stepsTo_0 rfl ?_
  refine zi_istore_n [(2, .int 0), (0, .ref a0), (1, .int x1)] d_Mo_stepsTo_1 (by decide) rfl ?_
  refine zi_iconst 0 d_Mo_stepsTo_2 rfl ?_
  refine zi_istore_n [(3, .int 0), (2, .int 0), (0, .ref a0), (1, .int x1)] d_Mo_stepsTo_3 (by decide) rfl ?_
  refine zi_lo [(0, .ref a0), (1, .int x1), (2, .int 0), (3, .int 0)] [2, 3, 1, 0] rfl ?_
  exact K_Mo_stepsTo_b4 n E S a0 x1 0 0 M r M'  h
theorem C_Mo_stepsTo (n : Nat) (E : zE) (S : zS) (a0 : Nat) (x1 : Int32) (M : zH) (r : Int32) (M' : zH) (h : F_Mo_stepsTo n E S a0 x1 M = some (r, M')) : zC E Y_Mo_stepsTo [.ref a0, .int x1] S M (some (.int r), S, M') :=
  zC.of (Or.inl (show plainName "NightColanderModel" = true by decide)) (Nat.le_of_ble_eq_true rfl) (trivial) (K_Mo_stepsTo n E S a0 x1 M r M' h)
theorem d_Mo_turned_0 : decode (yB Y_Mo_turned) 0 = .ok (.aload_n 0, 1) := by decide +kernel
theorem d_Mo_turned_1 : decode (yB Y_Mo_turned) 1 = .ok (.iconst 0, 1) := by decide +kernel
theorem d_Mo_turned_2 : decode (yB Y_Mo_turned) 2 = .ok (.putfield 156, 3) := by decide +kernel
theorem d_Mo_turned_5 : decode (yB Y_Mo_turned) 5 = .ok (.iload_n 1, 1) := by decide +kernel
theorem d_Mo_turned_6 : decode (yB Y_Mo_turned) 6 = .ok (.iconst (-1), 1) := by decide +kernel
theorem d_Mo_turned_7 : decode (yB Y_Mo_turned) 7 = .ok (.if_icmp .eq 12, 3) := by decide +kernel
theorem d_Mo_turned_10 : decode (yB Y_Mo_turned) 10 = .ok (.iload_n 1, 1) := by decide +kernel
theorem d_Mo_turned_11 : decode (yB Y_Mo_turned) 11 = .ok (.invokestatic 190, 3) := by decide +kernel
theorem d_Mo_turned_14 : decode (yB Y_Mo_turned) 14 = .ok (.ifCond .ne 5, 3) := by decide +kernel
theorem d_Mo_turned_17 : decode (yB Y_Mo_turned) 17 = .ok (.iconst (-1), 1) := by decide +kernel
theorem d_Mo_turned_18 : decode (yB Y_Mo_turned) 18 = .ok (.ireturn, 1) := by decide +kernel
theorem d_Mo_turned_19 : decode (yB Y_Mo_turned) 19 = .ok (.aload_n 0, 1) := by decide +kernel
theorem d_Mo_turned_20 : decode (yB Y_Mo_turned) 20 = .ok (.invokevirtual 487, 3) := by decide +kernel
theorem d_Mo_turned_23 : decode (yB Y_Mo_turned) 23 = .ok (.ldc_w 496, 3) := by decide +kernel
theorem d_Mo_turned_26 : decode (yB Y_Mo_turned) 26 = .ok (.istore_n 2, 1) := by decide +kernel
theorem d_Mo_turned_27 : decode (yB Y_Mo_turned) 27 = .ok (.iconst (-1), 1) := by decide +kernel
theorem d_Mo_turned_28 : decode (yB Y_Mo_turned) 28 = .ok (.istore_n 3, 1) := by decide +kernel
theorem d_Mo_turned_29 : decode (yB Y_Mo_turned) 29 = .ok (.iconst 0, 1) := by decide +kernel
theorem d_Mo_turned_30 : decode (yB Y_Mo_turned) 30 = .ok (.istore 4, 2) := by decide +kernel
theorem d_Mo_turned_32 : decode (yB Y_Mo_turned) 32 = .ok (.iload 4, 2) := by decide +kernel
theorem d_Mo_turned_34 : decode (yB Y_Mo_turned) 34 = .ok (.sipush 4096, 3) := by decide +kernel
theorem d_Mo_turned_37 : decode (yB Y_Mo_turned) 37 = .ok (.if_icmp .ge 63, 3) := by decide +kernel
theorem d_Mo_turned_40 : decode (yB Y_Mo_turned) 40 = .ok (.aload_n 0, 1) := by decide +kernel
theorem d_Mo_turned_41 : decode (yB Y_Mo_turned) 41 = .ok (.iload 4, 2) := by decide +kernel
theorem d_Mo_turned_43 : decode (yB Y_Mo_turned) 43 = .ok (.invokevirtual 497, 3) := by decide +kernel
theorem d_Mo_turned_46 : decode (yB Y_Mo_turned) 46 = .ok (.iload_n 2, 1) := by decide +kernel
theorem d_Mo_turned_47 : decode (yB Y_Mo_turned) 47 = .ok (.if_icmp .ge 16, 3) := by decide +kernel
theorem d_Mo_turned_50 : decode (yB Y_Mo_turned) 50 = .ok (.aload_n 0, 1) := by decide +kernel
theorem d_Mo_turned_51 : decode (yB Y_Mo_turned) 51 = .ok (.iload 4, 2) := by decide +kernel
theorem d_Mo_turned_53 : decode (yB Y_Mo_turned) 53 = .ok (.invokevirtual 500, 3) := by decide +kernel
theorem d_Mo_turned_56 : decode (yB Y_Mo_turned) 56 = .ok (.ifCond .eq 7, 3) := by decide +kernel
theorem d_Mo_turned_59 : decode (yB Y_Mo_turned) 59 = .ok (.iconst 1, 1) := by decide +kernel
theorem d_Mo_turned_60 : decode (yB Y_Mo_turned) 60 = .ok (.goto 4, 3) := by decide +kernel
theorem d_Mo_turned_63 : decode (yB Y_Mo_turned) 63 = .ok (.iconst 0, 1) := by decide +kernel
theorem d_Mo_turned_64 : decode (yB Y_Mo_turned) 64 = .ok (.istore 5, 2) := by decide +kernel
theorem d_Mo_turned_66 : decode (yB Y_Mo_turned) 66 = .ok (.iload 5, 2) := by decide +kernel
theorem d_Mo_turned_68 : decode (yB Y_Mo_turned) 68 = .ok (.ifCond .eq 8, 3) := by decide +kernel
theorem d_Mo_turned_71 : decode (yB Y_Mo_turned) 71 = .ok (.iload 4, 2) := by decide +kernel
theorem d_Mo_turned_73 : decode (yB Y_Mo_turned) 73 = .ok (.goto 4, 3) := by decide +kernel
theorem d_Mo_turned_76 : decode (yB Y_Mo_turned) 76 = .ok (.iload_n 3, 1) := by decide +kernel
theorem d_Mo_turned_77 : decode (yB Y_Mo_turned) 77 = .ok (.istore_n 3, 1) := by decide +kernel
theorem d_Mo_turned_78 : decode (yB Y_Mo_turned) 78 = .ok (.iload 5, 2) := by decide +kernel
theorem d_Mo_turned_80 : decode (yB Y_Mo_turned) 80 = .ok (.ifCond .eq 12, 3) := by decide +kernel
theorem d_Mo_turned_83 : decode (yB Y_Mo_turned) 83 = .ok (.aload_n 0, 1) := by decide +kernel
theorem d_Mo_turned_84 : decode (yB Y_Mo_turned) 84 = .ok (.iload 4, 2) := by decide +kernel
theorem d_Mo_turned_86 : decode (yB Y_Mo_turned) 86 = .ok (.invokevirtual 497, 3) := by decide +kernel
theorem d_Mo_turned_89 : decode (yB Y_Mo_turned) 89 = .ok (.goto 4, 3) := by decide +kernel
theorem d_Mo_turned_92 : decode (yB Y_Mo_turned) 92 = .ok (.iload_n 2, 1) := by decide +kernel
theorem d_Mo_turned_93 : decode (yB Y_Mo_turned) 93 = .ok (.istore_n 2, 1) := by decide +kernel
theorem d_Mo_turned_94 : decode (yB Y_Mo_turned) 94 = .ok (.iinc 4 1, 3) := by decide +kernel
theorem d_Mo_turned_97 : decode (yB Y_Mo_turned) 97 = .ok (.goto (-65), 3) := by decide +kernel
theorem d_Mo_turned_100 : decode (yB Y_Mo_turned) 100 = .ok (.iload_n 3, 1) := by decide +kernel
theorem d_Mo_turned_101 : decode (yB Y_Mo_turned) 101 = .ok (.iconst (-1), 1) := by decide +kernel
theorem d_Mo_turned_102 : decode (yB Y_Mo_turned) 102 = .ok (.if_icmp .ne 7, 3) := by decide +kernel
theorem d_Mo_turned_105 : decode (yB Y_Mo_turned) 105 = .ok (.iconst (-1), 1) := by decide +kernel
theorem d_Mo_turned_106 : decode (yB Y_Mo_turned) 106 = .ok (.goto 17, 3) := by decide +kernel
theorem d_Mo_turned_109 : decode (yB Y_Mo_turned) 109 = .ok (.iload_n 1, 1) := by decide +kernel
theorem d_Mo_turned_110 : decode (yB Y_Mo_turned) 110 = .ok (.iconst (-1), 1) := by decide +kernel
theorem d_Mo_turned_111 : decode (yB Y_Mo_turned) 111 = .ok (.if_icmp .ne 7, 3) := by decide +kernel
theorem d_Mo_turned_114 : decode (yB Y_Mo_turned) 114 = .ok (.iload_n 2, 1) := by decide +kernel
theorem d_Mo_turned_115 : decode (yB Y_Mo_turned) 115 = .ok (.goto 8, 3) := by decide +kernel
theorem d_Mo_turned_118 : decode (yB Y_Mo_turned) 118 = .ok (.iload_n 3, 1) := by decide +kernel
theorem d_Mo_turned_119 : decode (yB Y_Mo_turned) 119 = .ok (.iload_n 1, 1) := by decide +kernel
theorem d_Mo_turned_120 : decode (yB Y_Mo_turned) 120 = .ok (.invokestatic 481, 3) := by decide +kernel
theorem d_Mo_turned_123 : decode (yB Y_Mo_turned) 123 = .ok (.ireturn, 1) := by decide +kernel
def F_Mo_turned_b93 (n : Nat) (E : zE) (S : zS) (r32 : Nat × Int32 × Int32 × Int32 × Int32 × zH → Option (Int32 × zH)) (a0 : Nat) (x1 : Int32) (x3 : Int32) (x4 : Int32) (s0 : Int32) (M : zH) : Option (Int32 × zH) :=
  r32 (a0, x1, s0, x3, x4 + 1, M)
def F_Mo_turned_b77 (n : Nat) (E : zE) (S : zS) (r32 : Nat × Int32 × Int32 × Int32 × Int32 × zH → Option (Int32 × zH)) (a0 : Nat) (x1 : Int32) (x2 : Int32) (x4 : Int32) (x5 : Int32) (s0 : Int32) (M : zH) : Option (Int32 × zH) :=
  if x5 = 0 then
    F_Mo_turned_b93 n E S r32 a0 x1 s0 x4 x2 M
  else
    (zck S a0 11).bind fun u_2 =>
    (F_Mo_stepsTo n E S a0 x4 M).bind fun q_3 =>
    F_Mo_turned_b93 n E S r32 a0 x1 s0 x4 q_3.1 q_3.2
def F_Mo_turned_b64 (n : Nat) (E : zE) (S : zS) (r32 : Nat × Int32 × Int32 × Int32 × Int32 × zH → Option (Int32 × zH)) (a0 : Nat) (x1 : Int32) (x2 : Int32) (x3 : Int32) (x4 : Int32) (s0 : Int32) (M : zH) : Option (Int32 × zH) :=
  if s0 = 0 then
    F_Mo_turned_b77 n E S r32 a0 x1 x2 x4 s0 x3 M
  else
    F_Mo_turned_b77 n E S r32 a0 x1 x2 x4 s0 x4 M
def F_Mo_turned_b63 (n : Nat) (E : zE) (S : zS) (r32 : Nat × Int32 × Int32 × Int32 × Int32 × zH → Option (Int32 × zH)) (a0 : Nat) (x1 : Int32) (x2 : Int32) (x3 : Int32) (x4 : Int32) (M : zH) : Option (Int32 × zH) :=
  F_Mo_turned_b64 n E S r32 a0 x1 x2 x3 x4 0 M
def F_Mo_turned_L32 (n : Nat) (E : zE) (S : zS) (r32 : Nat × Int32 × Int32 × Int32 × Int32 × zH → Option (Int32 × zH)) (a0 : Nat) (x1 : Int32) (x2 : Int32) (x3 : Int32) (x4 : Int32) (M : zH) : Option (Int32 × zH) :=
  if 4096 ≤ x4 then
    if x3 = (-1) then
      some ((-1), M)
    else
      if x1 = (-1) then
        some (x2, M)
      else
        (F_Mo_turnOf n E S x3 x1 M).bind fun q_8 =>
        some (q_8.1, q_8.2)
  else
    (zck S a0 11).bind fun u_9 =>
    (F_Mo_stepsTo n E S a0 x4 M).bind fun q_10 =>
    if x2 ≤ q_10.1 then
      F_Mo_turned_b63 n E S r32 a0 x1 x2 x3 x4 q_10.2
    else
      (F_Mo_isWanted n E S a0 x4 q_10.2).bind fun q_12 =>
      if q_12.1 = true then
        F_Mo_turned_b64 n E S r32 a0 x1 x2 x3 x4 1 q_12.2
      else
        F_Mo_turned_b63 n E S r32 a0 x1 x2 x3 x4 q_12.2
def F_Mo_turned_b32 (n : Nat) (E : zE) (S : zS) : Nat × Int32 × Int32 × Int32 × Int32 × zH → Option (Int32 × zH) := zfix (fun r32 s => F_Mo_turned_L32 n E S r32 s.1 s.2.1 s.2.2.1 s.2.2.2.1 s.2.2.2.2.1 s.2.2.2.2.2) n
def F_Mo_turned_b19 (n : Nat) (E : zE) (S : zS) (a0 : Nat) (x1 : Int32) (M : zH) : Option (Int32 × zH) :=
  (zck S a0 11).bind fun u_14 =>
  (F_Mo_layFalls n E S a0 M).bind fun q_15 =>
  F_Mo_turned_b32 n E S (a0, x1, 100000000, (-1), 0, q_15)
def F_Mo_turned (n : Nat) (E : zE) (S : zS) (a0 : Nat) (x1 : Int32) (M : zH) : Option (Int32 × zH) :=
  (zpI S M a0 11 0 0).bind fun m_16 =>
  if x1 = (-1) then
    F_Mo_turned_b19 n E S a0 x1 m_16
  else
    (F_Mo_isRing n E S x1 m_16).bind fun q_18 =>
    if q_18.1 = true then
      F_Mo_turned_b19 n E S a0 x1 q_18.2
    else
      some ((-1), q_18.2)
theorem K_Mo_turned_b93 (n : Nat) (E : zE) (S : zS) (r32 : Nat × Int32 × Int32 × Int32 × Int32 × zH → Option (Int32 × zH)) (a0 : Nat) (x1 : Int32) (x3 : Int32) (x4 : Int32) (s0 : Int32) (M : zH) (r : Int32) (M' : zH) (hr32 : ∀ (a0 : Nat) (x1 : Int32) (x2 : Int32) (x3 : Int32) (x4 : Int32) (M : zH), r32 (a0, x1, x2, x3, x4, M) = some (r, M') → zG E Y_Mo_turned (some (.int r), S, M') 32 [(0, .ref a0), (1, .int x1), (2, .int x2), (3, .int x3), (4, .int x4)] [] S M 0 0) (h : F_Mo_turned_b93 n E S r32 a0 x1 x3 x4 s0 M = some (r, M')) : zG E Y_Mo_turned (some (.int r), S, M') 93 [(0, .ref a0), (1, .int x1), (3, .int x3), (4, .int x4)] [.int s0] S M 0 0 := by
  unfold F_Mo_turned_b93 at h
  refine zi_istore_n [(2, .int s0), (0, .ref a0), (1, .int x1), (3, .int x3), (4, .int x4)] d_Mo_turned_93 (by decide) rfl ?_
  refine zi_iinc 4 (x4 + 1) [(4, .int (x4 + 1)), (2, .int s0), (0, .ref a0), (1, .int x1), (3, .int x3)] d_Mo_turned_94 rfl rfl (by decide) rfl ?_
  refine zi_goto (tgt := 32) d_Mo_turned_97 rfl ?_
  refine zi_lo [(0, .ref a0), (1, .int x1), (2, .int s0), (3, .int x3), (4, .int (x4 + 1))] [2, 3, 1, 4, 0] rfl ?_
  exact hr32 a0 x1 s0 x3 (x4 + 1) M h
theorem K_Mo_turned_b77 (n : Nat) (E : zE) (S : zS) (r32 : Nat × Int32 × Int32 × Int32 × Int32 × zH → Option (Int32 × zH)) (a0 : Nat) (x1 : Int32) (x2 : Int32) (x4 : Int32) (x5 : Int32) (s0 : Int32) (M : zH) (r : Int32) (M' : zH) (hr32 : ∀ (a0 : Nat) (x1 : Int32) (x2 : Int32) (x3 : Int32) (x4 : Int32) (M : zH), r32 (a0, x1, x2, x3, x4, M) = some (r, M') → zG E Y_Mo_turned (some (.int r), S, M') 32 [(0, .ref a0), (1, .int x1), (2, .int x2), (3, .int x3), (4, .int x4)] [] S M 0 0) (h : F_Mo_turned_b77 n E S r32 a0 x1 x2 x4 x5 s0 M = some (r, M')) : zG E Y_Mo_turned (some (.int r), S, M') 77 [(0, .ref a0), (1, .int x1), (2, .int x2), (4, .int x4), (5, .int x5)] [.int s0] S M 0 0 := by
  unfold F_Mo_turned_b77 at h
  refine zi_istore_n [(3, .int s0), (0, .ref a0), (1, .int x1), (2, .int x2), (4, .int x4), (5, .int x5)] d_Mo_turned_77 (by decide) rfl ?_
  refine zi_iload 5 d_Mo_turned_78 rfl ?_
  refine zi_if_eq (tgt := 92) d_Mo_turned_80 rfl (fun c_1 => ?_) (fun c_1 => ?_)
  · rw [if_pos c_1] at h
    refine zi_iload_n 3 d_Mo_turned_92 rfl ?_
    refine zi_lo [(0, .ref a0), (1, .int x1), (3, .int s0), (4, .int x4)] [1, 2, 0, 4] rfl ?_
    exact K_Mo_turned_b93 n E S r32 a0 x1 s0 x4 x2 M r M' hr32 h
  · rw [if_neg c_1] at h
    refine zi_aload_n 1 d_Mo_turned_83 rfl ?_
    refine zi_iload 4 d_Mo_turned_84 rfl ?_
    obtain ⟨u_2, eu_2, h⟩ := zbind h
    obtain ⟨q_3, eq_3, h⟩ := zbind h
    refine zo_virt (k' := 0) (n' := 0) 89 [.int x4] [] [.int q_3.1] zkd_11 (zck_s eu_2) (C_Mo_stepsTo n E S a0 x4 M q_3.1 q_3.2 eq_3) d_Mo_turned_86 tw_1807 tw_1804 tw_1806 ts_94 tw_13 dd_Mo_stepsTo ⟨Nat.le_of_ble_eq_true rfl, Nat.le_of_ble_eq_true rfl, Nat.le_of_ble_eq_true rfl, Nat.le_of_ble_eq_true rfl⟩ (Nat.le_of_ble_eq_true rfl) rfl rfl rfl rfl ?_
    refine zi_goto (tgt := 93) d_Mo_turned_89 rfl ?_
    refine zi_lo [(0, .ref a0), (1, .int x1), (3, .int s0), (4, .int x4)] [1, 2, 0, 4] rfl ?_
    exact K_Mo_turned_b93 n E S r32 a0 x1 s0 x4 q_3.1 q_3.2 r M' hr32 h
theorem K_Mo_turned_b64 (n : Nat) (E : zE) (S : zS) (r32 : Nat × Int32 × Int32 × Int32 × Int32 × zH → Option (Int32 × zH)) (a0 : Nat) (x1 : Int32) (x2 : Int32) (x3 : Int32) (x4 : Int32) (s0 : Int32) (M : zH) (r : Int32) (M' : zH) (hr32 : ∀ (a0 : Nat) (x1 : Int32) (x2 : Int32) (x3 : Int32) (x4 : Int32) (M : zH), r32 (a0, x1, x2, x3, x4, M) = some (r, M') → zG E Y_Mo_turned (some (.int r), S, M') 32 [(0, .ref a0), (1, .int x1), (2, .int x2), (3, .int x3), (4, .int x4)] [] S M 0 0) (h : F_Mo_turned_b64 n E S r32 a0 x1 x2 x3 x4 s0 M = some (r, M')) : zG E Y_Mo_turned (some (.int r), S, M') 64 [(0, .ref a0), (1, .int x1), (2, .int x2), (3, .int x3), (4, .int x4)] [.int s0] S M 0 0 := by
  unfold F_Mo_turned_b64 at h
  refine zi_istore [(5, .int s0), (0, .ref a0), (1, .int x1), (2, .int x2), (3, .int x3), (4, .int x4)] d_Mo_turned_64 (by decide) rfl ?_
  refine zi_iload 0 d_Mo_turned_66 rfl ?_
  refine zi_if_eq (tgt := 76) d_Mo_turned_68 rfl (fun c_4 => ?_) (fun c_4 => ?_)
  · rw [if_pos c_4] at h
    refine zi_iload_n 4 d_Mo_turned_76 rfl ?_
    refine zi_lo [(0, .ref a0), (1, .int x1), (2, .int x2), (4, .int x4), (5, .int s0)] [1, 2, 3, 5, 0] rfl ?_
    exact K_Mo_turned_b77 n E S r32 a0 x1 x2 x4 s0 x3 M r M' hr32 h
  · rw [if_neg c_4] at h
    refine zi_iload 5 d_Mo_turned_71 rfl ?_
    refine zi_goto (tgt := 77) d_Mo_turned_73 rfl ?_
    refine zi_lo [(0, .ref a0), (1, .int x1), (2, .int x2), (4, .int x4), (5, .int s0)] [1, 2, 3, 5, 0] rfl ?_
    exact K_Mo_turned_b77 n E S r32 a0 x1 x2 x4 s0 x4 M r M' hr32 h
theorem K_Mo_turned_b63 (n : Nat) (E : zE) (S : zS) (r32 : Nat × Int32 × Int32 × Int32 × Int32 × zH → Option (Int32 × zH)) (a0 : Nat) (x1 : Int32) (x2 : Int32) (x3 : Int32) (x4 : Int32) (M : zH) (r : Int32) (M' : zH) (hr32 : ∀ (a0 : Nat) (x1 : Int32) (x2 : Int32) (x3 : Int32) (x4 : Int32) (M : zH), r32 (a0, x1, x2, x3, x4, M) = some (r, M') → zG E Y_Mo_turned (some (.int r), S, M') 32 [(0, .ref a0), (1, .int x1), (2, .int x2), (3, .int x3), (4, .int x4)] [] S M 0 0) (h : F_Mo_turned_b63 n E S r32 a0 x1 x2 x3 x4 M = some (r, M')) : zG E Y_Mo_turned (some (.int r), S, M') 63 [(0, .ref a0), (1, .int x1), (2, .int x2), (3, .int x3), (4, .int x4)] [] S M 0 0 := by
  unfold F_Mo_turned_b63 at h
  refine zi_iconst 0 d_Mo_turned_63 rfl ?_
  refine zi_lo [(0, .ref a0), (1, .int x1), (2, .int x2), (3, .int x3), (4, .int x4)] [0, 1, 2, 3, 4] rfl ?_
  exact K_Mo_turned_b64 n E S r32 a0 x1 x2 x3 x4 0 M r M' hr32 h
theorem K_Mo_turned_L32 (n : Nat) (E : zE) (S : zS) (r32 : Nat × Int32 × Int32 × Int32 × Int32 × zH → Option (Int32 × zH)) (a0 : Nat) (x1 : Int32) (x2 : Int32) (x3 : Int32) (x4 : Int32) (M : zH) (r : Int32) (M' : zH) (hr32 : ∀ (a0 : Nat) (x1 : Int32) (x2 : Int32) (x3 : Int32) (x4 : Int32) (M : zH), r32 (a0, x1, x2, x3, x4, M) = some (r, M') → zG E Y_Mo_turned (some (.int r), S, M') 32 [(0, .ref a0), (1, .int x1), (2, .int x2), (3, .int x3), (4, .int x4)] [] S M 0 0) (h : F_Mo_turned_L32 n E S r32 a0 x1 x2 x3 x4 M = some (r, M')) : zG E Y_Mo_turned (some (.int r), S, M') 32 [(0, .ref a0), (1, .int x1), (2, .int x2), (3, .int x3), (4, .int x4)] [] S M 0 0 := by
  unfold F_Mo_turned_L32 at h
  refine zi_iload 4 d_Mo_turned_32 rfl ?_
  refine zi_sipush 4096 d_Mo_turned_34 rfl ?_
  refine zi_icmp_ge (tgt := 100) d_Mo_turned_37 rfl (fun c_5 => ?_) (fun c_5 => ?_)
  · rw [if_pos c_5] at h
    refine zi_iload_n 3 d_Mo_turned_100 rfl ?_
    refine zi_iconst (-1) d_Mo_turned_101 rfl ?_
    refine zi_icmp_ne (tgt := 109) d_Mo_turned_102 rfl (fun c_6 => ?_) (fun c_6 => ?_)
    · rw [if_neg c_6] at h
      refine zi_iload_n 1 d_Mo_turned_109 rfl ?_
      refine zi_iconst (-1) d_Mo_turned_110 rfl ?_
      refine zi_icmp_ne (tgt := 118) d_Mo_turned_111 rfl (fun c_7 => ?_) (fun c_7 => ?_)
      · rw [if_neg c_7] at h
        refine zi_iload_n 3 d_Mo_turned_118 rfl ?_
        refine zi_iload_n 1 d_Mo_turned_119 rfl ?_
        obtain ⟨q_8, eq_8, h⟩ := zbind h
        refine zo_stat (k' := 0) (n' := 0) 123 [.int x3, .int x1] [] [.int q_8.1] (C_Mo_turnOf n E S x3 x1 M q_8.1 q_8.2 eq_8) d_Mo_turned_120 tw_1791 tw_1789 tw_1790 tw_13 dd_Mo_turnOf ⟨Nat.le_of_ble_eq_true rfl, Nat.le_of_ble_eq_true rfl, Nat.le_of_ble_eq_true rfl, Nat.le_of_ble_eq_true rfl⟩ (Nat.le_of_ble_eq_true rfl) rfl rfl rfl rfl ?_
        cases h
        exact zo_ret d_Mo_turned_123 (Nat.le_of_ble_eq_true rfl) (Nat.le_of_ble_eq_true rfl) rfl
      · rw [if_pos c_7] at h
        refine zi_iload_n 2 d_Mo_turned_114 rfl ?_
        refine zi_goto (tgt := 123) d_Mo_turned_115 rfl ?_
        cases h
        exact zo_ret d_Mo_turned_123 (Nat.le_of_ble_eq_true rfl) (Nat.le_of_ble_eq_true rfl) rfl
    · rw [if_pos c_6] at h
      refine zi_iconst (-1) d_Mo_turned_105 rfl ?_
      refine zi_goto (tgt := 123) d_Mo_turned_106 rfl ?_
      cases h
      exact zo_ret d_Mo_turned_123 (Nat.le_of_ble_eq_true rfl) (Nat.le_of_ble_eq_true rfl) rfl
  · rw [if_neg c_5] at h
    refine zi_aload_n 0 d_Mo_turned_40 rfl ?_
    refine zi_iload 4 d_Mo_turned_41 rfl ?_
    obtain ⟨u_9, eu_9, h⟩ := zbind h
    obtain ⟨q_10, eq_10, h⟩ := zbind h
    refine zo_virt (k' := 0) (n' := 0) 46 [.int x4] [] [.int q_10.1] zkd_11 (zck_s eu_9) (C_Mo_stepsTo n E S a0 x4 M q_10.1 q_10.2 eq_10) d_Mo_turned_43 tw_1807 tw_1804 tw_1806 ts_94 tw_13 dd_Mo_stepsTo ⟨Nat.le_of_ble_eq_true rfl, Nat.le_of_ble_eq_true rfl, Nat.le_of_ble_eq_true rfl, Nat.le_of_ble_eq_true rfl⟩ (Nat.le_of_ble_eq_true rfl) rfl rfl rfl rfl ?_
    refine zi_iload_n 2 d_Mo_turned_46 rfl ?_
    refine zi_icmp_ge (tgt := 63) d_Mo_turned_47 rfl (fun c_11 => ?_) (fun c_11 => ?_)
    · rw [if_pos c_11] at h
      refine zi_lo [(0, .ref a0), (1, .int x1), (2, .int x2), (3, .int x3), (4, .int x4)] [0, 1, 2, 3, 4] rfl ?_
      exact K_Mo_turned_b63 n E S r32 a0 x1 x2 x3 x4 q_10.2 r M' hr32 h
    · rw [if_neg c_11] at h
      refine zi_aload_n 0 d_Mo_turned_50 rfl ?_
      refine zi_iload 4 d_Mo_turned_51 rfl ?_
      obtain ⟨q_12, eq_12, h⟩ := zbind h
      refine zo_virt (k' := 0) (n' := 0) 56 [.int x4] [] [.int (bI q_12.1)] zkd_11 (zck_s eu_9) (C_Mo_isWanted n E S a0 x4 q_10.2 q_12.1 q_12.2 eq_12) d_Mo_turned_53 tw_1811 tw_1808 tw_1810 ts_95 tw_13 dd_Mo_isWanted ⟨Nat.le_of_ble_eq_true rfl, Nat.le_of_ble_eq_true rfl, Nat.le_of_ble_eq_true rfl, Nat.le_of_ble_eq_true rfl⟩ (Nat.le_of_ble_eq_true rfl) rfl rfl rfl rfl ?_
      refine zo_ifeqB d_Mo_turned_56 rfl 59 rfl (fun c_13 => ?_) (fun c_13 => ?_)
      · rw [if_neg c_13] at h
        refine zi_lo [(0, .ref a0), (1, .int x1), (2, .int x2), (3, .int x3), (4, .int x4)] [0, 1, 2, 3, 4] rfl ?_
        exact K_Mo_turned_b63 n E S r32 a0 x1 x2 x3 x4 q_12.2 r M' hr32 h
      · rw [if_pos c_13] at h
        refine zi_iconst 1 d_Mo_turned_59 rfl ?_
        refine zi_goto (tgt := 64) d_Mo_turned_60 rfl ?_
        refine zi_lo [(0, .ref a0), (1, .int x1), (2, .int x2), (3, .int x3), (4, .int x4)] [0, 1, 2, 3, 4] rfl ?_
        exact K_Mo_turned_b64 n E S r32 a0 x1 x2 x3 x4 1 q_12.2 r M' hr32 h
theorem K_Mo_turned_b32 (n : Nat) (E : zE) (S : zS) (a0 : Nat) (x1 : Int32) (x2 : Int32) (x3 : Int32) (x4 : Int32) (M : zH) (r : Int32) (M' : zH)  (h : F_Mo_turned_b32 n E S (a0, x1, x2, x3, x4, M) = some (r, M')) : zG E Y_Mo_turned (some (.int r), S, M') 32 [(0, .ref a0), (1, .int x1), (2, .int x2), (3, .int x3), (4, .int x4)] [] S M 0 0 := by
  have key : ∀ (k : Nat) (a0 : Nat) (x1 : Int32) (x2 : Int32) (x3 : Int32) (x4 : Int32) (M : zH), zfix (fun r32 s => F_Mo_turned_L32 n E S r32 s.1 s.2.1 s.2.2.1 s.2.2.2.1 s.2.2.2.2.1 s.2.2.2.2.2) k (a0, x1, x2, x3, x4, M) = some (r, M') → zG E Y_Mo_turned (some (.int r), S, M') 32 [(0, .ref a0), (1, .int x1), (2, .int x2), (3, .int x3), (4, .int x4)] [] S M 0 0 := by
    intro k
    induction k with
    | zero => intro a0 x1 x2 x3 x4 M h; cases h
    | succ k ih => intro a0 x1 x2 x3 x4 M h; exact K_Mo_turned_L32 n E S _ a0 x1 x2 x3 x4 M r M'  (fun a0 x1 x2 x3 x4 M h => ih a0 x1 x2 x3 x4 M h) h
  exact key n a0 x1 x2 x3 x4 M h
theorem K_Mo_turned_b19 (n : Nat) (E : zE) (S : zS) (a0 : Nat) (x1 : Int32) (M : zH) (r : Int32) (M' : zH)  (h : F_Mo_turned_b19 n E S a0 x1 M = some (r, M')) : zG E Y_Mo_turned (some (.int r), S, M') 19 [(0, .ref a0), (1, .int x1)] [] S M 0 0 := by
  unfold F_Mo_turned_b19 at h
  refine zi_aload_n 0 d_Mo_turned_19 rfl ?_
  obtain ⟨u_14, eu_14, h⟩ := zbind h
  obtain ⟨q_15, eq_15, h⟩ := zbind h
  refine zo_virt (k' := 0) (n' := 0) 23 [] [] [] zkd_11 (zck_s eu_14) (C_Mo_layFalls n E S a0 M q_15 eq_15) d_Mo_turned_20 tw_1780 tw_1777 tw_1779 ts_91 tw_13 dd_Mo_layFalls ⟨Nat.le_of_ble_eq_true rfl, Nat.le_of_ble_eq_true rfl, Nat.le_of_ble_eq_true rfl, Nat.le_of_ble_eq_true rfl⟩ (Nat.le_of_ble_eq_true rfl) rfl rfl rfl rfl ?_
  refine zi_ldcw d_Mo_turned_23 tw_1799 ?_
  refine zi_istore_n [(2, .int 100000000), (0, .ref a0), (1, .int x1)] d_Mo_turned_26 (by decide) rfl ?_
  refine zi_iconst (-1) d_Mo_turned_27 rfl ?_
  refine zi_istore_n [(3, .int (-1)), (2, .int 100000000), (0, .ref a0), (1, .int x1)] d_Mo_turned_28 (by decide) rfl ?_
  refine zi_iconst 0 d_Mo_turned_29 rfl ?_
  refine zi_istore [(4, .int 0), (3, .int (-1)), (2, .int 100000000), (0, .ref a0), (1, .int x1)] d_Mo_turned_30 (by decide) rfl ?_
  refine zi_lo [(0, .ref a0), (1, .int x1), (2, .int 100000000), (3, .int (-1)), (4, .int 0)] [3, 4, 2, 1, 0] rfl ?_
  exact K_Mo_turned_b32 n E S a0 x1 100000000 (-1) 0 q_15 r M'  h
theorem K_Mo_turned (n : Nat) (E : zE) (S : zS) (a0 : Nat) (x1 : Int32) (M : zH) (r : Int32) (M' : zH)  (h : F_Mo_turned n E S a0 x1 M = some (r, M')) : zG E Y_Mo_turned (some (.int r), S, M') 0 [(0, .ref a0), (1, .int x1)] [] S M 0 0 := by
  unfold F_Mo_turned at h
  refine zi_aload_n 0 d_Mo_turned_0 rfl ?_
  refine zi_iconst 0 d_Mo_turned_1 rfl ?_
  obtain ⟨m_16, em_16, h⟩ := zbind h
  refine zo_putI 5 zkd_11 0 d_Mo_turned_2 em_16 rfl rfl rfl tw_1229 rfl ?_
  refine zi_iload_n 1 d_Mo_turned_5 rfl ?_
  refine zi_iconst (-1) d_Mo_turned_6 rfl ?_
  refine zi_icmp_eq (tgt := 19) d_Mo_turned_7 rfl (fun c_17 => ?_) (fun c_17 => ?_)
  · rw [if_pos c_17] at h
    refine zi_lo [(0, .ref a0), (1, .int x1)] [0, 1] rfl ?_
    exact K_Mo_turned_b19 n E S a0 x1 m_16 r M'  h
  · rw [if_neg c_17] at h
    refine zi_iload_n 1 d_Mo_turned_10 rfl ?_
    obtain ⟨q_18, eq_18, h⟩ := zbind h
    refine zo_stat (k' := 0) (n' := 0) 14 [.int x1] [] [.int (bI q_18.1)] (C_Mo_isRing n E S x1 m_16 q_18.1 q_18.2 eq_18) d_Mo_turned_11 tw_1434 tw_1432 tw_1433 tw_13 dd_Mo_isRing ⟨Nat.le_of_ble_eq_true rfl, Nat.le_of_ble_eq_true rfl, Nat.le_of_ble_eq_true rfl, Nat.le_of_ble_eq_true rfl⟩ (Nat.le_of_ble_eq_true rfl) rfl rfl rfl rfl ?_
    refine zo_ifneB d_Mo_turned_14 rfl 17 rfl (fun c_19 => ?_) (fun c_19 => ?_)
    · rw [if_pos c_19] at h
      refine zi_lo [(0, .ref a0), (1, .int x1)] [0, 1] rfl ?_
      exact K_Mo_turned_b19 n E S a0 x1 q_18.2 r M'  h
    · rw [if_neg c_19] at h
      refine zi_iconst (-1) d_Mo_turned_17 rfl ?_
      cases h
      exact zo_ret d_Mo_turned_18 (Nat.le_of_ble_eq_true rfl) (Nat.le_of_ble_eq_true rfl) rfl
theorem C_Mo_turned (n : Nat) (E : zE) (S : zS) (a0 : Nat) (x1 : Int32) (M : zH) (r : Int32) (M' : zH) (h : F_Mo_turned n E S a0 x1 M = some (r, M')) : zC E Y_Mo_turned [.ref a0, .int x1] S M (some (.int r), S, M') :=
  zC.of (Or.inl (show plainName "NightColanderModel" = true by decide)) (Nat.le_of_ble_eq_true rfl) (trivial) (K_Mo_turned n E S a0 x1 M r M' h)
theorem d_Mo_ones_0 : decode (yB Y_Mo_ones) 0 = .ok (.iconst 0, 1) := by decide +kernel
theorem d_Mo_ones_1 : decode (yB Y_Mo_ones) 1 = .ok (.istore_n 1, 1) := by decide +kernel
theorem d_Mo_ones_2 : decode (yB Y_Mo_ones) 2 = .ok (.iconst 0, 1) := by decide +kernel
theorem d_Mo_ones_3 : decode (yB Y_Mo_ones) 3 = .ok (.istore_n 2, 1) := by decide +kernel
theorem d_Mo_ones_4 : decode (yB Y_Mo_ones) 4 = .ok (.iload_n 2, 1) := by decide +kernel
theorem d_Mo_ones_5 : decode (yB Y_Mo_ones) 5 = .ok (.bipush 8, 2) := by decide +kernel
theorem d_Mo_ones_7 : decode (yB Y_Mo_ones) 7 = .ok (.if_icmp .ge 17, 3) := by decide +kernel
theorem d_Mo_ones_10 : decode (yB Y_Mo_ones) 10 = .ok (.iload_n 1, 1) := by decide +kernel
theorem d_Mo_ones_11 : decode (yB Y_Mo_ones) 11 = .ok (.iload_n 0, 1) := by decide +kernel
theorem d_Mo_ones_12 : decode (yB Y_Mo_ones) 12 = .ok (.iload_n 2, 1) := by decide +kernel
theorem d_Mo_ones_13 : decode (yB Y_Mo_ones) 13 = .ok (.ishr, 1) := by decide +kernel
theorem d_Mo_ones_14 : decode (yB Y_Mo_ones) 14 = .ok (.iconst 1, 1) := by decide +kernel
theorem d_Mo_ones_15 : decode (yB Y_Mo_ones) 15 = .ok (.iand, 1) := by decide +kernel
theorem d_Mo_ones_16 : decode (yB Y_Mo_ones) 16 = .ok (.iadd, 1) := by decide +kernel
theorem d_Mo_ones_17 : decode (yB Y_Mo_ones) 17 = .ok (.istore_n 1, 1) := by decide +kernel
theorem d_Mo_ones_18 : decode (yB Y_Mo_ones) 18 = .ok (.iinc 2 1, 3) := by decide +kernel
theorem d_Mo_ones_21 : decode (yB Y_Mo_ones) 21 = .ok (.goto (-17), 3) := by decide +kernel
theorem d_Mo_ones_24 : decode (yB Y_Mo_ones) 24 = .ok (.iload_n 1, 1) := by decide +kernel
theorem d_Mo_ones_25 : decode (yB Y_Mo_ones) 25 = .ok (.ireturn, 1) := by decide +kernel
def F_Mo_ones_L4 (n : Nat) (E : zE) (S : zS) (r4 : Int32 × Int32 × Int32 × zH → Option (Int32 × zH)) (x0 : Int32) (x1 : Int32) (x2 : Int32) (M : zH) : Option (Int32 × zH) :=
  if 8 ≤ x2 then
    some (x1, M)
  else
    r4 (x0, x1 + ((x0 >>> (x2 &&& (31 : Int32))) &&& (1 : Int32)), x2 + 1, M)
def F_Mo_ones_b4 (n : Nat) (E : zE) (S : zS) : Int32 × Int32 × Int32 × zH → Option (Int32 × zH) := zfix (fun r4 s => F_Mo_ones_L4 n E S r4 s.1 s.2.1 s.2.2.1 s.2.2.2) n
def F_Mo_ones (n : Nat) (E : zE) (S : zS) (x0 : Int32) (M : zH) : Option (Int32 × zH) :=
  F_Mo_ones_b4 n E S (x0, 0, 0, M)
theorem K_Mo_ones_L4 (n : Nat) (E : zE) (S : zS) (r4 : Int32 × Int32 × Int32 × zH → Option (Int32 × zH)) (x0 : Int32) (x1 : Int32) (x2 : Int32) (M : zH) (r : Int32) (M' : zH) (hr4 : ∀ (x0 : Int32) (x1 : Int32) (x2 : Int32) (M : zH), r4 (x0, x1, x2, M) = some (r, M') → zG E Y_Mo_ones (some (.int r), S, M') 4 [(0, .int x0), (1, .int x1), (2, .int x2)] [] S M 0 0) (h : F_Mo_ones_L4 n E S r4 x0 x1 x2 M = some (r, M')) : zG E Y_Mo_ones (some (.int r), S, M') 4 [(0, .int x0), (1, .int x1), (2, .int x2)] [] S M 0 0 := by
  unfold F_Mo_ones_L4 at h
  refine zi_iload_n 2 d_Mo_ones_4 rfl ?_
  refine zi_bipush 8 d_Mo_ones_5 rfl ?_
  refine zi_icmp_ge (tgt := 24) d_Mo_ones_7 rfl (fun c_1 => ?_) (fun c_1 => ?_)
  · rw [if_pos c_1] at h
    refine zi_iload_n 1 d_Mo_ones_24 rfl ?_
    cases h
    exact zo_ret d_Mo_ones_25 (Nat.le_of_ble_eq_true rfl) (Nat.le_of_ble_eq_true rfl) rfl
  · rw [if_neg c_1] at h
    refine zi_iload_n 1 d_Mo_ones_10 rfl ?_
    refine zi_iload_n 0 d_Mo_ones_11 rfl ?_
    refine zi_iload_n 2 d_Mo_ones_12 rfl ?_
    refine zi_ishr d_Mo_ones_13 ?_
    refine zi_iconst 1 d_Mo_ones_14 rfl ?_
    refine zi_iand d_Mo_ones_15 ?_
    refine zi_iadd d_Mo_ones_16 ?_
    refine zi_istore_n [(1, .int (x1 + ((x0 >>> (x2 &&& (31 : Int32))) &&& (1 : Int32)))), (0, .int x0), (2, .int x2)] d_Mo_ones_17 (by decide) rfl ?_
    refine zi_iinc 2 (x2 + 1) [(2, .int (x2 + 1)), (1, .int (x1 + ((x0 >>> (x2 &&& (31 : Int32))) &&& (1 : Int32)))), (0, .int x0)] d_Mo_ones_18 rfl rfl (by decide) rfl ?_
    refine zi_goto (tgt := 4) d_Mo_ones_21 rfl ?_
    refine zi_lo [(0, .int x0), (1, .int (x1 + ((x0 >>> (x2 &&& (31 : Int32))) &&& (1 : Int32)))), (2, .int (x2 + 1))] [2, 1, 0] rfl ?_
    exact hr4 x0 (x1 + ((x0 >>> (x2 &&& (31 : Int32))) &&& (1 : Int32))) (x2 + 1) M h
theorem K_Mo_ones_b4 (n : Nat) (E : zE) (S : zS) (x0 : Int32) (x1 : Int32) (x2 : Int32) (M : zH) (r : Int32) (M' : zH)  (h : F_Mo_ones_b4 n E S (x0, x1, x2, M) = some (r, M')) : zG E Y_Mo_ones (some (.int r), S, M') 4 [(0, .int x0), (1, .int x1), (2, .int x2)] [] S M 0 0 := by
  have key : ∀ (k : Nat) (x0 : Int32) (x1 : Int32) (x2 : Int32) (M : zH), zfix (fun r4 s => F_Mo_ones_L4 n E S r4 s.1 s.2.1 s.2.2.1 s.2.2.2) k (x0, x1, x2, M) = some (r, M') → zG E Y_Mo_ones (some (.int r), S, M') 4 [(0, .int x0), (1, .int x1), (2, .int x2)] [] S M 0 0 := by
    intro k
    induction k with
    | zero => intro x0 x1 x2 M h; cases h
    | succ k ih => intro x0 x1 x2 M h; exact K_Mo_ones_L4 n E S _ x0 x1 x2 M r M'  (fun x0 x1 x2 M h => ih x0 x1 x2 M h) h
  exact key n x0 x1 x2 M h
theorem K_Mo_ones (n : Nat) (E : zE) (S : zS) (x0 : Int32) (M : zH) (r : Int32) (M' : zH)  (h : F_Mo_ones n E S x0 M = some (r, M')) : zG E Y_Mo_ones (some (.int r), S, M') 0 [(0, .int x0)] [] S M 0 0 := by
  unfold F_Mo_ones at h
  refine zi_iconst 0 d_Mo_ones_0 rfl ?_
  refine zi_istore_n [(1, .int 0), (0, .int x0)] d_Mo_ones_1 (by decide) rfl ?_
  refine zi_iconst 0 d_Mo_ones_2 rfl ?_
  refine zi_istore_n [(2, .int 0), (1, .int 0), (0, .int x0)] d_Mo_ones_3 (by decide) rfl ?_
  refine zi_lo [(0, .int x0), (1, .int 0), (2, .int 0)] [2, 1, 0] rfl ?_
  exact K_Mo_ones_b4 n E S x0 0 0 M r M'  h
theorem C_Mo_ones (n : Nat) (E : zE) (S : zS) (x0 : Int32) (M : zH) (r : Int32) (M' : zH) (h : F_Mo_ones n E S x0 M = some (r, M')) : zC E Y_Mo_ones [.int x0] S M (some (.int r), S, M') :=
  zC.of (Or.inl (show plainName "NightColanderModel" = true by decide)) (Nat.le_of_ble_eq_true rfl) (trivial) (K_Mo_ones n E S x0 M r M' h)
theorem d_Mo_cleared_0 : decode (yB Y_Mo_cleared) 0 = .ok (.aload_n 0, 1) := by decide +kernel
theorem d_Mo_cleared_1 : decode (yB Y_Mo_cleared) 1 = .ok (.iconst 0, 1) := by decide +kernel
theorem d_Mo_cleared_2 : decode (yB Y_Mo_cleared) 2 = .ok (.putfield 156, 3) := by decide +kernel
theorem d_Mo_cleared_5 : decode (yB Y_Mo_cleared) 5 = .ok (.iload_n 1, 1) := by decide +kernel
theorem d_Mo_cleared_6 : decode (yB Y_Mo_cleared) 6 = .ok (.invokestatic 194, 3) := by decide +kernel
theorem d_Mo_cleared_9 : decode (yB Y_Mo_cleared) 9 = .ok (.ifCond .eq 25, 3) := by decide +kernel
theorem d_Mo_cleared_12 : decode (yB Y_Mo_cleared) 12 = .ok (.iload_n 2, 1) := by decide +kernel
theorem d_Mo_cleared_13 : decode (yB Y_Mo_cleared) 13 = .ok (.i2l, 1) := by decide +kernel
theorem d_Mo_cleared_14 : decode (yB Y_Mo_cleared) 14 = .ok (.lconst 0, 1) := by decide +kernel
theorem d_Mo_cleared_15 : decode (yB Y_Mo_cleared) 15 = .ok (.ldc2_w 230, 3) := by decide +kernel
theorem d_Mo_cleared_18 : decode (yB Y_Mo_cleared) 18 = .ok (.invokestatic 176, 3) := by decide +kernel
theorem d_Mo_cleared_21 : decode (yB Y_Mo_cleared) 21 = .ok (.ifCond .eq 13, 3) := by decide +kernel
theorem d_Mo_cleared_24 : decode (yB Y_Mo_cleared) 24 = .ok (.iload_n 3, 1) := by decide +kernel
theorem d_Mo_cleared_25 : decode (yB Y_Mo_cleared) 25 = .ok (.i2l, 1) := by decide +kernel
theorem d_Mo_cleared_26 : decode (yB Y_Mo_cleared) 26 = .ok (.lconst 0, 1) := by decide +kernel
theorem d_Mo_cleared_27 : decode (yB Y_Mo_cleared) 27 = .ok (.lconst 1, 1) := by decide +kernel
theorem d_Mo_cleared_28 : decode (yB Y_Mo_cleared) 28 = .ok (.invokestatic 176, 3) := by decide +kernel
theorem d_Mo_cleared_31 : decode (yB Y_Mo_cleared) 31 = .ok (.ifCond .ne 5, 3) := by decide +kernel
theorem d_Mo_cleared_34 : decode (yB Y_Mo_cleared) 34 = .ok (.iconst (-1), 1) := by decide +kernel
theorem d_Mo_cleared_35 : decode (yB Y_Mo_cleared) 35 = .ok (.ireturn, 1) := by decide +kernel
theorem d_Mo_cleared_36 : decode (yB Y_Mo_cleared) 36 = .ok (.ldc_w 496, 3) := by decide +kernel
theorem d_Mo_cleared_39 : decode (yB Y_Mo_cleared) 39 = .ok (.istore 4, 2) := by decide +kernel
theorem d_Mo_cleared_41 : decode (yB Y_Mo_cleared) 41 = .ok (.iconst (-1), 1) := by decide +kernel
theorem d_Mo_cleared_42 : decode (yB Y_Mo_cleared) 42 = .ok (.istore 5, 2) := by decide +kernel
theorem d_Mo_cleared_44 : decode (yB Y_Mo_cleared) 44 = .ok (.iconst 0, 1) := by decide +kernel
theorem d_Mo_cleared_45 : decode (yB Y_Mo_cleared) 45 = .ok (.istore 6, 2) := by decide +kernel
theorem d_Mo_cleared_47 : decode (yB Y_Mo_cleared) 47 = .ok (.iload 6, 2) := by decide +kernel
theorem d_Mo_cleared_49 : decode (yB Y_Mo_cleared) 49 = .ok (.bipush 16, 2) := by decide +kernel
theorem d_Mo_cleared_51 : decode (yB Y_Mo_cleared) 51 = .ok (.if_icmp .ge 185, 3) := by decide +kernel
theorem d_Mo_cleared_54 : decode (yB Y_Mo_cleared) 54 = .ok (.iconst 1, 1) := by decide +kernel
theorem d_Mo_cleared_55 : decode (yB Y_Mo_cleared) 55 = .ok (.istore 7, 2) := by decide +kernel
theorem d_Mo_cleared_57 : decode (yB Y_Mo_cleared) 57 = .ok (.iconst 0, 1) := by decide +kernel
theorem d_Mo_cleared_58 : decode (yB Y_Mo_cleared) 58 = .ok (.istore 8, 2) := by decide +kernel
theorem d_Mo_cleared_60 : decode (yB Y_Mo_cleared) 60 = .ok (.iconst 0, 1) := by decide +kernel
theorem d_Mo_cleared_61 : decode (yB Y_Mo_cleared) 61 = .ok (.istore 9, 2) := by decide +kernel
theorem d_Mo_cleared_63 : decode (yB Y_Mo_cleared) 63 = .ok (.iload 9, 2) := by decide +kernel
theorem d_Mo_cleared_65 : decode (yB Y_Mo_cleared) 65 = .ok (.iconst 4, 1) := by decide +kernel
theorem d_Mo_cleared_66 : decode (yB Y_Mo_cleared) 66 = .ok (.if_icmp .ge 105, 3) := by decide +kernel
theorem d_Mo_cleared_69 : decode (yB Y_Mo_cleared) 69 = .ok (.aload_n 0, 1) := by decide +kernel
theorem d_Mo_cleared_70 : decode (yB Y_Mo_cleared) 70 = .ok (.iload 9, 2) := by decide +kernel
theorem d_Mo_cleared_72 : decode (yB Y_Mo_cleared) 72 = .ok (.iload_n 1, 1) := by decide +kernel
theorem d_Mo_cleared_73 : decode (yB Y_Mo_cleared) 73 = .ok (.aload_n 0, 1) := by decide +kernel
theorem d_Mo_cleared_74 : decode (yB Y_Mo_cleared) 74 = .ok (.getfield 13, 3) := by decide +kernel
theorem d_Mo_cleared_77 : decode (yB Y_Mo_cleared) 77 = .ok (.bipush 8, 2) := by decide +kernel
theorem d_Mo_cleared_79 : decode (yB Y_Mo_cleared) 79 = .ok (.iload 9, 2) := by decide +kernel
theorem d_Mo_cleared_81 : decode (yB Y_Mo_cleared) 81 = .ok (.iadd, 1) := by decide +kernel
theorem d_Mo_cleared_82 : decode (yB Y_Mo_cleared) 82 = .ok (.iaload, 1) := by decide +kernel
theorem d_Mo_cleared_83 : decode (yB Y_Mo_cleared) 83 = .ok (.invokevirtual 442, 3) := by decide +kernel
theorem d_Mo_cleared_86 : decode (yB Y_Mo_cleared) 86 = .ok (.istore 10, 2) := by decide +kernel
theorem d_Mo_cleared_88 : decode (yB Y_Mo_cleared) 88 = .ok (.aload_n 0, 1) := by decide +kernel
theorem d_Mo_cleared_89 : decode (yB Y_Mo_cleared) 89 = .ok (.getfield 13, 3) := by decide +kernel
theorem d_Mo_cleared_92 : decode (yB Y_Mo_cleared) 92 = .ok (.bipush 44, 2) := by decide +kernel
theorem d_Mo_cleared_94 : decode (yB Y_Mo_cleared) 94 = .ok (.iload 9, 2) := by decide +kernel
theorem d_Mo_cleared_96 : decode (yB Y_Mo_cleared) 96 = .ok (.iadd, 1) := by decide +kernel
theorem d_Mo_cleared_97 : decode (yB Y_Mo_cleared) 97 = .ok (.iaload, 1) := by decide +kernel
theorem d_Mo_cleared_98 : decode (yB Y_Mo_cleared) 98 = .ok (.iload 10, 2) := by decide +kernel
theorem d_Mo_cleared_100 : decode (yB Y_Mo_cleared) 100 = .ok (.invokestatic 197, 3) := by decide +kernel
theorem d_Mo_cleared_103 : decode (yB Y_Mo_cleared) 103 = .ok (.istore 11, 2) := by decide +kernel
theorem d_Mo_cleared_105 : decode (yB Y_Mo_cleared) 105 = .ok (.iload 7, 2) := by decide +kernel
theorem d_Mo_cleared_107 : decode (yB Y_Mo_cleared) 107 = .ok (.ifCond .eq 22, 3) := by decide +kernel
theorem d_Mo_cleared_110 : decode (yB Y_Mo_cleared) 110 = .ok (.iload 11, 2) := by decide +kernel
theorem d_Mo_cleared_112 : decode (yB Y_Mo_cleared) 112 = .ok (.ifCond .ne 13, 3) := by decide +kernel
theorem d_Mo_cleared_115 : decode (yB Y_Mo_cleared) 115 = .ok (.iload 6, 2) := by decide +kernel
theorem d_Mo_cleared_117 : decode (yB Y_Mo_cleared) 117 = .ok (.iload 9, 2) := by decide +kernel
theorem d_Mo_cleared_119 : decode (yB Y_Mo_cleared) 119 = .ok (.invokestatic 197, 3) := by decide +kernel
theorem d_Mo_cleared_122 : decode (yB Y_Mo_cleared) 122 = .ok (.ifCond .ne 7, 3) := by decide +kernel
theorem d_Mo_cleared_125 : decode (yB Y_Mo_cleared) 125 = .ok (.iconst 1, 1) := by decide +kernel
theorem d_Mo_cleared_126 : decode (yB Y_Mo_cleared) 126 = .ok (.goto 4, 3) := by decide +kernel
theorem d_Mo_cleared_129 : decode (yB Y_Mo_cleared) 129 = .ok (.iconst 0, 1) := by decide +kernel
theorem d_Mo_cleared_130 : decode (yB Y_Mo_cleared) 130 = .ok (.istore 7, 2) := by decide +kernel
theorem d_Mo_cleared_132 : decode (yB Y_Mo_cleared) 132 = .ok (.iload 8, 2) := by decide +kernel
theorem d_Mo_cleared_134 : decode (yB Y_Mo_cleared) 134 = .ok (.iload 11, 2) := by decide +kernel
theorem d_Mo_cleared_136 : decode (yB Y_Mo_cleared) 136 = .ok (.ifCond .eq 13, 3) := by decide +kernel
theorem d_Mo_cleared_139 : decode (yB Y_Mo_cleared) 139 = .ok (.iload 6, 2) := by decide +kernel
theorem d_Mo_cleared_141 : decode (yB Y_Mo_cleared) 141 = .ok (.iload 9, 2) := by decide +kernel
theorem d_Mo_cleared_143 : decode (yB Y_Mo_cleared) 143 = .ok (.invokestatic 197, 3) := by decide +kernel
theorem d_Mo_cleared_146 : decode (yB Y_Mo_cleared) 146 = .ok (.ifCond .eq 15, 3) := by decide +kernel
theorem d_Mo_cleared_149 : decode (yB Y_Mo_cleared) 149 = .ok (.aload_n 0, 1) := by decide +kernel
theorem d_Mo_cleared_150 : decode (yB Y_Mo_cleared) 150 = .ok (.iload 9, 2) := by decide +kernel
theorem d_Mo_cleared_152 : decode (yB Y_Mo_cleared) 152 = .ok (.iload 10, 2) := by decide +kernel
theorem d_Mo_cleared_154 : decode (yB Y_Mo_cleared) 154 = .ok (.iload_n 1, 1) := by decide +kernel
theorem d_Mo_cleared_155 : decode (yB Y_Mo_cleared) 155 = .ok (.invokevirtual 201, 3) := by decide +kernel
theorem d_Mo_cleared_158 : decode (yB Y_Mo_cleared) 158 = .ok (.goto 4, 3) := by decide +kernel
theorem d_Mo_cleared_161 : decode (yB Y_Mo_cleared) 161 = .ok (.iconst 0, 1) := by decide +kernel
theorem d_Mo_cleared_162 : decode (yB Y_Mo_cleared) 162 = .ok (.iadd, 1) := by decide +kernel
theorem d_Mo_cleared_163 : decode (yB Y_Mo_cleared) 163 = .ok (.istore 8, 2) := by decide +kernel
theorem d_Mo_cleared_165 : decode (yB Y_Mo_cleared) 165 = .ok (.iinc 9 1, 3) := by decide +kernel
theorem d_Mo_cleared_168 : decode (yB Y_Mo_cleared) 168 = .ok (.goto (-105), 3) := by decide +kernel
theorem d_Mo_cleared_171 : decode (yB Y_Mo_cleared) 171 = .ok (.iload 7, 2) := by decide +kernel
theorem d_Mo_cleared_173 : decode (yB Y_Mo_cleared) 173 = .ok (.ifCond .eq 23, 3) := by decide +kernel
theorem d_Mo_cleared_176 : decode (yB Y_Mo_cleared) 176 = .ok (.iload 8, 2) := by decide +kernel
theorem d_Mo_cleared_178 : decode (yB Y_Mo_cleared) 178 = .ok (.iload_n 2, 1) := by decide +kernel
theorem d_Mo_cleared_179 : decode (yB Y_Mo_cleared) 179 = .ok (.if_icmp .lt 17, 3) := by decide +kernel
theorem d_Mo_cleared_182 : decode (yB Y_Mo_cleared) 182 = .ok (.iload 6, 2) := by decide +kernel
theorem d_Mo_cleared_184 : decode (yB Y_Mo_cleared) 184 = .ok (.invokestatic 187, 3) := by decide +kernel
theorem d_Mo_cleared_187 : decode (yB Y_Mo_cleared) 187 = .ok (.iload 4, 2) := by decide +kernel
theorem d_Mo_cleared_189 : decode (yB Y_Mo_cleared) 189 = .ok (.if_icmp .ge 7, 3) := by decide +kernel
theorem d_Mo_cleared_192 : decode (yB Y_Mo_cleared) 192 = .ok (.iconst 1, 1) := by decide +kernel
theorem d_Mo_cleared_193 : decode (yB Y_Mo_cleared) 193 = .ok (.goto 4, 3) := by decide +kernel
theorem d_Mo_cleared_196 : decode (yB Y_Mo_cleared) 196 = .ok (.iconst 0, 1) := by decide +kernel
theorem d_Mo_cleared_197 : decode (yB Y_Mo_cleared) 197 = .ok (.istore 9, 2) := by decide +kernel
theorem d_Mo_cleared_199 : decode (yB Y_Mo_cleared) 199 = .ok (.iload 9, 2) := by decide +kernel
theorem d_Mo_cleared_201 : decode (yB Y_Mo_cleared) 201 = .ok (.ifCond .eq 8, 3) := by decide +kernel
theorem d_Mo_cleared_204 : decode (yB Y_Mo_cleared) 204 = .ok (.iload 6, 2) := by decide +kernel
theorem d_Mo_cleared_206 : decode (yB Y_Mo_cleared) 206 = .ok (.goto 5, 3) := by decide +kernel
theorem d_Mo_cleared_209 : decode (yB Y_Mo_cleared) 209 = .ok (.iload 5, 2) := by decide +kernel
theorem d_Mo_cleared_211 : decode (yB Y_Mo_cleared) 211 = .ok (.istore 5, 2) := by decide +kernel
theorem d_Mo_cleared_213 : decode (yB Y_Mo_cleared) 213 = .ok (.iload 9, 2) := by decide +kernel
theorem d_Mo_cleared_215 : decode (yB Y_Mo_cleared) 215 = .ok (.ifCond .eq 11, 3) := by decide +kernel
theorem d_Mo_cleared_218 : decode (yB Y_Mo_cleared) 218 = .ok (.iload 6, 2) := by decide +kernel
theorem d_Mo_cleared_220 : decode (yB Y_Mo_cleared) 220 = .ok (.invokestatic 187, 3) := by decide +kernel
theorem d_Mo_cleared_223 : decode (yB Y_Mo_cleared) 223 = .ok (.goto 5, 3) := by decide +kernel
theorem d_Mo_cleared_226 : decode (yB Y_Mo_cleared) 226 = .ok (.iload 4, 2) := by decide +kernel
theorem d_Mo_cleared_228 : decode (yB Y_Mo_cleared) 228 = .ok (.istore 4, 2) := by decide +kernel
theorem d_Mo_cleared_230 : decode (yB Y_Mo_cleared) 230 = .ok (.iinc 6 1, 3) := by decide +kernel
theorem d_Mo_cleared_233 : decode (yB Y_Mo_cleared) 233 = .ok (.goto (-186), 3) := by decide +kernel
theorem d_Mo_cleared_236 : decode (yB Y_Mo_cleared) 236 = .ok (.iload 5, 2) := by decide +kernel
theorem d_Mo_cleared_238 : decode (yB Y_Mo_cleared) 238 = .ok (.iconst (-1), 1) := by decide +kernel
theorem d_Mo_cleared_239 : decode (yB Y_Mo_cleared) 239 = .ok (.if_icmp .eq 8, 3) := by decide +kernel
theorem d_Mo_cleared_242 : decode (yB Y_Mo_cleared) 242 = .ok (.iload_n 3, 1) := by decide +kernel
theorem d_Mo_cleared_243 : decode (yB Y_Mo_cleared) 243 = .ok (.iconst 1, 1) := by decide +kernel
theorem d_Mo_cleared_244 : decode (yB Y_Mo_cleared) 244 = .ok (.if_icmp .ne 8, 3) := by decide +kernel
theorem d_Mo_cleared_247 : decode (yB Y_Mo_cleared) 247 = .ok (.iload 5, 2) := by decide +kernel
theorem d_Mo_cleared_249 : decode (yB Y_Mo_cleared) 249 = .ok (.goto 5, 3) := by decide +kernel
theorem d_Mo_cleared_252 : decode (yB Y_Mo_cleared) 252 = .ok (.iload 4, 2) := by decide +kernel
theorem d_Mo_cleared_254 : decode (yB Y_Mo_cleared) 254 = .ok (.ireturn, 1) := by decide +kernel
def F_Mo_cleared_b162 (n : Nat) (E : zE) (S : zS) (r47 : Nat × Int32 × Int32 × Int32 × Int32 × Int32 × Int32 × zH → Option (Int32 × zH)) (r63 : Nat × Int32 × Int32 × Int32 × Int32 × Int32 × Int32 × Int32 × Int32 × Int32 × zH → Option (Int32 × zH)) (a0 : Nat) (x1 : Int32) (x2 : Int32) (x3 : Int32) (x4 : Int32) (x5 : Int32) (x6 : Int32) (x7 : Int32) (x9 : Int32) (s0 : Int32) (s1 : Int32) (M : zH) : Option (Int32 × zH) :=
  r63 (a0, x1, x2, x3, x4, x5, x6, x7, s1 + s0, x9 + 1, M)
def F_Mo_cleared_b149 (n : Nat) (E : zE) (S : zS) (r47 : Nat × Int32 × Int32 × Int32 × Int32 × Int32 × Int32 × zH → Option (Int32 × zH)) (r63 : Nat × Int32 × Int32 × Int32 × Int32 × Int32 × Int32 × Int32 × Int32 × Int32 × zH → Option (Int32 × zH)) (a0 : Nat) (x1 : Int32) (x2 : Int32) (x3 : Int32) (x4 : Int32) (x5 : Int32) (x6 : Int32) (x7 : Int32) (x9 : Int32) (x10 : Int32) (s0 : Int32) (M : zH) : Option (Int32 × zH) :=
  (zck S a0 11).bind fun u_1 =>
  (F_Mo_runsOf n E S a0 x9 x10 x1 M).bind fun q_2 =>
  F_Mo_cleared_b162 n E S r47 r63 a0 x1 x2 x3 x4 x5 x6 x7 x9 q_2.1 s0 q_2.2
def F_Mo_cleared_b130 (n : Nat) (E : zE) (S : zS) (r47 : Nat × Int32 × Int32 × Int32 × Int32 × Int32 × Int32 × zH → Option (Int32 × zH)) (r63 : Nat × Int32 × Int32 × Int32 × Int32 × Int32 × Int32 × Int32 × Int32 × Int32 × zH → Option (Int32 × zH)) (a0 : Nat) (x1 : Int32) (x2 : Int32) (x3 : Int32) (x4 : Int32) (x5 : Int32) (x6 : Int32) (x8 : Int32) (x9 : Int32) (x10 : Int32) (x11 : Int32) (s0 : Int32) (M : zH) : Option (Int32 × zH) :=
  if x11 = 0 then
    F_Mo_cleared_b149 n E S r47 r63 a0 x1 x2 x3 x4 x5 x6 s0 x9 x10 x8 M
  else
    (F_Mo_is n E S x6 x9 M).bind fun q_4 =>
    if q_4.1 = true then
      F_Mo_cleared_b149 n E S r47 r63 a0 x1 x2 x3 x4 x5 x6 s0 x9 x10 x8 q_4.2
    else
      F_Mo_cleared_b162 n E S r47 r63 a0 x1 x2 x3 x4 x5 x6 s0 x9 0 x8 q_4.2
def F_Mo_cleared_b125 (n : Nat) (E : zE) (S : zS) (r47 : Nat × Int32 × Int32 × Int32 × Int32 × Int32 × Int32 × zH → Option (Int32 × zH)) (r63 : Nat × Int32 × Int32 × Int32 × Int32 × Int32 × Int32 × Int32 × Int32 × Int32 × zH → Option (Int32 × zH)) (a0 : Nat) (x1 : Int32) (x2 : Int32) (x3 : Int32) (x4 : Int32) (x5 : Int32) (x6 : Int32) (x8 : Int32) (x9 : Int32) (x10 : Int32) (x11 : Int32) (M : zH) : Option (Int32 × zH) :=
  F_Mo_cleared_b130 n E S r47 r63 a0 x1 x2 x3 x4 x5 x6 x8 x9 x10 x11 1 M
def F_Mo_cleared_b129 (n : Nat) (E : zE) (S : zS) (r47 : Nat × Int32 × Int32 × Int32 × Int32 × Int32 × Int32 × zH → Option (Int32 × zH)) (r63 : Nat × Int32 × Int32 × Int32 × Int32 × Int32 × Int32 × Int32 × Int32 × Int32 × zH → Option (Int32 × zH)) (a0 : Nat) (x1 : Int32) (x2 : Int32) (x3 : Int32) (x4 : Int32) (x5 : Int32) (x6 : Int32) (x8 : Int32) (x9 : Int32) (x10 : Int32) (x11 : Int32) (M : zH) : Option (Int32 × zH) :=
  F_Mo_cleared_b130 n E S r47 r63 a0 x1 x2 x3 x4 x5 x6 x8 x9 x10 x11 0 M
def F_Mo_cleared_b228 (n : Nat) (E : zE) (S : zS) (r47 : Nat × Int32 × Int32 × Int32 × Int32 × Int32 × Int32 × zH → Option (Int32 × zH)) (a0 : Nat) (x1 : Int32) (x2 : Int32) (x3 : Int32) (x5 : Int32) (x6 : Int32) (s0 : Int32) (M : zH) : Option (Int32 × zH) :=
  r47 (a0, x1, x2, x3, s0, x5, x6 + 1, M)
def F_Mo_cleared_b211 (n : Nat) (E : zE) (S : zS) (r47 : Nat × Int32 × Int32 × Int32 × Int32 × Int32 × Int32 × zH → Option (Int32 × zH)) (a0 : Nat) (x1 : Int32) (x2 : Int32) (x3 : Int32) (x4 : Int32) (x6 : Int32) (x9 : Int32) (s0 : Int32) (M : zH) : Option (Int32 × zH) :=
  if x9 = 0 then
    F_Mo_cleared_b228 n E S r47 a0 x1 x2 x3 s0 x6 x4 M
  else
    (F_Mo_ones n E S x6 M).bind fun q_7 =>
    F_Mo_cleared_b228 n E S r47 a0 x1 x2 x3 s0 x6 q_7.1 q_7.2
def F_Mo_cleared_b197 (n : Nat) (E : zE) (S : zS) (r47 : Nat × Int32 × Int32 × Int32 × Int32 × Int32 × Int32 × zH → Option (Int32 × zH)) (a0 : Nat) (x1 : Int32) (x2 : Int32) (x3 : Int32) (x4 : Int32) (x5 : Int32) (x6 : Int32) (s0 : Int32) (M : zH) : Option (Int32 × zH) :=
  if s0 = 0 then
    F_Mo_cleared_b211 n E S r47 a0 x1 x2 x3 x4 x6 s0 x5 M
  else
    F_Mo_cleared_b211 n E S r47 a0 x1 x2 x3 x4 x6 s0 x6 M
def F_Mo_cleared_b196 (n : Nat) (E : zE) (S : zS) (r47 : Nat × Int32 × Int32 × Int32 × Int32 × Int32 × Int32 × zH → Option (Int32 × zH)) (a0 : Nat) (x1 : Int32) (x2 : Int32) (x3 : Int32) (x4 : Int32) (x5 : Int32) (x6 : Int32) (M : zH) : Option (Int32 × zH) :=
  F_Mo_cleared_b197 n E S r47 a0 x1 x2 x3 x4 x5 x6 0 M
def F_Mo_cleared_L63 (n : Nat) (E : zE) (S : zS) (r47 : Nat × Int32 × Int32 × Int32 × Int32 × Int32 × Int32 × zH → Option (Int32 × zH)) (r63 : Nat × Int32 × Int32 × Int32 × Int32 × Int32 × Int32 × Int32 × Int32 × Int32 × zH → Option (Int32 × zH)) (a0 : Nat) (x1 : Int32) (x2 : Int32) (x3 : Int32) (x4 : Int32) (x5 : Int32) (x6 : Int32) (x7 : Int32) (x8 : Int32) (x9 : Int32) (M : zH) : Option (Int32 × zH) :=
  if 4 ≤ x9 then
    if x7 = 0 then
      F_Mo_cleared_b196 n E S r47 a0 x1 x2 x3 x4 x5 x6 M
    else
      if x8 < x2 then
        F_Mo_cleared_b196 n E S r47 a0 x1 x2 x3 x4 x5 x6 M
      else
        (F_Mo_ones n E S x6 M).bind fun q_12 =>
        if x4 ≤ q_12.1 then
          F_Mo_cleared_b196 n E S r47 a0 x1 x2 x3 x4 x5 x6 q_12.2
        else
          F_Mo_cleared_b197 n E S r47 a0 x1 x2 x3 x4 x5 x6 1 q_12.2
  else
    (zgR S a0 11 3).bind fun b_14 =>
    (zldI S M b_14 (8 + x9)).bind fun v_15 =>
    (F_Mo_holeAbove n E S a0 x9 x1 v_15 M).bind fun q_16 =>
    (zldI S q_16.2 b_14 (44 + x9)).bind fun v_17 =>
    (F_Mo_is n E S v_17 q_16.1 q_16.2).bind fun q_18 =>
    if x7 = 0 then
      F_Mo_cleared_b129 n E S r47 r63 a0 x1 x2 x3 x4 x5 x6 x8 x9 q_16.1 (bI q_18.1) q_18.2
    else
      if (bI q_18.1) = 0 then
        (F_Mo_is n E S x6 x9 q_18.2).bind fun q_21 =>
        if q_21.1 = true then
          F_Mo_cleared_b129 n E S r47 r63 a0 x1 x2 x3 x4 x5 x6 x8 x9 q_16.1 (bI q_18.1) q_21.2
        else
          F_Mo_cleared_b125 n E S r47 r63 a0 x1 x2 x3 x4 x5 x6 x8 x9 q_16.1 (bI q_18.1) q_21.2
      else
        F_Mo_cleared_b125 n E S r47 r63 a0 x1 x2 x3 x4 x5 x6 x8 x9 q_16.1 (bI q_18.1) q_18.2
def F_Mo_cleared_b63 (n : Nat) (E : zE) (S : zS) (r47 : Nat × Int32 × Int32 × Int32 × Int32 × Int32 × Int32 × zH → Option (Int32 × zH)) : Nat × Int32 × Int32 × Int32 × Int32 × Int32 × Int32 × Int32 × Int32 × Int32 × zH → Option (Int32 × zH) := zfix (fun r63 s => F_Mo_cleared_L63 n E S r47 r63 s.1 s.2.1 s.2.2.1 s.2.2.2.1 s.2.2.2.2.1 s.2.2.2.2.2.1 s.2.2.2.2.2.2.1 s.2.2.2.2.2.2.2.1 s.2.2.2.2.2.2.2.2.1 s.2.2.2.2.2.2.2.2.2.1 s.2.2.2.2.2.2.2.2.2.2) n
def F_Mo_cleared_b247 (n : Nat) (E : zE) (S : zS) (x5 : Int32) (M : zH) : Option (Int32 × zH) :=
  some (x5, M)
def F_Mo_cleared_L47 (n : Nat) (E : zE) (S : zS) (r47 : Nat × Int32 × Int32 × Int32 × Int32 × Int32 × Int32 × zH → Option (Int32 × zH)) (a0 : Nat) (x1 : Int32) (x2 : Int32) (x3 : Int32) (x4 : Int32) (x5 : Int32) (x6 : Int32) (M : zH) : Option (Int32 × zH) :=
  if 16 ≤ x6 then
    if x5 = (-1) then
      F_Mo_cleared_b247 n E S x5 M
    else
      if x3 = 1 then
        F_Mo_cleared_b247 n E S x5 M
      else
        some (x4, M)
  else
    F_Mo_cleared_b63 n E S r47 (a0, x1, x2, x3, x4, x5, x6, 1, 0, 0, M)
def F_Mo_cleared_b47 (n : Nat) (E : zE) (S : zS) : Nat × Int32 × Int32 × Int32 × Int32 × Int32 × Int32 × zH → Option (Int32 × zH) := zfix (fun r47 s => F_Mo_cleared_L47 n E S r47 s.1 s.2.1 s.2.2.1 s.2.2.2.1 s.2.2.2.2.1 s.2.2.2.2.2.1 s.2.2.2.2.2.2.1 s.2.2.2.2.2.2.2) n
def F_Mo_cleared (n : Nat) (E : zE) (S : zS) (a0 : Nat) (x1 : Int32) (x2 : Int32) (x3 : Int32) (M : zH) : Option (Int32 × zH) :=
  (zpI S M a0 11 0 0).bind fun m_26 =>
  (F_Mo_isField n E S x1 m_26).bind fun q_27 =>
  if q_27.1 = true then
    (F_Mo_in n E S x2.toInt64 0 400 q_27.2).bind fun q_29 =>
    if q_29.1 = true then
      (F_Mo_in n E S x3.toInt64 0 1 q_29.2).bind fun q_31 =>
      if q_31.1 = true then
        F_Mo_cleared_b47 n E S (a0, x1, x2, x3, 100000000, (-1), 0, q_31.2)
      else
        some ((-1), q_31.2)
    else
      some ((-1), q_29.2)
  else
    some ((-1), q_27.2)
theorem K_Mo_cleared_b162 (n : Nat) (E : zE) (S : zS) (r47 : Nat × Int32 × Int32 × Int32 × Int32 × Int32 × Int32 × zH → Option (Int32 × zH)) (r63 : Nat × Int32 × Int32 × Int32 × Int32 × Int32 × Int32 × Int32 × Int32 × Int32 × zH → Option (Int32 × zH)) (a0 : Nat) (x1 : Int32) (x2 : Int32) (x3 : Int32) (x4 : Int32) (x5 : Int32) (x6 : Int32) (x7 : Int32) (x9 : Int32) (s0 : Int32) (s1 : Int32) (M : zH) (r : Int32) (M' : zH) (hr47 : ∀ (a0 : Nat) (x1 : Int32) (x2 : Int32) (x3 : Int32) (x4 : Int32) (x5 : Int32) (x6 : Int32) (M : zH), r47 (a0, x1, x2, x3, x4, x5, x6, M) = some (r, M') → zG E Y_Mo_cleared (some (.int r), S, M') 47 [(0, .ref a0), (1, .int x1), (2, .int x2), (3, .int x3), (4, .int x4), (5, .int x5), (6, .int x6)] [] S M 0 0) (hr63 : ∀ (a0 : Nat) (x1 : Int32) (x2 : Int32) (x3 : Int32) (x4 : Int32) (x5 : Int32) (x6 : Int32) (x7 : Int32) (x8 : Int32) (x9 : Int32) (M : zH), r63 (a0, x1, x2, x3, x4, x5, x6, x7, x8, x9, M) = some (r, M') → zG E Y_Mo_cleared (some (.int r), S, M') 63 [(0, .ref a0), (1, .int x1), (2, .int x2), (3, .int x3), (4, .int x4), (5, .int x5), (6, .int x6), (7, .int x7), (8, .int x8), (9, .int x9)] [] S M 0 0) (h : F_Mo_cleared_b162 n E S r47 r63 a0 x1 x2 x3 x4 x5 x6 x7 x9 s0 s1 M = some (r, M')) : zG E Y_Mo_cleared (some (.int r), S, M') 162 [(0, .ref a0), (1, .int x1), (2, .int x2), (3, .int x3), (4, .int x4), (5, .int x5), (6, .int x6), (7, .int x7), (9, .int x9)] [.int s0, .int s1] S M 0 0 := by
  unfold F_Mo_cleared_b162 at h
  refine zi_iadd d_Mo_cleared_162 ?_
  refine zi_istore [(8, .int (s1 + s0)), (0, .ref a0), (1, .int x1), (2, .int x2), (3, .int x3), (4, .int x4), (5, .int x5), (6, .int x6), (7, .int x7), (9, .int x9)] d_Mo_cleared_163 (by decide) rfl ?_
  refine zi_iinc 9 (x9 + 1) [(9, .int (x9 + 1)), (8, .int (s1 + s0)), (0, .ref a0), (1, .int x1), (2, .int x2), (3, .int x3), (4, .int x4), (5, .int x5), (6, .int x6), (7, .int x7)] d_Mo_cleared_165 rfl rfl (by decide) rfl ?_
  refine zi_goto (tgt := 63) d_Mo_cleared_168 rfl ?_
  refine zi_lo [(0, .ref a0), (1, .int x1), (2, .int x2), (3, .int x3), (4, .int x4), (5, .int x5), (6, .int x6), (7, .int x7), (8, .int (s1 + s0)), (9, .int (x9 + 1))] [2, 3, 4, 5, 6, 7, 8, 9, 1, 0] rfl ?_
  exact hr63 a0 x1 x2 x3 x4 x5 x6 x7 (s1 + s0) (x9 + 1) M h
theorem K_Mo_cleared_b149 (n : Nat) (E : zE) (S : zS) (r47 : Nat × Int32 × Int32 × Int32 × Int32 × Int32 × Int32 × zH → Option (Int32 × zH)) (r63 : Nat × Int32 × Int32 × Int32 × Int32 × Int32 × Int32 × Int32 × Int32 × Int32 × zH → Option (Int32 × zH)) (a0 : Nat) (x1 : Int32) (x2 : Int32) (x3 : Int32) (x4 : Int32) (x5 : Int32) (x6 : Int32) (x7 : Int32) (x9 : Int32) (x10 : Int32) (s0 : Int32) (M : zH) (r : Int32) (M' : zH) (hr47 : ∀ (a0 : Nat) (x1 : Int32) (x2 : Int32) (x3 : Int32) (x4 : Int32) (x5 : Int32) (x6 : Int32) (M : zH), r47 (a0, x1, x2, x3, x4, x5, x6, M) = some (r, M') → zG E Y_Mo_cleared (some (.int r), S, M') 47 [(0, .ref a0), (1, .int x1), (2, .int x2), (3, .int x3), (4, .int x4), (5, .int x5), (6, .int x6)] [] S M 0 0) (hr63 : ∀ (a0 : Nat) (x1 : Int32) (x2 : Int32) (x3 : Int32) (x4 : Int32) (x5 : Int32) (x6 : Int32) (x7 : Int32) (x8 : Int32) (x9 : Int32) (M : zH), r63 (a0, x1, x2, x3, x4, x5, x6, x7, x8, x9, M) = some (r, M') → zG E Y_Mo_cleared (some (.int r), S, M') 63 [(0, .ref a0), (1, .int x1), (2, .int x2), (3, .int x3), (4, .int x4), (5, .int x5), (6, .int x6), (7, .int x7), (8, .int x8), (9, .int x9)] [] S M 0 0) (h : F_Mo_cleared_b149 n E S r47 r63 a0 x1 x2 x3 x4 x5 x6 x7 x9 x10 s0 M = some (r, M')) : zG E Y_Mo_cleared (some (.int r), S, M') 149 [(0, .ref a0), (1, .int x1), (2, .int x2), (3, .int x3), (4, .int x4), (5, .int x5), (6, .int x6), (7, .int x7), (9, .int x9), (10, .int x10)] [.int s0] S M 0 0 := by
  unfold F_Mo_cleared_b149 at h
  refine zi_aload_n 0 d_Mo_cleared_149 rfl ?_
  refine zi_iload 8 d_Mo_cleared_150 rfl ?_
  refine zi_iload 9 d_Mo_cleared_152 rfl ?_
  refine zi_iload_n 1 d_Mo_cleared_154 rfl ?_
  obtain ⟨u_1, eu_1, h⟩ := zbind h
  obtain ⟨q_2, eq_2, h⟩ := zbind h
  refine zo_virt (k' := 0) (n' := 0) 158 [.int x9, .int x10, .int x1] [.int s0] [.int q_2.1, .int s0] zkd_11 (zck_s eu_1) (C_Mo_runsOf n E S a0 x9 x10 x1 M q_2.1 q_2.2 eq_2) d_Mo_cleared_155 tw_1446 tw_1443 tw_1445 ts_39 tw_13 dd_Mo_runsOf ⟨Nat.le_of_ble_eq_true rfl, Nat.le_of_ble_eq_true rfl, Nat.le_of_ble_eq_true rfl, Nat.le_of_ble_eq_true rfl⟩ (Nat.le_of_ble_eq_true rfl) rfl rfl rfl rfl ?_
  refine zi_goto (tgt := 162) d_Mo_cleared_158 rfl ?_
  refine zi_lo [(0, .ref a0), (1, .int x1), (2, .int x2), (3, .int x3), (4, .int x4), (5, .int x5), (6, .int x6), (7, .int x7), (9, .int x9)] [0, 1, 2, 3, 4, 5, 6, 7, 8] rfl ?_
  exact K_Mo_cleared_b162 n E S r47 r63 a0 x1 x2 x3 x4 x5 x6 x7 x9 q_2.1 s0 q_2.2 r M' hr47 hr63 h
theorem K_Mo_cleared_b130 (n : Nat) (E : zE) (S : zS) (r47 : Nat × Int32 × Int32 × Int32 × Int32 × Int32 × Int32 × zH → Option (Int32 × zH)) (r63 : Nat × Int32 × Int32 × Int32 × Int32 × Int32 × Int32 × Int32 × Int32 × Int32 × zH → Option (Int32 × zH)) (a0 : Nat) (x1 : Int32) (x2 : Int32) (x3 : Int32) (x4 : Int32) (x5 : Int32) (x6 : Int32) (x8 : Int32) (x9 : Int32) (x10 : Int32) (x11 : Int32) (s0 : Int32) (M : zH) (r : Int32) (M' : zH) (hr47 : ∀ (a0 : Nat) (x1 : Int32) (x2 : Int32) (x3 : Int32) (x4 : Int32) (x5 : Int32) (x6 : Int32) (M : zH), r47 (a0, x1, x2, x3, x4, x5, x6, M) = some (r, M') → zG E Y_Mo_cleared (some (.int r), S, M') 47 [(0, .ref a0), (1, .int x1), (2, .int x2), (3, .int x3), (4, .int x4), (5, .int x5), (6, .int x6)] [] S M 0 0) (hr63 : ∀ (a0 : Nat) (x1 : Int32) (x2 : Int32) (x3 : Int32) (x4 : Int32) (x5 : Int32) (x6 : Int32) (x7 : Int32) (x8 : Int32) (x9 : Int32) (M : zH), r63 (a0, x1, x2, x3, x4, x5, x6, x7, x8, x9, M) = some (r, M') → zG E Y_Mo_cleared (some (.int r), S, M') 63 [(0, .ref a0), (1, .int x1), (2, .int x2), (3, .int x3), (4, .int x4), (5, .int x5), (6, .int x6), (7, .int x7), (8, .int x8), (9, .int x9)] [] S M 0 0) (h : F_Mo_cleared_b130 n E S r47 r63 a0 x1 x2 x3 x4 x5 x6 x8 x9 x10 x11 s0 M = some (r, M')) : zG E Y_Mo_cleared (some (.int r), S, M') 130 [(0, .ref a0), (1, .int x1), (2, .int x2), (3, .int x3), (4, .int x4), (5, .int x5), (6, .int x6), (8, .int x8), (9, .int x9), (10, .int x10), (11, .int x11)] [.int s0] S M 0 0 := by
  unfold F_Mo_cleared_b130 at h
  refine zi_istore [(7, .int s0), (0, .ref a0), (1, .int x1), (2, .int x2), (3, .int x3), (4, .int x4), (5, .int x5), (6, .int x6), (8, .int x8), (9, .int x9), (10, .int x10), (11, .int x11)] d_Mo_cleared_130 (by decide) rfl ?_
  refine zi_iload 8 d_Mo_cleared_132 rfl ?_
  refine zi_iload 11 d_Mo_cleared_134 rfl ?_
  refine zi_if_eq (tgt := 149) d_Mo_cleared_136 rfl (fun c_3 => ?_) (fun c_3 => ?_)
  · rw [if_pos c_3] at h
    refine zi_lo [(0, .ref a0), (1, .int x1), (2, .int x2), (3, .int x3), (4, .int x4), (5, .int x5), (6, .int x6), (7, .int s0), (9, .int x9), (10, .int x10)] [1, 2, 3, 4, 5, 6, 7, 0, 9, 10] rfl ?_
    exact K_Mo_cleared_b149 n E S r47 r63 a0 x1 x2 x3 x4 x5 x6 s0 x9 x10 x8 M r M' hr47 hr63 h
  · rw [if_neg c_3] at h
    refine zi_iload 7 d_Mo_cleared_139 rfl ?_
    refine zi_iload 9 d_Mo_cleared_141 rfl ?_
    obtain ⟨q_4, eq_4, h⟩ := zbind h
    refine zo_stat (k' := 0) (n' := 0) 146 [.int x6, .int x9] [.int x8] [.int (bI q_4.1), .int x8] (C_Mo_is n E S x6 x9 M q_4.1 q_4.2 eq_4) d_Mo_cleared_143 tw_1442 tw_1440 tw_1441 tw_13 dd_Mo_is ⟨Nat.le_of_ble_eq_true rfl, Nat.le_of_ble_eq_true rfl, Nat.le_of_ble_eq_true rfl, Nat.le_of_ble_eq_true rfl⟩ (Nat.le_of_ble_eq_true rfl) rfl rfl rfl rfl ?_
    refine zo_ifeqB d_Mo_cleared_146 rfl 149 rfl (fun c_5 => ?_) (fun c_5 => ?_)
    · rw [if_neg c_5] at h
      refine zi_iconst 0 d_Mo_cleared_161 rfl ?_
      refine zi_lo [(0, .ref a0), (1, .int x1), (2, .int x2), (3, .int x3), (4, .int x4), (5, .int x5), (6, .int x6), (7, .int s0), (9, .int x9)] [1, 2, 3, 4, 5, 6, 7, 0, 9] rfl ?_
      exact K_Mo_cleared_b162 n E S r47 r63 a0 x1 x2 x3 x4 x5 x6 s0 x9 0 x8 q_4.2 r M' hr47 hr63 h
    · rw [if_pos c_5] at h
      refine zi_lo [(0, .ref a0), (1, .int x1), (2, .int x2), (3, .int x3), (4, .int x4), (5, .int x5), (6, .int x6), (7, .int s0), (9, .int x9), (10, .int x10)] [1, 2, 3, 4, 5, 6, 7, 0, 9, 10] rfl ?_
      exact K_Mo_cleared_b149 n E S r47 r63 a0 x1 x2 x3 x4 x5 x6 s0 x9 x10 x8 q_4.2 r M' hr47 hr63 h
theorem K_Mo_cleared_b125 (n : Nat) (E : zE) (S : zS) (r47 : Nat × Int32 × Int32 × Int32 × Int32 × Int32 × Int32 × zH → Option (Int32 × zH)) (r63 : Nat × Int32 × Int32 × Int32 × Int32 × Int32 × Int32 × Int32 × Int32 × Int32 × zH → Option (Int32 × zH)) (a0 : Nat) (x1 : Int32) (x2 : Int32) (x3 : Int32) (x4 : Int32) (x5 : Int32) (x6 : Int32) (x8 : Int32) (x9 : Int32) (x10 : Int32) (x11 : Int32) (M : zH) (r : Int32) (M' : zH) (hr47 : ∀ (a0 : Nat) (x1 : Int32) (x2 : Int32) (x3 : Int32) (x4 : Int32) (x5 : Int32) (x6 : Int32) (M : zH), r47 (a0, x1, x2, x3, x4, x5, x6, M) = some (r, M') → zG E Y_Mo_cleared (some (.int r), S, M') 47 [(0, .ref a0), (1, .int x1), (2, .int x2), (3, .int x3), (4, .int x4), (5, .int x5), (6, .int x6)] [] S M 0 0) (hr63 : ∀ (a0 : Nat) (x1 : Int32) (x2 : Int32) (x3 : Int32) (x4 : Int32) (x5 : Int32) (x6 : Int32) (x7 : Int32) (x8 : Int32) (x9 : Int32) (M : zH), r63 (a0, x1, x2, x3, x4, x5, x6, x7, x8, x9, M) = some (r, M') → zG E Y_Mo_cleared (some (.int r), S, M') 63 [(0, .ref a0), (1, .int x1), (2, .int x2), (3, .int x3), (4, .int x4), (5, .int x5), (6, .int x6), (7, .int x7), (8, .int x8), (9, .int x9)] [] S M 0 0) (h : F_Mo_cleared_b125 n E S r47 r63 a0 x1 x2 x3 x4 x5 x6 x8 x9 x10 x11 M = some (r, M')) : zG E Y_Mo_cleared (some (.int r), S, M') 125 [(0, .ref a0), (1, .int x1), (2, .int x2), (3, .int x3), (4, .int x4), (5, .int x5), (6, .int x6), (8, .int x8), (9, .int x9), (10, .int x10), (11, .int x11)] [] S M 0 0 := by
  unfold F_Mo_cleared_b125 at h
  refine zi_iconst 1 d_Mo_cleared_125 rfl ?_
  refine zi_goto (tgt := 130) d_Mo_cleared_126 rfl ?_
  refine zi_lo [(0, .ref a0), (1, .int x1), (2, .int x2), (3, .int x3), (4, .int x4), (5, .int x5), (6, .int x6), (8, .int x8), (9, .int x9), (10, .int x10), (11, .int x11)] [0, 1, 2, 3, 4, 5, 6, 7, 8, 9, 10] rfl ?_
  exact K_Mo_cleared_b130 n E S r47 r63 a0 x1 x2 x3 x4 x5 x6 x8 x9 x10 x11 1 M r M' hr47 hr63 h
theorem K_Mo_cleared_b129 (n : Nat) (E : zE) (S : zS) (r47 : Nat × Int32 × Int32 × Int32 × Int32 × Int32 × Int32 × zH → Option (Int32 × zH)) (r63 : Nat × Int32 × Int32 × Int32 × Int32 × Int32 × Int32 × Int32 × Int32 × Int32 × zH → Option (Int32 × zH)) (a0 : Nat) (x1 : Int32) (x2 : Int32) (x3 : Int32) (x4 : Int32) (x5 : Int32) (x6 : Int32) (x8 : Int32) (x9 : Int32) (x10 : Int32) (x11 : Int32) (M : zH) (r : Int32) (M' : zH) (hr47 : ∀ (a0 : Nat) (x1 : Int32) (x2 : Int32) (x3 : Int32) (x4 : Int32) (x5 : Int32) (x6 : Int32) (M : zH), r47 (a0, x1, x2, x3, x4, x5, x6, M) = some (r, M') → zG E Y_Mo_cleared (some (.int r), S, M') 47 [(0, .ref a0), (1, .int x1), (2, .int x2), (3, .int x3), (4, .int x4), (5, .int x5), (6, .int x6)] [] S M 0 0) (hr63 : ∀ (a0 : Nat) (x1 : Int32) (x2 : Int32) (x3 : Int32) (x4 : Int32) (x5 : Int32) (x6 : Int32) (x7 : Int32) (x8 : Int32) (x9 : Int32) (M : zH), r63 (a0, x1, x2, x3, x4, x5, x6, x7, x8, x9, M) = some (r, M') → zG E Y_Mo_cleared (some (.int r), S, M') 63 [(0, .ref a0), (1, .int x1), (2, .int x2), (3, .int x3), (4, .int x4), (5, .int x5), (6, .int x6), (7, .int x7), (8, .int x8), (9, .int x9)] [] S M 0 0) (h : F_Mo_cleared_b129 n E S r47 r63 a0 x1 x2 x3 x4 x5 x6 x8 x9 x10 x11 M = some (r, M')) : zG E Y_Mo_cleared (some (.int r), S, M') 129 [(0, .ref a0), (1, .int x1), (2, .int x2), (3, .int x3), (4, .int x4), (5, .int x5), (6, .int x6), (8, .int x8), (9, .int x9), (10, .int x10), (11, .int x11)] [] S M 0 0 := by
  unfold F_Mo_cleared_b129 at h
  refine zi_iconst 0 d_Mo_cleared_129 rfl ?_
  refine zi_lo [(0, .ref a0), (1, .int x1), (2, .int x2), (3, .int x3), (4, .int x4), (5, .int x5), (6, .int x6), (8, .int x8), (9, .int x9), (10, .int x10), (11, .int x11)] [0, 1, 2, 3, 4, 5, 6, 7, 8, 9, 10] rfl ?_
  exact K_Mo_cleared_b130 n E S r47 r63 a0 x1 x2 x3 x4 x5 x6 x8 x9 x10 x11 0 M r M' hr47 hr63 h
theorem K_Mo_cleared_b228 (n : Nat) (E : zE) (S : zS) (r47 : Nat × Int32 × Int32 × Int32 × Int32 × Int32 × Int32 × zH → Option (Int32 × zH)) (a0 : Nat) (x1 : Int32) (x2 : Int32) (x3 : Int32) (x5 : Int32) (x6 : Int32) (s0 : Int32) (M : zH) (r : Int32) (M' : zH) (hr47 : ∀ (a0 : Nat) (x1 : Int32) (x2 : Int32) (x3 : Int32) (x4 : Int32) (x5 : Int32) (x6 : Int32) (M : zH), r47 (a0, x1, x2, x3, x4, x5, x6, M) = some (r, M') → zG E Y_Mo_cleared (some (.int r), S, M') 47 [(0, .ref a0), (1, .int x1), (2, .int x2), (3, .int x3), (4, .int x4), (5, .int x5), (6, .int x6)] [] S M 0 0) (h : F_Mo_cleared_b228 n E S r47 a0 x1 x2 x3 x5 x6 s0 M = some (r, M')) : zG E Y_Mo_cleared (some (.int r), S, M') 228 [(0, .ref a0), (1, .int x1), (2, .int x2), (3, .int x3), (5, .int x5), (6, .int x6)] [.int s0] S M 0 0 := by
  unfold F_Mo_cleared_b228 at h
  refine zi_istore [(4, .int s0), (0, .ref a0), (1, .int x1), (2, .int x2), (3, .int x3), (5, .int x5), (6, .int x6)] d_Mo_cleared_228 (by decide) rfl ?_
  refine zi_iinc 6 (x6 + 1) [(6, .int (x6 + 1)), (4, .int s0), (0, .ref a0), (1, .int x1), (2, .int x2), (3, .int x3), (5, .int x5)] d_Mo_cleared_230 rfl rfl (by decide) rfl ?_
  refine zi_goto (tgt := 47) d_Mo_cleared_233 rfl ?_
  refine zi_lo [(0, .ref a0), (1, .int x1), (2, .int x2), (3, .int x3), (4, .int s0), (5, .int x5), (6, .int (x6 + 1))] [2, 3, 4, 5, 1, 6, 0] rfl ?_
  exact hr47 a0 x1 x2 x3 s0 x5 (x6 + 1) M h
theorem K_Mo_cleared_b211 (n : Nat) (E : zE) (S : zS) (r47 : Nat × Int32 × Int32 × Int32 × Int32 × Int32 × Int32 × zH → Option (Int32 × zH)) (a0 : Nat) (x1 : Int32) (x2 : Int32) (x3 : Int32) (x4 : Int32) (x6 : Int32) (x9 : Int32) (s0 : Int32) (M : zH) (r : Int32) (M' : zH) (hr47 : ∀ (a0 : Nat) (x1 : Int32) (x2 : Int32) (x3 : Int32) (x4 : Int32) (x5 : Int32) (x6 : Int32) (M : zH), r47 (a0, x1, x2, x3, x4, x5, x6, M) = some (r, M') → zG E Y_Mo_cleared (some (.int r), S, M') 47 [(0, .ref a0), (1, .int x1), (2, .int x2), (3, .int x3), (4, .int x4), (5, .int x5), (6, .int x6)] [] S M 0 0) (h : F_Mo_cleared_b211 n E S r47 a0 x1 x2 x3 x4 x6 x9 s0 M = some (r, M')) : zG E Y_Mo_cleared (some (.int r), S, M') 211 [(0, .ref a0), (1, .int x1), (2, .int x2), (3, .int x3), (4, .int x4), (6, .int x6), (9, .int x9)] [.int s0] S M 0 0 := by
  unfold F_Mo_cleared_b211 at h
  refine zi_istore [(5, .int s0), (0, .ref a0), (1, .int x1), (2, .int x2), (3, .int x3), (4, .int x4), (6, .int x6), (9, .int x9)] d_Mo_cleared_211 (by decide) rfl ?_
  refine zi_iload 7 d_Mo_cleared_213 rfl ?_
  refine zi_if_eq (tgt := 226) d_Mo_cleared_215 rfl (fun c_6 => ?_) (fun c_6 => ?_)
  · rw [if_pos c_6] at h
    refine zi_iload 5 d_Mo_cleared_226 rfl ?_
    refine zi_lo [(0, .ref a0), (1, .int x1), (2, .int x2), (3, .int x3), (5, .int s0), (6, .int x6)] [1, 2, 3, 4, 0, 6] rfl ?_
    exact K_Mo_cleared_b228 n E S r47 a0 x1 x2 x3 s0 x6 x4 M r M' hr47 h
  · rw [if_neg c_6] at h
    refine zi_iload 6 d_Mo_cleared_218 rfl ?_
    obtain ⟨q_7, eq_7, h⟩ := zbind h
    refine zo_stat (k' := 0) (n' := 0) 223 [.int x6] [] [.int q_7.1] (C_Mo_ones n E S x6 M q_7.1 q_7.2 eq_7) d_Mo_cleared_220 tw_1818 tw_1816 tw_1817 tw_13 dd_Mo_ones ⟨Nat.le_of_ble_eq_true rfl, Nat.le_of_ble_eq_true rfl, Nat.le_of_ble_eq_true rfl, Nat.le_of_ble_eq_true rfl⟩ (Nat.le_of_ble_eq_true rfl) rfl rfl rfl rfl ?_
    refine zi_goto (tgt := 228) d_Mo_cleared_223 rfl ?_
    refine zi_lo [(0, .ref a0), (1, .int x1), (2, .int x2), (3, .int x3), (5, .int s0), (6, .int x6)] [1, 2, 3, 4, 0, 6] rfl ?_
    exact K_Mo_cleared_b228 n E S r47 a0 x1 x2 x3 s0 x6 q_7.1 q_7.2 r M' hr47 h
theorem K_Mo_cleared_b197 (n : Nat) (E : zE) (S : zS) (r47 : Nat × Int32 × Int32 × Int32 × Int32 × Int32 × Int32 × zH → Option (Int32 × zH)) (a0 : Nat) (x1 : Int32) (x2 : Int32) (x3 : Int32) (x4 : Int32) (x5 : Int32) (x6 : Int32) (s0 : Int32) (M : zH) (r : Int32) (M' : zH) (hr47 : ∀ (a0 : Nat) (x1 : Int32) (x2 : Int32) (x3 : Int32) (x4 : Int32) (x5 : Int32) (x6 : Int32) (M : zH), r47 (a0, x1, x2, x3, x4, x5, x6, M) = some (r, M') → zG E Y_Mo_cleared (some (.int r), S, M') 47 [(0, .ref a0), (1, .int x1), (2, .int x2), (3, .int x3), (4, .int x4), (5, .int x5), (6, .int x6)] [] S M 0 0) (h : F_Mo_cleared_b197 n E S r47 a0 x1 x2 x3 x4 x5 x6 s0 M = some (r, M')) : zG E Y_Mo_cleared (some (.int r), S, M') 197 [(0, .ref a0), (1, .int x1), (2, .int x2), (3, .int x3), (4, .int x4), (5, .int x5), (6, .int x6)] [.int s0] S M 0 0 := by
  unfold F_Mo_cleared_b197 at h
  refine zi_istore [(9, .int s0), (0, .ref a0), (1, .int x1), (2, .int x2), (3, .int x3), (4, .int x4), (5, .int x5), (6, .int x6)] d_Mo_cleared_197 (by decide) rfl ?_
  refine zi_iload 0 d_Mo_cleared_199 rfl ?_
  refine zi_if_eq (tgt := 209) d_Mo_cleared_201 rfl (fun c_8 => ?_) (fun c_8 => ?_)
  · rw [if_pos c_8] at h
    refine zi_iload 6 d_Mo_cleared_209 rfl ?_
    refine zi_lo [(0, .ref a0), (1, .int x1), (2, .int x2), (3, .int x3), (4, .int x4), (6, .int x6), (9, .int s0)] [1, 2, 3, 4, 5, 7, 0] rfl ?_
    exact K_Mo_cleared_b211 n E S r47 a0 x1 x2 x3 x4 x6 s0 x5 M r M' hr47 h
  · rw [if_neg c_8] at h
    refine zi_iload 7 d_Mo_cleared_204 rfl ?_
    refine zi_goto (tgt := 211) d_Mo_cleared_206 rfl ?_
    refine zi_lo [(0, .ref a0), (1, .int x1), (2, .int x2), (3, .int x3), (4, .int x4), (6, .int x6), (9, .int s0)] [1, 2, 3, 4, 5, 7, 0] rfl ?_
    exact K_Mo_cleared_b211 n E S r47 a0 x1 x2 x3 x4 x6 s0 x6 M r M' hr47 h
theorem K_Mo_cleared_b196 (n : Nat) (E : zE) (S : zS) (r47 : Nat × Int32 × Int32 × Int32 × Int32 × Int32 × Int32 × zH → Option (Int32 × zH)) (a0 : Nat) (x1 : Int32) (x2 : Int32) (x3 : Int32) (x4 : Int32) (x5 : Int32) (x6 : Int32) (M : zH) (r : Int32) (M' : zH) (hr47 : ∀ (a0 : Nat) (x1 : Int32) (x2 : Int32) (x3 : Int32) (x4 : Int32) (x5 : Int32) (x6 : Int32) (M : zH), r47 (a0, x1, x2, x3, x4, x5, x6, M) = some (r, M') → zG E Y_Mo_cleared (some (.int r), S, M') 47 [(0, .ref a0), (1, .int x1), (2, .int x2), (3, .int x3), (4, .int x4), (5, .int x5), (6, .int x6)] [] S M 0 0) (h : F_Mo_cleared_b196 n E S r47 a0 x1 x2 x3 x4 x5 x6 M = some (r, M')) : zG E Y_Mo_cleared (some (.int r), S, M') 196 [(0, .ref a0), (1, .int x1), (2, .int x2), (3, .int x3), (4, .int x4), (5, .int x5), (6, .int x6)] [] S M 0 0 := by
  unfold F_Mo_cleared_b196 at h
  refine zi_iconst 0 d_Mo_cleared_196 rfl ?_
  refine zi_lo [(0, .ref a0), (1, .int x1), (2, .int x2), (3, .int x3), (4, .int x4), (5, .int x5), (6, .int x6)] [0, 1, 2, 3, 4, 5, 6] rfl ?_
  exact K_Mo_cleared_b197 n E S r47 a0 x1 x2 x3 x4 x5 x6 0 M r M' hr47 h
theorem K_Mo_cleared_L63 (n : Nat) (E : zE) (S : zS) (r47 : Nat × Int32 × Int32 × Int32 × Int32 × Int32 × Int32 × zH → Option (Int32 × zH)) (r63 : Nat × Int32 × Int32 × Int32 × Int32 × Int32 × Int32 × Int32 × Int32 × Int32 × zH → Option (Int32 × zH)) (a0 : Nat) (x1 : Int32) (x2 : Int32) (x3 : Int32) (x4 : Int32) (x5 : Int32) (x6 : Int32) (x7 : Int32) (x8 : Int32) (x9 : Int32) (M : zH) (r : Int32) (M' : zH) (hr47 : ∀ (a0 : Nat) (x1 : Int32) (x2 : Int32) (x3 : Int32) (x4 : Int32) (x5 : Int32) (x6 : Int32) (M : zH), r47 (a0, x1, x2, x3, x4, x5, x6, M) = some (r, M') → zG E Y_Mo_cleared (some (.int r), S, M') 47 [(0, .ref a0), (1, .int x1), (2, .int x2), (3, .int x3), (4, .int x4), (5, .int x5), (6, .int x6)] [] S M 0 0) (hr63 : ∀ (a0 : Nat) (x1 : Int32) (x2 : Int32) (x3 : Int32) (x4 : Int32) (x5 : Int32) (x6 : Int32) (x7 : Int32) (x8 : Int32) (x9 : Int32) (M : zH), r63 (a0, x1, x2, x3, x4, x5, x6, x7, x8, x9, M) = some (r, M') → zG E Y_Mo_cleared (some (.int r), S, M') 63 [(0, .ref a0), (1, .int x1), (2, .int x2), (3, .int x3), (4, .int x4), (5, .int x5), (6, .int x6), (7, .int x7), (8, .int x8), (9, .int x9)] [] S M 0 0) (h : F_Mo_cleared_L63 n E S r47 r63 a0 x1 x2 x3 x4 x5 x6 x7 x8 x9 M = some (r, M')) : zG E Y_Mo_cleared (some (.int r), S, M') 63 [(0, .ref a0), (1, .int x1), (2, .int x2), (3, .int x3), (4, .int x4), (5, .int x5), (6, .int x6), (7, .int x7), (8, .int x8), (9, .int x9)] [] S M 0 0 := by
  unfold F_Mo_cleared_L63 at h
  refine zi_iload 9 d_Mo_cleared_63 rfl ?_
  refine zi_iconst 4 d_Mo_cleared_65 rfl ?_
  refine zi_icmp_ge (tgt := 171) d_Mo_cleared_66 rfl (fun c_9 => ?_) (fun c_9 => ?_)
  · rw [if_pos c_9] at h
    refine zi_iload 7 d_Mo_cleared_171 rfl ?_
    refine zi_if_eq (tgt := 196) d_Mo_cleared_173 rfl (fun c_10 => ?_) (fun c_10 => ?_)
    · rw [if_pos c_10] at h
      refine zi_lo [(0, .ref a0), (1, .int x1), (2, .int x2), (3, .int x3), (4, .int x4), (5, .int x5), (6, .int x6)] [0, 1, 2, 3, 4, 5, 6] rfl ?_
      exact K_Mo_cleared_b196 n E S r47 a0 x1 x2 x3 x4 x5 x6 M r M' hr47 h
    · rw [if_neg c_10] at h
      refine zi_iload 8 d_Mo_cleared_176 rfl ?_
      refine zi_iload_n 2 d_Mo_cleared_178 rfl ?_
      refine zi_icmp_lt (tgt := 196) d_Mo_cleared_179 rfl (fun c_11 => ?_) (fun c_11 => ?_)
      · rw [if_pos c_11] at h
        refine zi_lo [(0, .ref a0), (1, .int x1), (2, .int x2), (3, .int x3), (4, .int x4), (5, .int x5), (6, .int x6)] [0, 1, 2, 3, 4, 5, 6] rfl ?_
        exact K_Mo_cleared_b196 n E S r47 a0 x1 x2 x3 x4 x5 x6 M r M' hr47 h
      · rw [if_neg c_11] at h
        refine zi_iload 6 d_Mo_cleared_182 rfl ?_
        obtain ⟨q_12, eq_12, h⟩ := zbind h
        refine zo_stat (k' := 0) (n' := 0) 187 [.int x6] [] [.int q_12.1] (C_Mo_ones n E S x6 M q_12.1 q_12.2 eq_12) d_Mo_cleared_184 tw_1818 tw_1816 tw_1817 tw_13 dd_Mo_ones ⟨Nat.le_of_ble_eq_true rfl, Nat.le_of_ble_eq_true rfl, Nat.le_of_ble_eq_true rfl, Nat.le_of_ble_eq_true rfl⟩ (Nat.le_of_ble_eq_true rfl) rfl rfl rfl rfl ?_
        refine zi_iload 4 d_Mo_cleared_187 rfl ?_
        refine zi_icmp_ge (tgt := 196) d_Mo_cleared_189 rfl (fun c_13 => ?_) (fun c_13 => ?_)
        · rw [if_pos c_13] at h
          refine zi_lo [(0, .ref a0), (1, .int x1), (2, .int x2), (3, .int x3), (4, .int x4), (5, .int x5), (6, .int x6)] [0, 1, 2, 3, 4, 5, 6] rfl ?_
          exact K_Mo_cleared_b196 n E S r47 a0 x1 x2 x3 x4 x5 x6 q_12.2 r M' hr47 h
        · rw [if_neg c_13] at h
          refine zi_iconst 1 d_Mo_cleared_192 rfl ?_
          refine zi_goto (tgt := 197) d_Mo_cleared_193 rfl ?_
          refine zi_lo [(0, .ref a0), (1, .int x1), (2, .int x2), (3, .int x3), (4, .int x4), (5, .int x5), (6, .int x6)] [0, 1, 2, 3, 4, 5, 6] rfl ?_
          exact K_Mo_cleared_b197 n E S r47 a0 x1 x2 x3 x4 x5 x6 1 q_12.2 r M' hr47 h
  · rw [if_neg c_9] at h
    refine zi_aload_n 0 d_Mo_cleared_69 rfl ?_
    refine zi_iload 9 d_Mo_cleared_70 rfl ?_
    refine zi_iload_n 1 d_Mo_cleared_72 rfl ?_
    refine zi_aload_n 0 d_Mo_cleared_73 rfl ?_
    obtain ⟨b_14, eb_14, h⟩ := zbind h
    refine zo_getR 77 zkd_11 3 d_Mo_cleared_74 eb_14 rfl tw_1232 rfl ?_
    refine zi_bipush 8 d_Mo_cleared_77 rfl ?_
    refine zi_iload 9 d_Mo_cleared_79 rfl ?_
    refine zi_iadd d_Mo_cleared_81 ?_
    obtain ⟨v_15, ev_15, h⟩ := zbind h
    refine zo_iald 83 d_Mo_cleared_82 ev_15 rfl ?_
    obtain ⟨q_16, eq_16, h⟩ := zbind h
    refine zo_virt (k' := 0) (n' := 0) 86 [.int x9, .int x1, .int v_15] [] [.int q_16.1] zkd_11 (zgR_s eb_14).1 (C_Mo_holeAbove n E S a0 x9 x1 v_15 M q_16.1 q_16.2 eq_16) d_Mo_cleared_83 tw_1527 tw_1524 tw_1526 ts_52 tw_13 dd_Mo_holeAbove ⟨Nat.le_of_ble_eq_true rfl, Nat.le_of_ble_eq_true rfl, Nat.le_of_ble_eq_true rfl, Nat.le_of_ble_eq_true rfl⟩ (Nat.le_of_ble_eq_true rfl) rfl rfl rfl rfl ?_
    refine zi_istore [(10, .int q_16.1), (0, .ref a0), (1, .int x1), (2, .int x2), (3, .int x3), (4, .int x4), (5, .int x5), (6, .int x6), (7, .int x7), (8, .int x8), (9, .int x9)] d_Mo_cleared_86 (by decide) rfl ?_
    refine zi_aload_n 1 d_Mo_cleared_88 rfl ?_
    refine zo_getR 92 zkd_11 3 d_Mo_cleared_89 eb_14 rfl tw_1232 rfl ?_
    refine zi_bipush 44 d_Mo_cleared_92 rfl ?_
    refine zi_iload 10 d_Mo_cleared_94 rfl ?_
    refine zi_iadd d_Mo_cleared_96 ?_
    obtain ⟨v_17, ev_17, h⟩ := zbind h
    refine zo_iald 98 d_Mo_cleared_97 ev_17 rfl ?_
    refine zi_iload 0 d_Mo_cleared_98 rfl ?_
    obtain ⟨q_18, eq_18, h⟩ := zbind h
    refine zo_stat (k' := 0) (n' := 0) 103 [.int v_17, .int q_16.1] [] [.int (bI q_18.1)] (C_Mo_is n E S v_17 q_16.1 q_16.2 q_18.1 q_18.2 eq_18) d_Mo_cleared_100 tw_1442 tw_1440 tw_1441 tw_13 dd_Mo_is ⟨Nat.le_of_ble_eq_true rfl, Nat.le_of_ble_eq_true rfl, Nat.le_of_ble_eq_true rfl, Nat.le_of_ble_eq_true rfl⟩ (Nat.le_of_ble_eq_true rfl) rfl rfl rfl rfl ?_
    refine zi_istore [(11, .int (bI q_18.1)), (10, .int q_16.1), (0, .ref a0), (1, .int x1), (2, .int x2), (3, .int x3), (4, .int x4), (5, .int x5), (6, .int x6), (7, .int x7), (8, .int x8), (9, .int x9)] d_Mo_cleared_103 (by decide) rfl ?_
    refine zi_iload 9 d_Mo_cleared_105 rfl ?_
    refine zi_if_eq (tgt := 129) d_Mo_cleared_107 rfl (fun c_19 => ?_) (fun c_19 => ?_)
    · rw [if_pos c_19] at h
      refine zi_lo [(0, .ref a0), (1, .int x1), (2, .int x2), (3, .int x3), (4, .int x4), (5, .int x5), (6, .int x6), (8, .int x8), (9, .int x9), (10, .int q_16.1), (11, .int (bI q_18.1))] [2, 3, 4, 5, 6, 7, 8, 10, 11, 1, 0] rfl ?_
      exact K_Mo_cleared_b129 n E S r47 r63 a0 x1 x2 x3 x4 x5 x6 x8 x9 q_16.1 (bI q_18.1) q_18.2 r M' hr47 hr63 h
    · rw [if_neg c_19] at h
      refine zi_iload 0 d_Mo_cleared_110 rfl ?_
      refine zi_if_ne (tgt := 125) d_Mo_cleared_112 rfl (fun c_20 => ?_) (fun c_20 => ?_)
      · rw [if_neg c_20] at h
        refine zi_lo [(0, .ref a0), (1, .int x1), (2, .int x2), (3, .int x3), (4, .int x4), (5, .int x5), (6, .int x6), (8, .int x8), (9, .int x9), (10, .int q_16.1), (11, .int (bI q_18.1))] [2, 3, 4, 5, 6, 7, 8, 10, 11, 1, 0] rfl ?_
        exact K_Mo_cleared_b125 n E S r47 r63 a0 x1 x2 x3 x4 x5 x6 x8 x9 q_16.1 (bI q_18.1) q_18.2 r M' hr47 hr63 h
      · rw [if_pos c_20] at h
        refine zi_iload 8 d_Mo_cleared_115 rfl ?_
        refine zi_iload 11 d_Mo_cleared_117 rfl ?_
        obtain ⟨q_21, eq_21, h⟩ := zbind h
        refine zo_stat (k' := 0) (n' := 0) 122 [.int x6, .int x9] [] [.int (bI q_21.1)] (C_Mo_is n E S x6 x9 q_18.2 q_21.1 q_21.2 eq_21) d_Mo_cleared_119 tw_1442 tw_1440 tw_1441 tw_13 dd_Mo_is ⟨Nat.le_of_ble_eq_true rfl, Nat.le_of_ble_eq_true rfl, Nat.le_of_ble_eq_true rfl, Nat.le_of_ble_eq_true rfl⟩ (Nat.le_of_ble_eq_true rfl) rfl rfl rfl rfl ?_
        refine zo_ifneB d_Mo_cleared_122 rfl 125 rfl (fun c_22 => ?_) (fun c_22 => ?_)
        · rw [if_pos c_22] at h
          refine zi_lo [(0, .ref a0), (1, .int x1), (2, .int x2), (3, .int x3), (4, .int x4), (5, .int x5), (6, .int x6), (8, .int x8), (9, .int x9), (10, .int q_16.1), (11, .int (bI q_18.1))] [2, 3, 4, 5, 6, 7, 8, 10, 11, 1, 0] rfl ?_
          exact K_Mo_cleared_b129 n E S r47 r63 a0 x1 x2 x3 x4 x5 x6 x8 x9 q_16.1 (bI q_18.1) q_21.2 r M' hr47 hr63 h
        · rw [if_neg c_22] at h
          refine zi_lo [(0, .ref a0), (1, .int x1), (2, .int x2), (3, .int x3), (4, .int x4), (5, .int x5), (6, .int x6), (8, .int x8), (9, .int x9), (10, .int q_16.1), (11, .int (bI q_18.1))] [2, 3, 4, 5, 6, 7, 8, 10, 11, 1, 0] rfl ?_
          exact K_Mo_cleared_b125 n E S r47 r63 a0 x1 x2 x3 x4 x5 x6 x8 x9 q_16.1 (bI q_18.1) q_21.2 r M' hr47 hr63 h
theorem K_Mo_cleared_b63 (n : Nat) (E : zE) (S : zS) (r47 : Nat × Int32 × Int32 × Int32 × Int32 × Int32 × Int32 × zH → Option (Int32 × zH)) (a0 : Nat) (x1 : Int32) (x2 : Int32) (x3 : Int32) (x4 : Int32) (x5 : Int32) (x6 : Int32) (x7 : Int32) (x8 : Int32) (x9 : Int32) (M : zH) (r : Int32) (M' : zH) (hr47 : ∀ (a0 : Nat) (x1 : Int32) (x2 : Int32) (x3 : Int32) (x4 : Int32) (x5 : Int32) (x6 : Int32) (M : zH), r47 (a0, x1, x2, x3, x4, x5, x6, M) = some (r, M') → zG E Y_Mo_cleared (some (.int r), S, M') 47 [(0, .ref a0), (1, .int x1), (2, .int x2), (3, .int x3), (4, .int x4), (5, .int x5), (6, .int x6)] [] S M 0 0) (h : F_Mo_cleared_b63 n E S r47 (a0, x1, x2, x3, x4, x5, x6, x7, x8, x9, M) = some (r, M')) : zG E Y_Mo_cleared (some (.int r), S, M') 63 [(0, .ref a0), (1, .int x1), (2, .int x2), (3, .int x3), (4, .int x4), (5, .int x5), (6, .int x6), (7, .int x7), (8, .int x8), (9, .int x9)] [] S M 0 0 := by
  have key : ∀ (k : Nat) (a0 : Nat) (x1 : Int32) (x2 : Int32) (x3 : Int32) (x4 : Int32) (x5 : Int32) (x6 : Int32) (x7 : Int32) (x8 : Int32) (x9 : Int32) (M : zH), zfix (fun r63 s => F_Mo_cleared_L63 n E S r47 r63 s.1 s.2.1 s.2.2.1 s.2.2.2.1 s.2.2.2.2.1 s.2.2.2.2.2.1 s.2.2.2.2.2.2.1 s.2.2.2.2.2.2.2.1 s.2.2.2.2.2.2.2.2.1 s.2.2.2.2.2.2.2.2.2.1 s.2.2.2.2.2.2.2.2.2.2) k (a0, x1, x2, x3, x4, x5, x6, x7, x8, x9, M) = some (r, M') → zG E Y_Mo_cleared (some (.int r), S, M') 63 [(0, .ref a0), (1, .int x1), (2, .int x2), (3, .int x3), (4, .int x4), (5, .int x5), (6, .int x6), (7, .int x7), (8, .int x8), (9, .int x9)] [] S M 0 0 := by
    intro k
    induction k with
    | zero => intro a0 x1 x2 x3 x4 x5 x6 x7 x8 x9 M h; cases h
    | succ k ih => intro a0 x1 x2 x3 x4 x5 x6 x7 x8 x9 M h; exact K_Mo_cleared_L63 n E S r47 _ a0 x1 x2 x3 x4 x5 x6 x7 x8 x9 M r M' hr47 (fun a0 x1 x2 x3 x4 x5 x6 x7 x8 x9 M h => ih a0 x1 x2 x3 x4 x5 x6 x7 x8 x9 M h) h
  exact key n a0 x1 x2 x3 x4 x5 x6 x7 x8 x9 M h
theorem K_Mo_cleared_b247 (n : Nat) (E : zE) (S : zS) (x5 : Int32) (M : zH) (r : Int32) (M' : zH)  (h : F_Mo_cleared_b247 n E S x5 M = some (r, M')) : zG E Y_Mo_cleared (some (.int r), S, M') 247 [(5, .int x5)] [] S M 0 0 := by
  unfold F_Mo_cleared_b247 at h
  refine zi_iload 0 d_Mo_cleared_247 rfl ?_
  refine zi_goto (tgt := 254) d_Mo_cleared_249 rfl ?_
  cases h
  exact zo_ret d_Mo_cleared_254 (Nat.le_of_ble_eq_true rfl) (Nat.le_of_ble_eq_true rfl) rfl
theorem K_Mo_cleared_L47 (n : Nat) (E : zE) (S : zS) (r47 : Nat × Int32 × Int32 × Int32 × Int32 × Int32 × Int32 × zH → Option (Int32 × zH)) (a0 : Nat) (x1 : Int32) (x2 : Int32) (x3 : Int32) (x4 : Int32) (x5 : Int32) (x6 : Int32) (M : zH) (r : Int32) (M' : zH) (hr47 : ∀ (a0 : Nat) (x1 : Int32) (x2 : Int32) (x3 : Int32) (x4 : Int32) (x5 : Int32) (x6 : Int32) (M : zH), r47 (a0, x1, x2, x3, x4, x5, x6, M) = some (r, M') → zG E Y_Mo_cleared (some (.int r), S, M') 47 [(0, .ref a0), (1, .int x1), (2, .int x2), (3, .int x3), (4, .int x4), (5, .int x5), (6, .int x6)] [] S M 0 0) (h : F_Mo_cleared_L47 n E S r47 a0 x1 x2 x3 x4 x5 x6 M = some (r, M')) : zG E Y_Mo_cleared (some (.int r), S, M') 47 [(0, .ref a0), (1, .int x1), (2, .int x2), (3, .int x3), (4, .int x4), (5, .int x5), (6, .int x6)] [] S M 0 0 := by
  unfold F_Mo_cleared_L47 at h
  refine zi_iload 6 d_Mo_cleared_47 rfl ?_
  refine zi_bipush 16 d_Mo_cleared_49 rfl ?_
  refine zi_icmp_ge (tgt := 236) d_Mo_cleared_51 rfl (fun c_23 => ?_) (fun c_23 => ?_)
  · rw [if_pos c_23] at h
    refine zi_iload 5 d_Mo_cleared_236 rfl ?_
    refine zi_iconst (-1) d_Mo_cleared_238 rfl ?_
    refine zi_icmp_eq (tgt := 247) d_Mo_cleared_239 rfl (fun c_24 => ?_) (fun c_24 => ?_)
    · rw [if_pos c_24] at h
      refine zi_lo [(5, .int x5)] [5] rfl ?_
      exact K_Mo_cleared_b247 n E S x5 M r M'  h
    · rw [if_neg c_24] at h
      refine zi_iload_n 3 d_Mo_cleared_242 rfl ?_
      refine zi_iconst 1 d_Mo_cleared_243 rfl ?_
      refine zi_icmp_ne (tgt := 252) d_Mo_cleared_244 rfl (fun c_25 => ?_) (fun c_25 => ?_)
      · rw [if_neg c_25] at h
        refine zi_iload 4 d_Mo_cleared_252 rfl ?_
        cases h
        exact zo_ret d_Mo_cleared_254 (Nat.le_of_ble_eq_true rfl) (Nat.le_of_ble_eq_true rfl) rfl
      · rw [if_pos c_25] at h
        refine zi_lo [(5, .int x5)] [5] rfl ?_
        exact K_Mo_cleared_b247 n E S x5 M r M'  h
  · rw [if_neg c_23] at h
    refine zi_iconst 1 d_Mo_cleared_54 rfl ?_
    refine zi_istore [(7, .int 1), (0, .ref a0), (1, .int x1), (2, .int x2), (3, .int x3), (4, .int x4), (5, .int x5), (6, .int x6)] d_Mo_cleared_55 (by decide) rfl ?_
    refine zi_iconst 0 d_Mo_cleared_57 rfl ?_
    refine zi_istore [(8, .int 0), (7, .int 1), (0, .ref a0), (1, .int x1), (2, .int x2), (3, .int x3), (4, .int x4), (5, .int x5), (6, .int x6)] d_Mo_cleared_58 (by decide) rfl ?_
    refine zi_iconst 0 d_Mo_cleared_60 rfl ?_
    refine zi_istore [(9, .int 0), (8, .int 0), (7, .int 1), (0, .ref a0), (1, .int x1), (2, .int x2), (3, .int x3), (4, .int x4), (5, .int x5), (6, .int x6)] d_Mo_cleared_61 (by decide) rfl ?_
    refine zi_lo [(0, .ref a0), (1, .int x1), (2, .int x2), (3, .int x3), (4, .int x4), (5, .int x5), (6, .int x6), (7, .int 1), (8, .int 0), (9, .int 0)] [3, 4, 5, 6, 7, 8, 9, 2, 1, 0] rfl ?_
    exact K_Mo_cleared_b63 n E S r47 a0 x1 x2 x3 x4 x5 x6 1 0 0 M r M' hr47 h
theorem K_Mo_cleared_b47 (n : Nat) (E : zE) (S : zS) (a0 : Nat) (x1 : Int32) (x2 : Int32) (x3 : Int32) (x4 : Int32) (x5 : Int32) (x6 : Int32) (M : zH) (r : Int32) (M' : zH)  (h : F_Mo_cleared_b47 n E S (a0, x1, x2, x3, x4, x5, x6, M) = some (r, M')) : zG E Y_Mo_cleared (some (.int r), S, M') 47 [(0, .ref a0), (1, .int x1), (2, .int x2), (3, .int x3), (4, .int x4), (5, .int x5), (6, .int x6)] [] S M 0 0 := by
  have key : ∀ (k : Nat) (a0 : Nat) (x1 : Int32) (x2 : Int32) (x3 : Int32) (x4 : Int32) (x5 : Int32) (x6 : Int32) (M : zH), zfix (fun r47 s => F_Mo_cleared_L47 n E S r47 s.1 s.2.1 s.2.2.1 s.2.2.2.1 s.2.2.2.2.1 s.2.2.2.2.2.1 s.2.2.2.2.2.2.1 s.2.2.2.2.2.2.2) k (a0, x1, x2, x3, x4, x5, x6, M) = some (r, M') → zG E Y_Mo_cleared (some (.int r), S, M') 47 [(0, .ref a0), (1, .int x1), (2, .int x2), (3, .int x3), (4, .int x4), (5, .int x5), (6, .int x6)] [] S M 0 0 := by
    intro k
    induction k with
    | zero => intro a0 x1 x2 x3 x4 x5 x6 M h; cases h
    | succ k ih => intro a0 x1 x2 x3 x4 x5 x6 M h; exact K_Mo_cleared_L47 n E S _ a0 x1 x2 x3 x4 x5 x6 M r M'  (fun a0 x1 x2 x3 x4 x5 x6 M h => ih a0 x1 x2 x3 x4 x5 x6 M h) h
  exact key n a0 x1 x2 x3 x4 x5 x6 M h
theorem K_Mo_cleared (n : Nat) (E : zE) (S : zS) (a0 : Nat) (x1 : Int32) (x2 : Int32) (x3 : Int32) (M : zH) (r : Int32) (M' : zH)  (h : F_Mo_cleared n E S a0 x1 x2 x3 M = some (r, M')) : zG E Y_Mo_cleared (some (.int r), S, M') 0 [(0, .ref a0), (1, .int x1), (2, .int x2), (3, .int x3)] [] S M 0 0 := by
  unfold F_Mo_cleared at h
  refine zi_aload_n 0 d_Mo_cleared_0 rfl ?_
  refine zi_iconst 0 d_Mo_cleared_1 rfl ?_
  obtain ⟨m_26, em_26, h⟩ := zbind h
  refine zo_putI 5 zkd_11 0 d_Mo_cleared_2 em_26 rfl rfl rfl tw_1229 rfl ?_
  refine zi_iload_n 1 d_Mo_cleared_5 rfl ?_
  obtain ⟨q_27, eq_27, h⟩ := zbind h
  refine zo_stat (k' := 0) (n' := 0) 9 [.int x1] [] [.int (bI q_27.1)] (C_Mo_isField n E S x1 m_26 q_27.1 q_27.2 eq_27) d_Mo_cleared_6 tw_1438 tw_1436 tw_1437 tw_13 dd_Mo_isField ⟨Nat.le_of_ble_eq_true rfl, Nat.le_of_ble_eq_true rfl, Nat.le_of_ble_eq_true rfl, Nat.le_of_ble_eq_true rfl⟩ (Nat.le_of_ble_eq_true rfl) rfl rfl rfl rfl ?_
  refine zo_ifeqB d_Mo_cleared_9 rfl 12 rfl (fun c_28 => ?_) (fun c_28 => ?_)
  · rw [if_neg c_28] at h
    refine zi_iconst (-1) d_Mo_cleared_34 rfl ?_
    cases h
    exact zo_ret d_Mo_cleared_35 (Nat.le_of_ble_eq_true rfl) (Nat.le_of_ble_eq_true rfl) rfl
  · rw [if_pos c_28] at h
    refine zi_iload_n 2 d_Mo_cleared_12 rfl ?_
    refine zi_i2l d_Mo_cleared_13 ?_
    refine zi_lconst 0 d_Mo_cleared_14 rfl ?_
    refine zi_ldc2 d_Mo_cleared_15 tw_1515 ?_
    obtain ⟨q_29, eq_29, h⟩ := zbind h
    refine zo_stat (k' := 0) (n' := 0) 21 [.long x2.toInt64, .long 0, .long 400] [] [.int (bI q_29.1)] (C_Mo_in n E S x2.toInt64 0 400 q_27.2 q_29.1 q_29.2 eq_29) d_Mo_cleared_18 tw_1419 tw_1417 tw_1418 tw_13 dd_Mo_in ⟨Nat.le_of_ble_eq_true rfl, Nat.le_of_ble_eq_true rfl, Nat.le_of_ble_eq_true rfl, Nat.le_of_ble_eq_true rfl⟩ (Nat.le_of_ble_eq_true rfl) rfl rfl rfl rfl ?_
    refine zo_ifeqB d_Mo_cleared_21 rfl 24 rfl (fun c_30 => ?_) (fun c_30 => ?_)
    · rw [if_neg c_30] at h
      refine zi_iconst (-1) d_Mo_cleared_34 rfl ?_
      cases h
      exact zo_ret d_Mo_cleared_35 (Nat.le_of_ble_eq_true rfl) (Nat.le_of_ble_eq_true rfl) rfl
    · rw [if_pos c_30] at h
      refine zi_iload_n 3 d_Mo_cleared_24 rfl ?_
      refine zi_i2l d_Mo_cleared_25 ?_
      refine zi_lconst 0 d_Mo_cleared_26 rfl ?_
      refine zi_lconst 1 d_Mo_cleared_27 rfl ?_
      obtain ⟨q_31, eq_31, h⟩ := zbind h
      refine zo_stat (k' := 0) (n' := 0) 31 [.long x3.toInt64, .long 0, .long 1] [] [.int (bI q_31.1)] (C_Mo_in n E S x3.toInt64 0 1 q_29.2 q_31.1 q_31.2 eq_31) d_Mo_cleared_28 tw_1419 tw_1417 tw_1418 tw_13 dd_Mo_in ⟨Nat.le_of_ble_eq_true rfl, Nat.le_of_ble_eq_true rfl, Nat.le_of_ble_eq_true rfl, Nat.le_of_ble_eq_true rfl⟩ (Nat.le_of_ble_eq_true rfl) rfl rfl rfl rfl ?_
      refine zo_ifneB d_Mo_cleared_31 rfl 34 rfl (fun c_32 => ?_) (fun c_32 => ?_)
      · rw [if_pos c_32] at h
        refine zi_ldcw d_Mo_cleared_36 tw_1799 ?_
        refine zi_istore [(4, .int 100000000), (0, .ref a0), (1, .int x1), (2, .int x2), (3, .int x3)] d_Mo_cleared_39 (by decide) rfl ?_
        refine zi_iconst (-1) d_Mo_cleared_41 rfl ?_
        refine zi_istore [(5, .int (-1)), (4, .int 100000000), (0, .ref a0), (1, .int x1), (2, .int x2), (3, .int x3)] d_Mo_cleared_42 (by decide) rfl ?_
        refine zi_iconst 0 d_Mo_cleared_44 rfl ?_
        refine zi_istore [(6, .int 0), (5, .int (-1)), (4, .int 100000000), (0, .ref a0), (1, .int x1), (2, .int x2), (3, .int x3)] d_Mo_cleared_45 (by decide) rfl ?_
        refine zi_lo [(0, .ref a0), (1, .int x1), (2, .int x2), (3, .int x3), (4, .int 100000000), (5, .int (-1)), (6, .int 0)] [3, 4, 5, 6, 2, 1, 0] rfl ?_
        exact K_Mo_cleared_b47 n E S a0 x1 x2 x3 100000000 (-1) 0 q_31.2 r M'  h
      · rw [if_neg c_32] at h
        refine zi_iconst (-1) d_Mo_cleared_34 rfl ?_
        cases h
        exact zo_ret d_Mo_cleared_35 (Nat.le_of_ble_eq_true rfl) (Nat.le_of_ble_eq_true rfl) rfl
theorem C_Mo_cleared (n : Nat) (E : zE) (S : zS) (a0 : Nat) (x1 : Int32) (x2 : Int32) (x3 : Int32) (M : zH) (r : Int32) (M' : zH) (h : F_Mo_cleared n E S a0 x1 x2 x3 M = some (r, M')) : zC E Y_Mo_cleared [.ref a0, .int x1, .int x2, .int x3] S M (some (.int r), S, M') :=
  zC.of (Or.inl (show plainName "NightColanderModel" = true by decide)) (Nat.le_of_ble_eq_true rfl) (trivial) (K_Mo_cleared n E S a0 x1 x2 x3 M r M' h)
theorem d_Mo_drought_0 : decode (yB Y_Mo_drought) 0 = .ok (.aload_n 0, 1) := by decide +kernel
theorem d_Mo_drought_1 : decode (yB Y_Mo_drought) 1 = .ok (.iconst 0, 1) := by decide +kernel
theorem d_Mo_drought_2 : decode (yB Y_Mo_drought) 2 = .ok (.putfield 156, 3) := by decide +kernel
theorem d_Mo_drought_5 : decode (yB Y_Mo_drought) 5 = .ok (.iload_n 1, 1) := by decide +kernel
theorem d_Mo_drought_6 : decode (yB Y_Mo_drought) 6 = .ok (.invokestatic 194, 3) := by decide +kernel
theorem d_Mo_drought_9 : decode (yB Y_Mo_drought) 9 = .ok (.ifCond .ne 5, 3) := by decide +kernel
theorem d_Mo_drought_12 : decode (yB Y_Mo_drought) 12 = .ok (.iconst (-1), 1) := by decide +kernel
theorem d_Mo_drought_13 : decode (yB Y_Mo_drought) 13 = .ok (.ireturn, 1) := by decide +kernel
theorem d_Mo_drought_14 : decode (yB Y_Mo_drought) 14 = .ok (.aload_n 0, 1) := by decide +kernel
theorem d_Mo_drought_15 : decode (yB Y_Mo_drought) 15 = .ok (.bipush 16, 2) := by decide +kernel
theorem d_Mo_drought_17 : decode (yB Y_Mo_drought) 17 = .ok (.invokevirtual 169, 3) := by decide +kernel
theorem d_Mo_drought_20 : decode (yB Y_Mo_drought) 20 = .ok (.iconst 0, 1) := by decide +kernel
theorem d_Mo_drought_21 : decode (yB Y_Mo_drought) 21 = .ok (.istore_n 2, 1) := by decide +kernel
theorem d_Mo_drought_22 : decode (yB Y_Mo_drought) 22 = .ok (.iconst 0, 1) := by decide +kernel
theorem d_Mo_drought_23 : decode (yB Y_Mo_drought) 23 = .ok (.istore_n 3, 1) := by decide +kernel
theorem d_Mo_drought_24 : decode (yB Y_Mo_drought) 24 = .ok (.iconst 0, 1) := by decide +kernel
theorem d_Mo_drought_25 : decode (yB Y_Mo_drought) 25 = .ok (.istore 4, 2) := by decide +kernel
theorem d_Mo_drought_27 : decode (yB Y_Mo_drought) 27 = .ok (.iload 4, 2) := by decide +kernel
theorem d_Mo_drought_29 : decode (yB Y_Mo_drought) 29 = .ok (.bipush 60, 2) := by decide +kernel
theorem d_Mo_drought_31 : decode (yB Y_Mo_drought) 31 = .ok (.if_icmp .ge 40, 3) := by decide +kernel
theorem d_Mo_drought_34 : decode (yB Y_Mo_drought) 34 = .ok (.aload_n 0, 1) := by decide +kernel
theorem d_Mo_drought_35 : decode (yB Y_Mo_drought) 35 = .ok (.iload_n 1, 1) := by decide +kernel
theorem d_Mo_drought_36 : decode (yB Y_Mo_drought) 36 = .ok (.invokevirtual 232, 3) := by decide +kernel
theorem d_Mo_drought_39 : decode (yB Y_Mo_drought) 39 = .ok (.ifCond .ne 9, 3) := by decide +kernel
theorem d_Mo_drought_42 : decode (yB Y_Mo_drought) 42 = .ok (.iload_n 3, 1) := by decide +kernel
theorem d_Mo_drought_43 : decode (yB Y_Mo_drought) 43 = .ok (.iconst 1, 1) := by decide +kernel
theorem d_Mo_drought_44 : decode (yB Y_Mo_drought) 44 = .ok (.iadd, 1) := by decide +kernel
theorem d_Mo_drought_45 : decode (yB Y_Mo_drought) 45 = .ok (.goto 4, 3) := by decide +kernel
theorem d_Mo_drought_48 : decode (yB Y_Mo_drought) 48 = .ok (.iconst 0, 1) := by decide +kernel
theorem d_Mo_drought_49 : decode (yB Y_Mo_drought) 49 = .ok (.istore_n 3, 1) := by decide +kernel
theorem d_Mo_drought_50 : decode (yB Y_Mo_drought) 50 = .ok (.iload_n 3, 1) := by decide +kernel
theorem d_Mo_drought_51 : decode (yB Y_Mo_drought) 51 = .ok (.iload_n 2, 1) := by decide +kernel
theorem d_Mo_drought_52 : decode (yB Y_Mo_drought) 52 = .ok (.if_icmp .le 7, 3) := by decide +kernel
theorem d_Mo_drought_55 : decode (yB Y_Mo_drought) 55 = .ok (.iload_n 3, 1) := by decide +kernel
theorem d_Mo_drought_56 : decode (yB Y_Mo_drought) 56 = .ok (.goto 4, 3) := by decide +kernel
theorem d_Mo_drought_59 : decode (yB Y_Mo_drought) 59 = .ok (.iload_n 2, 1) := by decide +kernel
theorem d_Mo_drought_60 : decode (yB Y_Mo_drought) 60 = .ok (.istore_n 2, 1) := by decide +kernel
theorem d_Mo_drought_61 : decode (yB Y_Mo_drought) 61 = .ok (.aload_n 0, 1) := by decide +kernel
theorem d_Mo_drought_62 : decode (yB Y_Mo_drought) 62 = .ok (.invokevirtual 463, 3) := by decide +kernel
theorem d_Mo_drought_65 : decode (yB Y_Mo_drought) 65 = .ok (.iinc 4 1, 3) := by decide +kernel
theorem d_Mo_drought_68 : decode (yB Y_Mo_drought) 68 = .ok (.goto (-41), 3) := by decide +kernel
theorem d_Mo_drought_71 : decode (yB Y_Mo_drought) 71 = .ok (.aload_n 0, 1) := by decide +kernel
theorem d_Mo_drought_72 : decode (yB Y_Mo_drought) 72 = .ok (.bipush 16, 2) := by decide +kernel
theorem d_Mo_drought_74 : decode (yB Y_Mo_drought) 74 = .ok (.invokevirtual 173, 3) := by decide +kernel
theorem d_Mo_drought_77 : decode (yB Y_Mo_drought) 77 = .ok (.iload_n 2, 1) := by decide +kernel
theorem d_Mo_drought_78 : decode (yB Y_Mo_drought) 78 = .ok (.ireturn, 1) := by decide +kernel
def F_Mo_drought_b60 (n : Nat) (E : zE) (S : zS) (r27 : Nat × Int32 × Int32 × Int32 × Int32 × zH → Option (Int32 × zH)) (a0 : Nat) (x1 : Int32) (x3 : Int32) (x4 : Int32) (s0 : Int32) (M : zH) : Option (Int32 × zH) :=
  (zck S a0 11).bind fun u_1 =>
  (F_Mo_turnAll n E S a0 M).bind fun q_2 =>
  r27 (a0, x1, s0, x3, x4 + 1, q_2)
def F_Mo_drought_b49 (n : Nat) (E : zE) (S : zS) (r27 : Nat × Int32 × Int32 × Int32 × Int32 × zH → Option (Int32 × zH)) (a0 : Nat) (x1 : Int32) (x2 : Int32) (x4 : Int32) (s0 : Int32) (M : zH) : Option (Int32 × zH) :=
  if s0 ≤ x2 then
    F_Mo_drought_b60 n E S r27 a0 x1 s0 x4 x2 M
  else
    F_Mo_drought_b60 n E S r27 a0 x1 s0 x4 s0 M
def F_Mo_drought_L27 (n : Nat) (E : zE) (S : zS) (r27 : Nat × Int32 × Int32 × Int32 × Int32 × zH → Option (Int32 × zH)) (a0 : Nat) (x1 : Int32) (x2 : Int32) (x3 : Int32) (x4 : Int32) (M : zH) : Option (Int32 × zH) :=
  if 60 ≤ x4 then
    (zck S a0 11).bind fun u_5 =>
    (F_Mo_putBack n E S a0 16 M).bind fun q_6 =>
    some (x2, q_6)
  else
    (zck S a0 11).bind fun u_7 =>
    (F_Mo_flowOn n E S a0 x1 M).bind fun q_8 =>
    if q_8.1 = 0 then
      F_Mo_drought_b49 n E S r27 a0 x1 x2 x4 (x3 + 1) q_8.2
    else
      F_Mo_drought_b49 n E S r27 a0 x1 x2 x4 0 q_8.2
def F_Mo_drought_b27 (n : Nat) (E : zE) (S : zS) : Nat × Int32 × Int32 × Int32 × Int32 × zH → Option (Int32 × zH) := zfix (fun r27 s => F_Mo_drought_L27 n E S r27 s.1 s.2.1 s.2.2.1 s.2.2.2.1 s.2.2.2.2.1 s.2.2.2.2.2) n
def F_Mo_drought (n : Nat) (E : zE) (S : zS) (a0 : Nat) (x1 : Int32) (M : zH) : Option (Int32 × zH) :=
  (zpI S M a0 11 0 0).bind fun m_10 =>
  (F_Mo_isField n E S x1 m_10).bind fun q_11 =>
  if q_11.1 = true then
    (zck S a0 11).bind fun u_13 =>
    (F_Mo_keepAll n E S a0 16 q_11.2).bind fun q_14 =>
    F_Mo_drought_b27 n E S (a0, x1, 0, 0, 0, q_14)
  else
    some ((-1), q_11.2)
theorem K_Mo_drought_b60 (n : Nat) (E : zE) (S : zS) (r27 : Nat × Int32 × Int32 × Int32 × Int32 × zH → Option (Int32 × zH)) (a0 : Nat) (x1 : Int32) (x3 : Int32) (x4 : Int32) (s0 : Int32) (M : zH) (r : Int32) (M' : zH) (hr27 : ∀ (a0 : Nat) (x1 : Int32) (x2 : Int32) (x3 : Int32) (x4 : Int32) (M : zH), r27 (a0, x1, x2, x3, x4, M) = some (r, M') → zG E Y_Mo_drought (some (.int r), S, M') 27 [(0, .ref a0), (1, .int x1), (2, .int x2), (3, .int x3), (4, .int x4)] [] S M 0 0) (h : F_Mo_drought_b60 n E S r27 a0 x1 x3 x4 s0 M = some (r, M')) : zG E Y_Mo_drought (some (.int r), S, M') 60 [(0, .ref a0), (1, .int x1), (3, .int x3), (4, .int x4)] [.int s0] S M 0 0 := by
  unfold F_Mo_drought_b60 at h
  refine zi_istore_n [(2, .int s0), (0, .ref a0), (1, .int x1), (3, .int x3), (4, .int x4)] d_Mo_drought_60 (by decide) rfl ?_
  refine zi_aload_n 1 d_Mo_drought_61 rfl ?_
  obtain ⟨u_1, eu_1, h⟩ := zbind h
  obtain ⟨q_2, eq_2, h⟩ := zbind h
  refine zo_virt (k' := 0) (n' := 0) 65 [] [] [] zkd_11 (zck_s eu_1) (C_Mo_turnAll n E S a0 M q_2 eq_2) d_Mo_drought_62 tw_1744 tw_1741 tw_1743 ts_87 tw_13 dd_Mo_turnAll ⟨Nat.le_of_ble_eq_true rfl, Nat.le_of_ble_eq_true rfl, Nat.le_of_ble_eq_true rfl, Nat.le_of_ble_eq_true rfl⟩ (Nat.le_of_ble_eq_true rfl) rfl rfl rfl rfl ?_
  refine zi_iinc 4 (x4 + 1) [(4, .int (x4 + 1)), (2, .int s0), (0, .ref a0), (1, .int x1), (3, .int x3)] d_Mo_drought_65 rfl rfl (by decide) rfl ?_
  refine zi_goto (tgt := 27) d_Mo_drought_68 rfl ?_
  refine zi_lo [(0, .ref a0), (1, .int x1), (2, .int s0), (3, .int x3), (4, .int (x4 + 1))] [2, 3, 1, 4, 0] rfl ?_
  exact hr27 a0 x1 s0 x3 (x4 + 1) q_2 h
theorem K_Mo_drought_b49 (n : Nat) (E : zE) (S : zS) (r27 : Nat × Int32 × Int32 × Int32 × Int32 × zH → Option (Int32 × zH)) (a0 : Nat) (x1 : Int32) (x2 : Int32) (x4 : Int32) (s0 : Int32) (M : zH) (r : Int32) (M' : zH) (hr27 : ∀ (a0 : Nat) (x1 : Int32) (x2 : Int32) (x3 : Int32) (x4 : Int32) (M : zH), r27 (a0, x1, x2, x3, x4, M) = some (r, M') → zG E Y_Mo_drought (some (.int r), S, M') 27 [(0, .ref a0), (1, .int x1), (2, .int x2), (3, .int x3), (4, .int x4)] [] S M 0 0) (h : F_Mo_drought_b49 n E S r27 a0 x1 x2 x4 s0 M = some (r, M')) : zG E Y_Mo_drought (some (.int r), S, M') 49 [(0, .ref a0), (1, .int x1), (2, .int x2), (4, .int x4)] [.int s0] S M 0 0 := by
  unfold F_Mo_drought_b49 at h
  refine zi_istore_n [(3, .int s0), (0, .ref a0), (1, .int x1), (2, .int x2), (4, .int x4)] d_Mo_drought_49 (by decide) rfl ?_
  refine zi_iload_n 0 d_Mo_drought_50 rfl ?_
  refine zi_iload_n 3 d_Mo_drought_51 rfl ?_
  refine zi_icmp_le (tgt := 59) d_Mo_drought_52 rfl (fun c_3 => ?_) (fun c_3 => ?_)
  · rw [if_pos c_3] at h
    refine zi_iload_n 3 d_Mo_drought_59 rfl ?_
    refine zi_lo [(0, .ref a0), (1, .int x1), (3, .int s0), (4, .int x4)] [1, 2, 0, 4] rfl ?_
    exact K_Mo_drought_b60 n E S r27 a0 x1 s0 x4 x2 M r M' hr27 h
  · rw [if_neg c_3] at h
    refine zi_iload_n 0 d_Mo_drought_55 rfl ?_
    refine zi_goto (tgt := 60) d_Mo_drought_56 rfl ?_
    refine zi_lo [(0, .ref a0), (1, .int x1), (3, .int s0), (4, .int x4)] [1, 2, 0, 4] rfl ?_
    exact K_Mo_drought_b60 n E S r27 a0 x1 s0 x4 s0 M r M' hr27 h
theorem K_Mo_drought_L27 (n : Nat) (E : zE) (S : zS) (r27 : Nat × Int32 × Int32 × Int32 × Int32 × zH → Option (Int32 × zH)) (a0 : Nat) (x1 : Int32) (x2 : Int32) (x3 : Int32) (x4 : Int32) (M : zH) (r : Int32) (M' : zH) (hr27 : ∀ (a0 : Nat) (x1 : Int32) (x2 : Int32) (x3 : Int32) (x4 : Int32) (M : zH), r27 (a0, x1, x2, x3, x4, M) = some (r, M') → zG E Y_Mo_drought (some (.int r), S, M') 27 [(0, .ref a0), (1, .int x1), (2, .int x2), (3, .int x3), (4, .int x4)] [] S M 0 0) (h : F_Mo_drought_L27 n E S r27 a0 x1 x2 x3 x4 M = some (r, M')) : zG E Y_Mo_drought (some (.int r), S, M') 27 [(0, .ref a0), (1, .int x1), (2, .int x2), (3, .int x3), (4, .int x4)] [] S M 0 0 := by
  unfold F_Mo_drought_L27 at h
  refine zi_iload 4 d_Mo_drought_27 rfl ?_
  refine zi_bipush 60 d_Mo_drought_29 rfl ?_
  refine zi_icmp_ge (tgt := 71) d_Mo_drought_31 rfl (fun c_4 => ?_) (fun c_4 => ?_)
  · rw [if_pos c_4] at h
    refine zi_aload_n 0 d_Mo_drought_71 rfl ?_
    refine zi_bipush 16 d_Mo_drought_72 rfl ?_
    obtain ⟨u_5, eu_5, h⟩ := zbind h
    obtain ⟨q_6, eq_6, h⟩ := zbind h
    refine zo_virt (k' := 0) (n' := 0) 77 [.int 16] [] [] zkd_11 (zck_s eu_5) (C_Mo_putBack n E S a0 16 M q_6 eq_6) d_Mo_drought_74 tw_1412 tw_1409 tw_1411 ts_37 tw_13 dd_Mo_putBack ⟨Nat.le_of_ble_eq_true rfl, Nat.le_of_ble_eq_true rfl, Nat.le_of_ble_eq_true rfl, Nat.le_of_ble_eq_true rfl⟩ (Nat.le_of_ble_eq_true rfl) rfl rfl rfl rfl ?_
    refine zi_iload_n 2 d_Mo_drought_77 rfl ?_
    cases h
    exact zo_ret d_Mo_drought_78 (Nat.le_of_ble_eq_true rfl) (Nat.le_of_ble_eq_true rfl) rfl
  · rw [if_neg c_4] at h
    refine zi_aload_n 0 d_Mo_drought_34 rfl ?_
    refine zi_iload_n 1 d_Mo_drought_35 rfl ?_
    obtain ⟨u_7, eu_7, h⟩ := zbind h
    obtain ⟨q_8, eq_8, h⟩ := zbind h
    refine zo_virt (k' := 0) (n' := 0) 39 [.int x1] [] [.int q_8.1] zkd_11 (zck_s eu_7) (C_Mo_flowOn n E S a0 x1 M q_8.1 q_8.2 eq_8) d_Mo_drought_36 tw_1523 tw_1520 tw_1522 ts_51 tw_13 dd_Mo_flowOn ⟨Nat.le_of_ble_eq_true rfl, Nat.le_of_ble_eq_true rfl, Nat.le_of_ble_eq_true rfl, Nat.le_of_ble_eq_true rfl⟩ (Nat.le_of_ble_eq_true rfl) rfl rfl rfl rfl ?_
    refine zi_if_ne (tgt := 48) d_Mo_drought_39 rfl (fun c_9 => ?_) (fun c_9 => ?_)
    · rw [if_neg c_9] at h
      refine zi_iconst 0 d_Mo_drought_48 rfl ?_
      refine zi_lo [(0, .ref a0), (1, .int x1), (2, .int x2), (4, .int x4)] [0, 1, 2, 4] rfl ?_
      exact K_Mo_drought_b49 n E S r27 a0 x1 x2 x4 0 q_8.2 r M' hr27 h
    · rw [if_pos c_9] at h
      refine zi_iload_n 3 d_Mo_drought_42 rfl ?_
      refine zi_iconst 1 d_Mo_drought_43 rfl ?_
      refine zi_iadd d_Mo_drought_44 ?_
      refine zi_goto (tgt := 49) d_Mo_drought_45 rfl ?_
      refine zi_lo [(0, .ref a0), (1, .int x1), (2, .int x2), (4, .int x4)] [0, 1, 2, 4] rfl ?_
      exact K_Mo_drought_b49 n E S r27 a0 x1 x2 x4 (x3 + 1) q_8.2 r M' hr27 h
theorem K_Mo_drought_b27 (n : Nat) (E : zE) (S : zS) (a0 : Nat) (x1 : Int32) (x2 : Int32) (x3 : Int32) (x4 : Int32) (M : zH) (r : Int32) (M' : zH)  (h : F_Mo_drought_b27 n E S (a0, x1, x2, x3, x4, M) = some (r, M')) : zG E Y_Mo_drought (some (.int r), S, M') 27 [(0, .ref a0), (1, .int x1), (2, .int x2), (3, .int x3), (4, .int x4)] [] S M 0 0 := by
  have key : ∀ (k : Nat) (a0 : Nat) (x1 : Int32) (x2 : Int32) (x3 : Int32) (x4 : Int32) (M : zH), zfix (fun r27 s => F_Mo_drought_L27 n E S r27 s.1 s.2.1 s.2.2.1 s.2.2.2.1 s.2.2.2.2.1 s.2.2.2.2.2) k (a0, x1, x2, x3, x4, M) = some (r, M') → zG E Y_Mo_drought (some (.int r), S, M') 27 [(0, .ref a0), (1, .int x1), (2, .int x2), (3, .int x3), (4, .int x4)] [] S M 0 0 := by
    intro k
    induction k with
    | zero => intro a0 x1 x2 x3 x4 M h; cases h
    | succ k ih => intro a0 x1 x2 x3 x4 M h; exact K_Mo_drought_L27 n E S _ a0 x1 x2 x3 x4 M r M'  (fun a0 x1 x2 x3 x4 M h => ih a0 x1 x2 x3 x4 M h) h
  exact key n a0 x1 x2 x3 x4 M h
theorem K_Mo_drought (n : Nat) (E : zE) (S : zS) (a0 : Nat) (x1 : Int32) (M : zH) (r : Int32) (M' : zH)  (h : F_Mo_drought n E S a0 x1 M = some (r, M')) : zG E Y_Mo_drought (some (.int r), S, M') 0 [(0, .ref a0), (1, .int x1)] [] S M 0 0 := by
  unfold F_Mo_drought at h
  refine zi_aload_n 0 d_Mo_drought_0 rfl ?_
  refine zi_iconst 0 d_Mo_drought_1 rfl ?_
  obtain ⟨m_10, em_10, h⟩ := zbind h
  refine zo_putI 5 zkd_11 0 d_Mo_drought_2 em_10 rfl rfl rfl tw_1229 rfl ?_
  refine zi_iload_n 1 d_Mo_drought_5 rfl ?_
  obtain ⟨q_11, eq_11, h⟩ := zbind h
  refine zo_stat (k' := 0) (n' := 0) 9 [.int x1] [] [.int (bI q_11.1)] (C_Mo_isField n E S x1 m_10 q_11.1 q_11.2 eq_11) d_Mo_drought_6 tw_1438 tw_1436 tw_1437 tw_13 dd_Mo_isField ⟨Nat.le_of_ble_eq_true rfl, Nat.le_of_ble_eq_true rfl, Nat.le_of_ble_eq_true rfl, Nat.le_of_ble_eq_true rfl⟩ (Nat.le_of_ble_eq_true rfl) rfl rfl rfl rfl ?_
  refine zo_ifneB d_Mo_drought_9 rfl 12 rfl (fun c_12 => ?_) (fun c_12 => ?_)
  · rw [if_pos c_12] at h
    refine zi_aload_n 0 d_Mo_drought_14 rfl ?_
    refine zi_bipush 16 d_Mo_drought_15 rfl ?_
    obtain ⟨u_13, eu_13, h⟩ := zbind h
    obtain ⟨q_14, eq_14, h⟩ := zbind h
    refine zo_virt (k' := 0) (n' := 0) 20 [.int 16] [] [] zkd_11 (zck_s eu_13) (C_Mo_keepAll n E S a0 16 q_11.2 q_14 eq_14) d_Mo_drought_17 tw_1704 tw_1701 tw_1703 ts_80 tw_13 dd_Mo_keepAll ⟨Nat.le_of_ble_eq_true rfl, Nat.le_of_ble_eq_true rfl, Nat.le_of_ble_eq_true rfl, Nat.le_of_ble_eq_true rfl⟩ (Nat.le_of_ble_eq_true rfl) rfl rfl rfl rfl ?_
    refine zi_iconst 0 d_Mo_drought_20 rfl ?_
    refine zi_istore_n [(2, .int 0), (0, .ref a0), (1, .int x1)] d_Mo_drought_21 (by decide) rfl ?_
    refine zi_iconst 0 d_Mo_drought_22 rfl ?_
    refine zi_istore_n [(3, .int 0), (2, .int 0), (0, .ref a0), (1, .int x1)] d_Mo_drought_23 (by decide) rfl ?_
    refine zi_iconst 0 d_Mo_drought_24 rfl ?_
    refine zi_istore [(4, .int 0), (3, .int 0), (2, .int 0), (0, .ref a0), (1, .int x1)] d_Mo_drought_25 (by decide) rfl ?_
    refine zi_lo [(0, .ref a0), (1, .int x1), (2, .int 0), (3, .int 0), (4, .int 0)] [3, 4, 2, 1, 0] rfl ?_
    exact K_Mo_drought_b27 n E S a0 x1 0 0 0 q_14 r M'  h
  · rw [if_neg c_12] at h
    refine zi_iconst (-1) d_Mo_drought_12 rfl ?_
    cases h
    exact zo_ret d_Mo_drought_13 (Nat.le_of_ble_eq_true rfl) (Nat.le_of_ble_eq_true rfl) rfl
theorem C_Mo_drought (n : Nat) (E : zE) (S : zS) (a0 : Nat) (x1 : Int32) (M : zH) (r : Int32) (M' : zH) (h : F_Mo_drought n E S a0 x1 M = some (r, M')) : zC E Y_Mo_drought [.ref a0, .int x1] S M (some (.int r), S, M') :=
  zC.of (Or.inl (show plainName "NightColanderModel" = true by decide)) (Nat.le_of_ble_eq_true rfl) (trivial) (K_Mo_drought n E S a0 x1 M r M' h)
