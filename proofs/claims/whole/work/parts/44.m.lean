/-! METHODS (printed by gen/build.py): Mo_drawn Mo_blockedOnes Mo_count Mo_status -/
theorem d_Mo_drawn_0 : decode (yB Y_Mo_drawn) 0 = .ok (.aload_n 0, 1) := by decide +kernel
theorem d_Mo_drawn_1 : decode (yB Y_Mo_drawn) 1 = .ok (.iconst 0, 1) := by decide +kernel
theorem d_Mo_drawn_2 : decode (yB Y_Mo_drawn) 2 = .ok (.putfield 156, 3) := by decide +kernel
theorem d_Mo_drawn_5 : decode (yB Y_Mo_drawn) 5 = .ok (.aload_n 0, 1) := by decide +kernel
theorem d_Mo_drawn_6 : decode (yB Y_Mo_drawn) 6 = .ok (.getfield 153, 3) := by decide +kernel
theorem d_Mo_drawn_9 : decode (yB Y_Mo_drawn) 9 = .ok (.iconst (-1), 1) := by decide +kernel
theorem d_Mo_drawn_10 : decode (yB Y_Mo_drawn) 10 = .ok (.if_icmp .eq 40, 3) := by decide +kernel
theorem d_Mo_drawn_13 : decode (yB Y_Mo_drawn) 13 = .ok (.iload_n 2, 1) := by decide +kernel
theorem d_Mo_drawn_14 : decode (yB Y_Mo_drawn) 14 = .ok (.i2l, 1) := by decide +kernel
theorem d_Mo_drawn_15 : decode (yB Y_Mo_drawn) 15 = .ok (.lconst 0, 1) := by decide +kernel
theorem d_Mo_drawn_16 : decode (yB Y_Mo_drawn) 16 = .ok (.ldc2_w 347, 3) := by decide +kernel
theorem d_Mo_drawn_19 : decode (yB Y_Mo_drawn) 19 = .ok (.invokestatic 176, 3) := by decide +kernel
theorem d_Mo_drawn_22 : decode (yB Y_Mo_drawn) 22 = .ok (.ifCond .eq 28, 3) := by decide +kernel
theorem d_Mo_drawn_25 : decode (yB Y_Mo_drawn) 25 = .ok (.iload_n 1, 1) := by decide +kernel
theorem d_Mo_drawn_26 : decode (yB Y_Mo_drawn) 26 = .ok (.i2l, 1) := by decide +kernel
theorem d_Mo_drawn_27 : decode (yB Y_Mo_drawn) 27 = .ok (.lconst 0, 1) := by decide +kernel
theorem d_Mo_drawn_28 : decode (yB Y_Mo_drawn) 28 = .ok (.iload_n 2, 1) := by decide +kernel
theorem d_Mo_drawn_29 : decode (yB Y_Mo_drawn) 29 = .ok (.iconst 2, 1) := by decide +kernel
theorem d_Mo_drawn_30 : decode (yB Y_Mo_drawn) 30 = .ok (.if_icmp .ge 7, 3) := by decide +kernel
theorem d_Mo_drawn_33 : decode (yB Y_Mo_drawn) 33 = .ok (.iconst 4, 1) := by decide +kernel
theorem d_Mo_drawn_34 : decode (yB Y_Mo_drawn) 34 = .ok (.goto 7, 3) := by decide +kernel
theorem d_Mo_drawn_37 : decode (yB Y_Mo_drawn) 37 = .ok (.aload_n 0, 1) := by decide +kernel
theorem d_Mo_drawn_38 : decode (yB Y_Mo_drawn) 38 = .ok (.getfield 153, 3) := by decide +kernel
theorem d_Mo_drawn_41 : decode (yB Y_Mo_drawn) 41 = .ok (.i2l, 1) := by decide +kernel
theorem d_Mo_drawn_42 : decode (yB Y_Mo_drawn) 42 = .ok (.lconst 1, 1) := by decide +kernel
theorem d_Mo_drawn_43 : decode (yB Y_Mo_drawn) 43 = .ok (.lsub, 1) := by decide +kernel
theorem d_Mo_drawn_44 : decode (yB Y_Mo_drawn) 44 = .ok (.invokestatic 176, 3) := by decide +kernel
theorem d_Mo_drawn_47 : decode (yB Y_Mo_drawn) 47 = .ok (.ifCond .ne 5, 3) := by decide +kernel
theorem d_Mo_drawn_50 : decode (yB Y_Mo_drawn) 50 = .ok (.iconst (-1), 1) := by decide +kernel
theorem d_Mo_drawn_51 : decode (yB Y_Mo_drawn) 51 = .ok (.ireturn, 1) := by decide +kernel
theorem d_Mo_drawn_52 : decode (yB Y_Mo_drawn) 52 = .ok (.aload_n 0, 1) := by decide +kernel
theorem d_Mo_drawn_53 : decode (yB Y_Mo_drawn) 53 = .ok (.getfield 150, 3) := by decide +kernel
theorem d_Mo_drawn_56 : decode (yB Y_Mo_drawn) 56 = .ok (.iconst 4, 1) := by decide +kernel
theorem d_Mo_drawn_57 : decode (yB Y_Mo_drawn) 57 = .ok (.iload_n 2, 1) := by decide +kernel
theorem d_Mo_drawn_58 : decode (yB Y_Mo_drawn) 58 = .ok (.imul, 1) := by decide +kernel
theorem d_Mo_drawn_59 : decode (yB Y_Mo_drawn) 59 = .ok (.iload_n 1, 1) := by decide +kernel
theorem d_Mo_drawn_60 : decode (yB Y_Mo_drawn) 60 = .ok (.iadd, 1) := by decide +kernel
theorem d_Mo_drawn_61 : decode (yB Y_Mo_drawn) 61 = .ok (.iaload, 1) := by decide +kernel
theorem d_Mo_drawn_62 : decode (yB Y_Mo_drawn) 62 = .ok (.ireturn, 1) := by decide +kernel
def F_Mo_drawn_b41 (n : Nat) (E : zE) (S : zS) (a0 : Nat) (x1 : Int32) (x2 : Int32) (s0 : Int32) (t1 : Int64) (t2 : Int64) (M : zH) : Option (Int32 × zH) :=
  (F_Mo_in n E S t2 t1 (s0.toInt64 - 1) M).bind fun q_1 =>
  if q_1.1 = true then
    (zgR S a0 11 55).bind fun b_3 =>
    (zldI S q_1.2 b_3 ((4 * x2) + x1)).bind fun v_4 =>
    some (v_4, q_1.2)
  else
    some ((-1), q_1.2)
def F_Mo_drawn (n : Nat) (E : zE) (S : zS) (a0 : Nat) (x1 : Int32) (x2 : Int32) (M : zH) : Option (Int32 × zH) :=
  (zpI S M a0 11 0 0).bind fun m_5 =>
  (zgI S m_5 a0 11 56).bind fun v_6 =>
  if v_6 = (-1) then
    some ((-1), m_5)
  else
    (F_Mo_in n E S x2.toInt64 0 2 m_5).bind fun q_8 =>
    if q_8.1 = true then
      if 2 ≤ x2 then
        (zgI S q_8.2 a0 11 56).bind fun v_11 =>
        F_Mo_drawn_b41 n E S a0 x1 x2 v_11 0 x1.toInt64 q_8.2
      else
        F_Mo_drawn_b41 n E S a0 x1 x2 4 0 x1.toInt64 q_8.2
    else
      some ((-1), q_8.2)
theorem K_Mo_drawn_b41 (n : Nat) (E : zE) (S : zS) (a0 : Nat) (x1 : Int32) (x2 : Int32) (s0 : Int32) (t1 : Int64) (t2 : Int64) (M : zH) (r : Int32) (M' : zH)  (h : F_Mo_drawn_b41 n E S a0 x1 x2 s0 t1 t2 M = some (r, M')) : zG E Y_Mo_drawn (some (.int r), S, M') 41 [(0, .ref a0), (1, .int x1), (2, .int x2)] [.int s0, .long t1, .long t2] S M 0 0 := by
  unfold F_Mo_drawn_b41 at h
  refine zi_i2l d_Mo_drawn_41 ?_
  refine zi_lconst 1 d_Mo_drawn_42 rfl ?_
  refine zi_lsub d_Mo_drawn_43 ?_
  obtain ⟨q_1, eq_1, h⟩ := zbind h
  refine zo_stat (k' := 0) (n' := 0) 47 [.long t2, .long t1, .long (s0.toInt64 - 1)] [] [.int (bI q_1.1)] (C_Mo_in n E S t2 t1 (s0.toInt64 - 1) M q_1.1 q_1.2 eq_1) d_Mo_drawn_44 tw_1419 tw_1417 tw_1418 tw_13 dd_Mo_in ⟨Nat.le_of_ble_eq_true rfl, Nat.le_of_ble_eq_true rfl, Nat.le_of_ble_eq_true rfl, Nat.le_of_ble_eq_true rfl⟩ (Nat.le_of_ble_eq_true rfl) rfl rfl rfl rfl ?_
  refine zo_ifneB d_Mo_drawn_47 rfl 50 rfl (fun c_2 => ?_) (fun c_2 => ?_)
  · rw [if_pos c_2] at h
    refine zi_aload_n 0 d_Mo_drawn_52 rfl ?_
    obtain ⟨b_3, eb_3, h⟩ := zbind h
    refine zo_getR 56 zkd_11 55 d_Mo_drawn_53 eb_3 rfl tw_1284 rfl ?_
    refine zi_iconst 4 d_Mo_drawn_56 rfl ?_
    refine zi_iload_n 2 d_Mo_drawn_57 rfl ?_
    refine zi_imul d_Mo_drawn_58 ?_
    refine zi_iload_n 1 d_Mo_drawn_59 rfl ?_
    refine zi_iadd d_Mo_drawn_60 ?_
    obtain ⟨v_4, ev_4, h⟩ := zbind h
    refine zo_iald 62 d_Mo_drawn_61 ev_4 rfl ?_
    cases h
    exact zo_ret d_Mo_drawn_62 (Nat.le_of_ble_eq_true rfl) (Nat.le_of_ble_eq_true rfl) rfl
  · rw [if_neg c_2] at h
    refine zi_iconst (-1) d_Mo_drawn_50 rfl ?_
    cases h
    exact zo_ret d_Mo_drawn_51 (Nat.le_of_ble_eq_true rfl) (Nat.le_of_ble_eq_true rfl) rfl
theorem K_Mo_drawn (n : Nat) (E : zE) (S : zS) (a0 : Nat) (x1 : Int32) (x2 : Int32) (M : zH) (r : Int32) (M' : zH)  (h : F_Mo_drawn n E S a0 x1 x2 M = some (r, M')) : zG E Y_Mo_drawn (some (.int r), S, M') 0 [(0, .ref a0), (1, .int x1), (2, .int x2)] [] S M 0 0 := by
  unfold F_Mo_drawn at h
  refine zi_aload_n 0 d_Mo_drawn_0 rfl ?_
  refine zi_iconst 0 d_Mo_drawn_1 rfl ?_
  obtain ⟨m_5, em_5, h⟩ := zbind h
  refine zo_putI 5 zkd_11 0 d_Mo_drawn_2 em_5 rfl rfl rfl tw_1229 rfl ?_
  refine zi_aload_n 0 d_Mo_drawn_5 rfl ?_
  obtain ⟨v_6, ev_6, h⟩ := zbind h
  refine zo_getI 9 zkd_11 56 d_Mo_drawn_6 ev_6 rfl tw_1285 rfl ?_
  refine zi_iconst (-1) d_Mo_drawn_9 rfl ?_
  refine zi_icmp_eq (tgt := 50) d_Mo_drawn_10 rfl (fun c_7 => ?_) (fun c_7 => ?_)
  · rw [if_pos c_7] at h
    refine zi_iconst (-1) d_Mo_drawn_50 rfl ?_
    cases h
    exact zo_ret d_Mo_drawn_51 (Nat.le_of_ble_eq_true rfl) (Nat.le_of_ble_eq_true rfl) rfl
  · rw [if_neg c_7] at h
    refine zi_iload_n 2 d_Mo_drawn_13 rfl ?_
    refine zi_i2l d_Mo_drawn_14 ?_
    refine zi_lconst 0 d_Mo_drawn_15 rfl ?_
    refine zi_ldc2 d_Mo_drawn_16 tw_1642 ?_
    obtain ⟨q_8, eq_8, h⟩ := zbind h
    refine zo_stat (k' := 0) (n' := 0) 22 [.long x2.toInt64, .long 0, .long 2] [] [.int (bI q_8.1)] (C_Mo_in n E S x2.toInt64 0 2 m_5 q_8.1 q_8.2 eq_8) d_Mo_drawn_19 tw_1419 tw_1417 tw_1418 tw_13 dd_Mo_in ⟨Nat.le_of_ble_eq_true rfl, Nat.le_of_ble_eq_true rfl, Nat.le_of_ble_eq_true rfl, Nat.le_of_ble_eq_true rfl⟩ (Nat.le_of_ble_eq_true rfl) rfl rfl rfl rfl ?_
    refine zo_ifeqB d_Mo_drawn_22 rfl 25 rfl (fun c_9 => ?_) (fun c_9 => ?_)
    · rw [if_neg c_9] at h
      refine zi_iconst (-1) d_Mo_drawn_50 rfl ?_
      cases h
      exact zo_ret d_Mo_drawn_51 (Nat.le_of_ble_eq_true rfl) (Nat.le_of_ble_eq_true rfl) rfl
    · rw [if_pos c_9] at h
      refine zi_iload_n 1 d_Mo_drawn_25 rfl ?_
      refine zi_i2l d_Mo_drawn_26 ?_
      refine zi_lconst 0 d_Mo_drawn_27 rfl ?_
      refine zi_iload_n 2 d_Mo_drawn_28 rfl ?_
      refine zi_iconst 2 d_Mo_drawn_29 rfl ?_
      refine zi_icmp_ge (tgt := 37) d_Mo_drawn_30 rfl (fun c_10 => ?_) (fun c_10 => ?_)
      · rw [if_pos c_10] at h
        refine zi_aload_n 0 d_Mo_drawn_37 rfl ?_
        obtain ⟨v_11, ev_11, h⟩ := zbind h
        refine zo_getI 41 zkd_11 56 d_Mo_drawn_38 ev_11 rfl tw_1285 rfl ?_
        refine zi_lo [(0, .ref a0), (1, .int x1), (2, .int x2)] [0, 1, 2] rfl ?_
        exact K_Mo_drawn_b41 n E S a0 x1 x2 v_11 0 x1.toInt64 q_8.2 r M'  h
      · rw [if_neg c_10] at h
        refine zi_iconst 4 d_Mo_drawn_33 rfl ?_
        refine zi_goto (tgt := 41) d_Mo_drawn_34 rfl ?_
        refine zi_lo [(0, .ref a0), (1, .int x1), (2, .int x2)] [0, 1, 2] rfl ?_
        exact K_Mo_drawn_b41 n E S a0 x1 x2 4 0 x1.toInt64 q_8.2 r M'  h
theorem C_Mo_drawn (n : Nat) (E : zE) (S : zS) (a0 : Nat) (x1 : Int32) (x2 : Int32) (M : zH) (r : Int32) (M' : zH) (h : F_Mo_drawn n E S a0 x1 x2 M = some (r, M')) : zC E Y_Mo_drawn [.ref a0, .int x1, .int x2] S M (some (.int r), S, M') :=
  zC.of (Or.inl (show plainName "NightColanderModel" = true by decide)) (Nat.le_of_ble_eq_true rfl) (trivial) (K_Mo_drawn n E S a0 x1 x2 M r M' h)
theorem d_Mo_blockedOnes_0 : decode (yB Y_Mo_blockedOnes) 0 = .ok (.iconst 0, 1) := by decide +kernel
theorem d_Mo_blockedOnes_1 : decode (yB Y_Mo_blockedOnes) 1 = .ok (.istore_n 1, 1) := by decide +kernel
theorem d_Mo_blockedOnes_2 : decode (yB Y_Mo_blockedOnes) 2 = .ok (.iconst 0, 1) := by decide +kernel
theorem d_Mo_blockedOnes_3 : decode (yB Y_Mo_blockedOnes) 3 = .ok (.istore_n 2, 1) := by decide +kernel
theorem d_Mo_blockedOnes_4 : decode (yB Y_Mo_blockedOnes) 4 = .ok (.iload_n 2, 1) := by decide +kernel
theorem d_Mo_blockedOnes_5 : decode (yB Y_Mo_blockedOnes) 5 = .ok (.iconst 4, 1) := by decide +kernel
theorem d_Mo_blockedOnes_6 : decode (yB Y_Mo_blockedOnes) 6 = .ok (.if_icmp .ge 24, 3) := by decide +kernel
theorem d_Mo_blockedOnes_9 : decode (yB Y_Mo_blockedOnes) 9 = .ok (.iload_n 1, 1) := by decide +kernel
theorem d_Mo_blockedOnes_10 : decode (yB Y_Mo_blockedOnes) 10 = .ok (.aload_n 0, 1) := by decide +kernel
theorem d_Mo_blockedOnes_11 : decode (yB Y_Mo_blockedOnes) 11 = .ok (.getfield 13, 3) := by decide +kernel
theorem d_Mo_blockedOnes_14 : decode (yB Y_Mo_blockedOnes) 14 = .ok (.bipush 44, 2) := by decide +kernel
theorem d_Mo_blockedOnes_16 : decode (yB Y_Mo_blockedOnes) 16 = .ok (.iload_n 2, 1) := by decide +kernel
theorem d_Mo_blockedOnes_17 : decode (yB Y_Mo_blockedOnes) 17 = .ok (.iadd, 1) := by decide +kernel
theorem d_Mo_blockedOnes_18 : decode (yB Y_Mo_blockedOnes) 18 = .ok (.iaload, 1) := by decide +kernel
theorem d_Mo_blockedOnes_19 : decode (yB Y_Mo_blockedOnes) 19 = .ok (.invokestatic 187, 3) := by decide +kernel
theorem d_Mo_blockedOnes_22 : decode (yB Y_Mo_blockedOnes) 22 = .ok (.iadd, 1) := by decide +kernel
theorem d_Mo_blockedOnes_23 : decode (yB Y_Mo_blockedOnes) 23 = .ok (.istore_n 1, 1) := by decide +kernel
theorem d_Mo_blockedOnes_24 : decode (yB Y_Mo_blockedOnes) 24 = .ok (.iinc 2 1, 3) := by decide +kernel
theorem d_Mo_blockedOnes_27 : decode (yB Y_Mo_blockedOnes) 27 = .ok (.goto (-23), 3) := by decide +kernel
theorem d_Mo_blockedOnes_30 : decode (yB Y_Mo_blockedOnes) 30 = .ok (.iload_n 1, 1) := by decide +kernel
theorem d_Mo_blockedOnes_31 : decode (yB Y_Mo_blockedOnes) 31 = .ok (.ireturn, 1) := by decide +kernel
def F_Mo_blockedOnes_L4 (n : Nat) (E : zE) (S : zS) (r4 : Nat × Int32 × Int32 × zH → Option (Int32 × zH)) (a0 : Nat) (x1 : Int32) (x2 : Int32) (M : zH) : Option (Int32 × zH) :=
  if 4 ≤ x2 then
    some (x1, M)
  else
    (zgR S a0 11 3).bind fun b_2 =>
    (zldI S M b_2 (44 + x2)).bind fun v_3 =>
    (F_Mo_ones n E S v_3 M).bind fun q_4 =>
    r4 (a0, x1 + q_4.1, x2 + 1, q_4.2)
def F_Mo_blockedOnes_b4 (n : Nat) (E : zE) (S : zS) : Nat × Int32 × Int32 × zH → Option (Int32 × zH) := zfix (fun r4 s => F_Mo_blockedOnes_L4 n E S r4 s.1 s.2.1 s.2.2.1 s.2.2.2) n
def F_Mo_blockedOnes (n : Nat) (E : zE) (S : zS) (a0 : Nat) (M : zH) : Option (Int32 × zH) :=
  F_Mo_blockedOnes_b4 n E S (a0, 0, 0, M)
theorem K_Mo_blockedOnes_L4 (n : Nat) (E : zE) (S : zS) (r4 : Nat × Int32 × Int32 × zH → Option (Int32 × zH)) (a0 : Nat) (x1 : Int32) (x2 : Int32) (M : zH) (r : Int32) (M' : zH) (hr4 : ∀ (a0 : Nat) (x1 : Int32) (x2 : Int32) (M : zH), r4 (a0, x1, x2, M) = some (r, M') → zG E Y_Mo_blockedOnes (some (.int r), S, M') 4 [(0, .ref a0), (1, .int x1), (2, .int x2)] [] S M 0 0) (h : F_Mo_blockedOnes_L4 n E S r4 a0 x1 x2 M = some (r, M')) : zG E Y_Mo_blockedOnes (some (.int r), S, M') 4 [(0, .ref a0), (1, .int x1), (2, .int x2)] [] S M 0 0 := by
  unfold F_Mo_blockedOnes_L4 at h
  refine zi_iload_n 2 d_Mo_blockedOnes_4 rfl ?_
  refine zi_iconst 4 d_Mo_blockedOnes_5 rfl ?_
  refine zi_icmp_ge (tgt := 30) d_Mo_blockedOnes_6 rfl (fun c_1 => ?_) (fun c_1 => ?_)
  · rw [if_pos c_1] at h
    refine zi_iload_n 1 d_Mo_blockedOnes_30 rfl ?_
    cases h
    exact zo_ret d_Mo_blockedOnes_31 (Nat.le_of_ble_eq_true rfl) (Nat.le_of_ble_eq_true rfl) rfl
  · rw [if_neg c_1] at h
    refine zi_iload_n 1 d_Mo_blockedOnes_9 rfl ?_
    refine zi_aload_n 0 d_Mo_blockedOnes_10 rfl ?_
    obtain ⟨b_2, eb_2, h⟩ := zbind h
    refine zo_getR 14 zkd_11 3 d_Mo_blockedOnes_11 eb_2 rfl tw_1232 rfl ?_
    refine zi_bipush 44 d_Mo_blockedOnes_14 rfl ?_
    refine zi_iload_n 2 d_Mo_blockedOnes_16 rfl ?_
    refine zi_iadd d_Mo_blockedOnes_17 ?_
    obtain ⟨v_3, ev_3, h⟩ := zbind h
    refine zo_iald 19 d_Mo_blockedOnes_18 ev_3 rfl ?_
    obtain ⟨q_4, eq_4, h⟩ := zbind h
    refine zo_stat (k' := 0) (n' := 0) 22 [.int v_3] [.int x1] [.int q_4.1, .int x1] (C_Mo_ones n E S v_3 M q_4.1 q_4.2 eq_4) d_Mo_blockedOnes_19 tw_1818 tw_1816 tw_1817 tw_13 dd_Mo_ones ⟨Nat.le_of_ble_eq_true rfl, Nat.le_of_ble_eq_true rfl, Nat.le_of_ble_eq_true rfl, Nat.le_of_ble_eq_true rfl⟩ (Nat.le_of_ble_eq_true rfl) rfl rfl rfl rfl ?_
    refine zi_iadd d_Mo_blockedOnes_22 ?_
    refine zi_istore_n [(1, .int (x1 + q_4.1)), (0, .ref a0), (2, .int x2)] d_Mo_blockedOnes_23 (by decide) rfl ?_
    refine zi_iinc 2 (x2 + 1) [(2, .int (x2 + 1)), (1, .int (x1 + q_4.1)), (0, .ref a0)] d_Mo_blockedOnes_24 rfl rfl (by decide) rfl ?_
    refine zi_goto (tgt := 4) d_Mo_blockedOnes_27 rfl ?_
    refine zi_lo [(0, .ref a0), (1, .int (x1 + q_4.1)), (2, .int (x2 + 1))] [2, 1, 0] rfl ?_
    exact hr4 a0 (x1 + q_4.1) (x2 + 1) q_4.2 h
theorem K_Mo_blockedOnes_b4 (n : Nat) (E : zE) (S : zS) (a0 : Nat) (x1 : Int32) (x2 : Int32) (M : zH) (r : Int32) (M' : zH)  (h : F_Mo_blockedOnes_b4 n E S (a0, x1, x2, M) = some (r, M')) : zG E Y_Mo_blockedOnes (some (.int r), S, M') 4 [(0, .ref a0), (1, .int x1), (2, .int x2)] [] S M 0 0 := by
  have key : ∀ (k : Nat) (a0 : Nat) (x1 : Int32) (x2 : Int32) (M : zH), zfix (fun r4 s => F_Mo_blockedOnes_L4 n E S r4 s.1 s.2.1 s.2.2.1 s.2.2.2) k (a0, x1, x2, M) = some (r, M') → zG E Y_Mo_blockedOnes (some (.int r), S, M') 4 [(0, .ref a0), (1, .int x1), (2, .int x2)] [] S M 0 0 := by
    intro k
    induction k with
    | zero => intro a0 x1 x2 M h; cases h
    | succ k ih => intro a0 x1 x2 M h; exact K_Mo_blockedOnes_L4 n E S _ a0 x1 x2 M r M'  (fun a0 x1 x2 M h => ih a0 x1 x2 M h) h
  exact key n a0 x1 x2 M h
theorem K_Mo_blockedOnes (n : Nat) (E : zE) (S : zS) (a0 : Nat) (M : zH) (r : Int32) (M' : zH)  (h : F_Mo_blockedOnes n E S a0 M = some (r, M')) : zG E Y_Mo_blockedOnes (some (.int r), S, M') 0 [(0, .ref a0)] [] S M 0 0 := by
  unfold F_Mo_blockedOnes at h
  refine zi_iconst 0 d_Mo_blockedOnes_0 rfl ?_
  refine zi_istore_n [(1, .int 0), (0, .ref a0)] d_Mo_blockedOnes_1 (by decide) rfl ?_
  refine zi_iconst 0 d_Mo_blockedOnes_2 rfl ?_
  refine zi_istore_n [(2, .int 0), (1, .int 0), (0, .ref a0)] d_Mo_blockedOnes_3 (by decide) rfl ?_
  refine zi_lo [(0, .ref a0), (1, .int 0), (2, .int 0)] [2, 1, 0] rfl ?_
  exact K_Mo_blockedOnes_b4 n E S a0 0 0 M r M'  h
theorem C_Mo_blockedOnes (n : Nat) (E : zE) (S : zS) (a0 : Nat) (M : zH) (r : Int32) (M' : zH) (h : F_Mo_blockedOnes n E S a0 M = some (r, M')) : zC E Y_Mo_blockedOnes [.ref a0] S M (some (.int r), S, M') :=
  zC.of (Or.inl (show plainName "NightColanderModel" = true by decide)) (Nat.le_of_ble_eq_true rfl) (trivial) (K_Mo_blockedOnes n E S a0 M r M' h)
theorem d_Mo_count_0 : decode (yB Y_Mo_count) 0 = .ok (.aload_n 0, 1) := by decide +kernel
theorem d_Mo_count_1 : decode (yB Y_Mo_count) 1 = .ok (.iconst 0, 1) := by decide +kernel
theorem d_Mo_count_2 : decode (yB Y_Mo_count) 2 = .ok (.putfield 156, 3) := by decide +kernel
theorem d_Mo_count_5 : decode (yB Y_Mo_count) 5 = .ok (.iload_n 1, 1) := by decide +kernel
theorem d_Mo_count_6 : decode (yB Y_Mo_count) 6 = .ok (.tableswitch 150 0 12 #[66, 73, 78, 83, 90, 97, 102, 107, 114, 121, 128, 135, 143], 66) := by decide +kernel
theorem d_Mo_count_72 : decode (yB Y_Mo_count) 72 = .ok (.aload_n 0, 1) := by decide +kernel
theorem d_Mo_count_73 : decode (yB Y_Mo_count) 73 = .ok (.getfield 13, 3) := by decide +kernel
theorem d_Mo_count_76 : decode (yB Y_Mo_count) 76 = .ok (.iconst 0, 1) := by decide +kernel
theorem d_Mo_count_77 : decode (yB Y_Mo_count) 77 = .ok (.iaload, 1) := by decide +kernel
theorem d_Mo_count_78 : decode (yB Y_Mo_count) 78 = .ok (.ireturn, 1) := by decide +kernel
theorem d_Mo_count_79 : decode (yB Y_Mo_count) 79 = .ok (.aload_n 0, 1) := by decide +kernel
theorem d_Mo_count_80 : decode (yB Y_Mo_count) 80 = .ok (.invokevirtual 523, 3) := by decide +kernel
theorem d_Mo_count_83 : decode (yB Y_Mo_count) 83 = .ok (.ireturn, 1) := by decide +kernel
theorem d_Mo_count_84 : decode (yB Y_Mo_count) 84 = .ok (.aload_n 0, 1) := by decide +kernel
theorem d_Mo_count_85 : decode (yB Y_Mo_count) 85 = .ok (.invokevirtual 555, 3) := by decide +kernel
theorem d_Mo_count_88 : decode (yB Y_Mo_count) 88 = .ok (.ireturn, 1) := by decide +kernel
theorem d_Mo_count_89 : decode (yB Y_Mo_count) 89 = .ok (.aload_n 0, 1) := by decide +kernel
theorem d_Mo_count_90 : decode (yB Y_Mo_count) 90 = .ok (.getfield 13, 3) := by decide +kernel
theorem d_Mo_count_93 : decode (yB Y_Mo_count) 93 = .ok (.iconst 1, 1) := by decide +kernel
theorem d_Mo_count_94 : decode (yB Y_Mo_count) 94 = .ok (.iaload, 1) := by decide +kernel
theorem d_Mo_count_95 : decode (yB Y_Mo_count) 95 = .ok (.ireturn, 1) := by decide +kernel
theorem d_Mo_count_96 : decode (yB Y_Mo_count) 96 = .ok (.aload_n 0, 1) := by decide +kernel
theorem d_Mo_count_97 : decode (yB Y_Mo_count) 97 = .ok (.getfield 13, 3) := by decide +kernel
theorem d_Mo_count_100 : decode (yB Y_Mo_count) 100 = .ok (.iconst 2, 1) := by decide +kernel
theorem d_Mo_count_101 : decode (yB Y_Mo_count) 101 = .ok (.iaload, 1) := by decide +kernel
theorem d_Mo_count_102 : decode (yB Y_Mo_count) 102 = .ok (.ireturn, 1) := by decide +kernel
theorem d_Mo_count_103 : decode (yB Y_Mo_count) 103 = .ok (.aload_n 0, 1) := by decide +kernel
theorem d_Mo_count_104 : decode (yB Y_Mo_count) 104 = .ok (.getfield 162, 3) := by decide +kernel
theorem d_Mo_count_107 : decode (yB Y_Mo_count) 107 = .ok (.ireturn, 1) := by decide +kernel
theorem d_Mo_count_108 : decode (yB Y_Mo_count) 108 = .ok (.aload_n 0, 1) := by decide +kernel
theorem d_Mo_count_109 : decode (yB Y_Mo_count) 109 = .ok (.getfield 244, 3) := by decide +kernel
theorem d_Mo_count_112 : decode (yB Y_Mo_count) 112 = .ok (.ireturn, 1) := by decide +kernel
theorem d_Mo_count_113 : decode (yB Y_Mo_count) 113 = .ok (.aload_n 0, 1) := by decide +kernel
theorem d_Mo_count_114 : decode (yB Y_Mo_count) 114 = .ok (.getfield 7, 3) := by decide +kernel
theorem d_Mo_count_117 : decode (yB Y_Mo_count) 117 = .ok (.iconst 1, 1) := by decide +kernel
theorem d_Mo_count_118 : decode (yB Y_Mo_count) 118 = .ok (.iaload, 1) := by decide +kernel
theorem d_Mo_count_119 : decode (yB Y_Mo_count) 119 = .ok (.ireturn, 1) := by decide +kernel
theorem d_Mo_count_120 : decode (yB Y_Mo_count) 120 = .ok (.aload_n 0, 1) := by decide +kernel
theorem d_Mo_count_121 : decode (yB Y_Mo_count) 121 = .ok (.getfield 7, 3) := by decide +kernel
theorem d_Mo_count_124 : decode (yB Y_Mo_count) 124 = .ok (.iconst 2, 1) := by decide +kernel
theorem d_Mo_count_125 : decode (yB Y_Mo_count) 125 = .ok (.iaload, 1) := by decide +kernel
theorem d_Mo_count_126 : decode (yB Y_Mo_count) 126 = .ok (.ireturn, 1) := by decide +kernel
theorem d_Mo_count_127 : decode (yB Y_Mo_count) 127 = .ok (.aload_n 0, 1) := by decide +kernel
theorem d_Mo_count_128 : decode (yB Y_Mo_count) 128 = .ok (.getfield 7, 3) := by decide +kernel
theorem d_Mo_count_131 : decode (yB Y_Mo_count) 131 = .ok (.iconst 3, 1) := by decide +kernel
theorem d_Mo_count_132 : decode (yB Y_Mo_count) 132 = .ok (.iaload, 1) := by decide +kernel
theorem d_Mo_count_133 : decode (yB Y_Mo_count) 133 = .ok (.ireturn, 1) := by decide +kernel
theorem d_Mo_count_134 : decode (yB Y_Mo_count) 134 = .ok (.aload_n 0, 1) := by decide +kernel
theorem d_Mo_count_135 : decode (yB Y_Mo_count) 135 = .ok (.getfield 7, 3) := by decide +kernel
theorem d_Mo_count_138 : decode (yB Y_Mo_count) 138 = .ok (.iconst 5, 1) := by decide +kernel
theorem d_Mo_count_139 : decode (yB Y_Mo_count) 139 = .ok (.iaload, 1) := by decide +kernel
theorem d_Mo_count_140 : decode (yB Y_Mo_count) 140 = .ok (.ireturn, 1) := by decide +kernel
theorem d_Mo_count_141 : decode (yB Y_Mo_count) 141 = .ok (.aload_n 0, 1) := by decide +kernel
theorem d_Mo_count_142 : decode (yB Y_Mo_count) 142 = .ok (.getfield 7, 3) := by decide +kernel
theorem d_Mo_count_145 : decode (yB Y_Mo_count) 145 = .ok (.bipush 6, 2) := by decide +kernel
theorem d_Mo_count_147 : decode (yB Y_Mo_count) 147 = .ok (.iaload, 1) := by decide +kernel
theorem d_Mo_count_148 : decode (yB Y_Mo_count) 148 = .ok (.ireturn, 1) := by decide +kernel
theorem d_Mo_count_149 : decode (yB Y_Mo_count) 149 = .ok (.aload_n 0, 1) := by decide +kernel
theorem d_Mo_count_150 : decode (yB Y_Mo_count) 150 = .ok (.getfield 13, 3) := by decide +kernel
theorem d_Mo_count_153 : decode (yB Y_Mo_count) 153 = .ok (.iconst 3, 1) := by decide +kernel
theorem d_Mo_count_154 : decode (yB Y_Mo_count) 154 = .ok (.iaload, 1) := by decide +kernel
theorem d_Mo_count_155 : decode (yB Y_Mo_count) 155 = .ok (.ireturn, 1) := by decide +kernel
theorem d_Mo_count_156 : decode (yB Y_Mo_count) 156 = .ok (.iload_n 1, 1) := by decide +kernel
theorem d_Mo_count_157 : decode (yB Y_Mo_count) 157 = .ok (.i2l, 1) := by decide +kernel
theorem d_Mo_count_158 : decode (yB Y_Mo_count) 158 = .ok (.ldc2_w 558, 3) := by decide +kernel
theorem d_Mo_count_161 : decode (yB Y_Mo_count) 161 = .ok (.ldc2_w 560, 3) := by decide +kernel
theorem d_Mo_count_164 : decode (yB Y_Mo_count) 164 = .ok (.invokestatic 176, 3) := by decide +kernel
theorem d_Mo_count_167 : decode (yB Y_Mo_count) 167 = .ok (.ifCond .eq 17, 3) := by decide +kernel
theorem d_Mo_count_170 : decode (yB Y_Mo_count) 170 = .ok (.aload_n 0, 1) := by decide +kernel
theorem d_Mo_count_171 : decode (yB Y_Mo_count) 171 = .ok (.getfield 13, 3) := by decide +kernel
theorem d_Mo_count_174 : decode (yB Y_Mo_count) 174 = .ok (.iconst 4, 1) := by decide +kernel
theorem d_Mo_count_175 : decode (yB Y_Mo_count) 175 = .ok (.iload_n 1, 1) := by decide +kernel
theorem d_Mo_count_176 : decode (yB Y_Mo_count) 176 = .ok (.iadd, 1) := by decide +kernel
theorem d_Mo_count_177 : decode (yB Y_Mo_count) 177 = .ok (.bipush 13, 2) := by decide +kernel
theorem d_Mo_count_179 : decode (yB Y_Mo_count) 179 = .ok (.isub, 1) := by decide +kernel
theorem d_Mo_count_180 : decode (yB Y_Mo_count) 180 = .ok (.iaload, 1) := by decide +kernel
theorem d_Mo_count_181 : decode (yB Y_Mo_count) 181 = .ok (.goto 4, 3) := by decide +kernel
theorem d_Mo_count_184 : decode (yB Y_Mo_count) 184 = .ok (.iconst (-1), 1) := by decide +kernel
theorem d_Mo_count_185 : decode (yB Y_Mo_count) 185 = .ok (.ireturn, 1) := by decide +kernel
def F_Mo_count (n : Nat) (E : zE) (S : zS) (a0 : Nat) (x1 : Int32) (M : zH) : Option (Int32 × zH) :=
  (zpI S M a0 11 0 0).bind fun m_1 =>
  if x1 = 0 then
    (zgR S a0 11 3).bind fun b_3 =>
    (zldI S m_1 b_3 0).bind fun v_4 =>
    some (v_4, m_1)
  else
  if x1 = 1 then
    (zck S a0 11).bind fun u_6 =>
    (F_Mo_levels n E S a0 m_1).bind fun q_7 =>
    some (q_7.1, q_7.2)
  else
  if x1 = 2 then
    (zck S a0 11).bind fun u_9 =>
    (F_Mo_blockedOnes n E S a0 m_1).bind fun q_10 =>
    some (q_10.1, q_10.2)
  else
  if x1 = 3 then
    (zgR S a0 11 3).bind fun b_12 =>
    (zldI S m_1 b_12 1).bind fun v_13 =>
    some (v_13, m_1)
  else
  if x1 = 4 then
    (zgR S a0 11 3).bind fun b_15 =>
    (zldI S m_1 b_15 2).bind fun v_16 =>
    some (v_16, m_1)
  else
  if x1 = 5 then
    (zgI S m_1 a0 11 8).bind fun v_18 =>
    some (v_18, m_1)
  else
  if x1 = 6 then
    (zgI S m_1 a0 11 13).bind fun v_20 =>
    some (v_20, m_1)
  else
  if x1 = 7 then
    (zgR S a0 11 2).bind fun b_22 =>
    (zldI S m_1 b_22 1).bind fun v_23 =>
    some (v_23, m_1)
  else
  if x1 = 8 then
    (zgR S a0 11 2).bind fun b_25 =>
    (zldI S m_1 b_25 2).bind fun v_26 =>
    some (v_26, m_1)
  else
  if x1 = 9 then
    (zgR S a0 11 2).bind fun b_28 =>
    (zldI S m_1 b_28 3).bind fun v_29 =>
    some (v_29, m_1)
  else
  if x1 = 10 then
    (zgR S a0 11 2).bind fun b_31 =>
    (zldI S m_1 b_31 5).bind fun v_32 =>
    some (v_32, m_1)
  else
  if x1 = 11 then
    (zgR S a0 11 2).bind fun b_34 =>
    (zldI S m_1 b_34 6).bind fun v_35 =>
    some (v_35, m_1)
  else
  if x1 = 12 then
    (zgR S a0 11 3).bind fun b_37 =>
    (zldI S m_1 b_37 3).bind fun v_38 =>
    some (v_38, m_1)
  else
    (F_Mo_in n E S x1.toInt64 13 16 m_1).bind fun q_39 =>
    if q_39.1 = true then
      (zgR S a0 11 3).bind fun b_41 =>
      (zldI S q_39.2 b_41 ((4 + x1) - 13)).bind fun v_42 =>
      some (v_42, q_39.2)
    else
      some ((-1), q_39.2)
theorem K_Mo_count (n : Nat) (E : zE) (S : zS) (a0 : Nat) (x1 : Int32) (M : zH) (r : Int32) (M' : zH)  (h : F_Mo_count n E S a0 x1 M = some (r, M')) : zG E Y_Mo_count (some (.int r), S, M') 0 [(0, .ref a0), (1, .int x1)] [] S M 0 0 := by
  unfold F_Mo_count at h
  refine zi_aload_n 0 d_Mo_count_0 rfl ?_
  refine zi_iconst 0 d_Mo_count_1 rfl ?_
  obtain ⟨m_1, em_1, h⟩ := zbind h
  refine zo_putI 5 zkd_11 0 d_Mo_count_2 em_1 rfl rfl rfl tw_1229 rfl ?_
  refine zi_iload_n 1 d_Mo_count_5 rfl ?_
  by_cases c_2 : x1 = 0
  · rw [if_pos c_2] at h
    refine zo_tab (tgt := 72) 0 d_Mo_count_6 c_2 (by decide) (by decide) rfl rfl ?_
    refine zi_aload_n 0 d_Mo_count_72 rfl ?_
    obtain ⟨b_3, eb_3, h⟩ := zbind h
    refine zo_getR 76 zkd_11 3 d_Mo_count_73 eb_3 rfl tw_1232 rfl ?_
    refine zi_iconst 0 d_Mo_count_76 rfl ?_
    obtain ⟨v_4, ev_4, h⟩ := zbind h
    refine zo_iald 78 d_Mo_count_77 ev_4 rfl ?_
    cases h
    exact zo_ret d_Mo_count_78 (Nat.le_of_ble_eq_true rfl) (Nat.le_of_ble_eq_true rfl) rfl
  rw [if_neg c_2] at h
  by_cases c_5 : x1 = 1
  · rw [if_pos c_5] at h
    refine zo_tab (tgt := 79) 1 d_Mo_count_6 c_5 (by decide) (by decide) rfl rfl ?_
    refine zi_aload_n 0 d_Mo_count_79 rfl ?_
    obtain ⟨u_6, eu_6, h⟩ := zbind h
    obtain ⟨q_7, eq_7, h⟩ := zbind h
    refine zo_virt (k' := 0) (n' := 0) 83 [] [] [.int q_7.1] zkd_11 (zck_s eu_6) (C_Mo_levels n E S a0 m_1 q_7.1 q_7.2 eq_7) d_Mo_count_80 tw_1866 tw_1863 tw_1865 ts_99 tw_13 dd_Mo_levels ⟨Nat.le_of_ble_eq_true rfl, Nat.le_of_ble_eq_true rfl, Nat.le_of_ble_eq_true rfl, Nat.le_of_ble_eq_true rfl⟩ (Nat.le_of_ble_eq_true rfl) rfl rfl rfl rfl ?_
    cases h
    exact zo_ret d_Mo_count_83 (Nat.le_of_ble_eq_true rfl) (Nat.le_of_ble_eq_true rfl) rfl
  rw [if_neg c_5] at h
  by_cases c_8 : x1 = 2
  · rw [if_pos c_8] at h
    refine zo_tab (tgt := 84) 2 d_Mo_count_6 c_8 (by decide) (by decide) rfl rfl ?_
    refine zi_aload_n 0 d_Mo_count_84 rfl ?_
    obtain ⟨u_9, eu_9, h⟩ := zbind h
    obtain ⟨q_10, eq_10, h⟩ := zbind h
    refine zo_virt (k' := 0) (n' := 0) 88 [] [] [.int q_10.1] zkd_11 (zck_s eu_9) (C_Mo_blockedOnes n E S a0 m_1 q_10.1 q_10.2 eq_10) d_Mo_count_85 tw_1906 tw_1903 tw_1905 ts_104 tw_13 dd_Mo_blockedOnes ⟨Nat.le_of_ble_eq_true rfl, Nat.le_of_ble_eq_true rfl, Nat.le_of_ble_eq_true rfl, Nat.le_of_ble_eq_true rfl⟩ (Nat.le_of_ble_eq_true rfl) rfl rfl rfl rfl ?_
    cases h
    exact zo_ret d_Mo_count_88 (Nat.le_of_ble_eq_true rfl) (Nat.le_of_ble_eq_true rfl) rfl
  rw [if_neg c_8] at h
  by_cases c_11 : x1 = 3
  · rw [if_pos c_11] at h
    refine zo_tab (tgt := 89) 3 d_Mo_count_6 c_11 (by decide) (by decide) rfl rfl ?_
    refine zi_aload_n 0 d_Mo_count_89 rfl ?_
    obtain ⟨b_12, eb_12, h⟩ := zbind h
    refine zo_getR 93 zkd_11 3 d_Mo_count_90 eb_12 rfl tw_1232 rfl ?_
    refine zi_iconst 1 d_Mo_count_93 rfl ?_
    obtain ⟨v_13, ev_13, h⟩ := zbind h
    refine zo_iald 95 d_Mo_count_94 ev_13 rfl ?_
    cases h
    exact zo_ret d_Mo_count_95 (Nat.le_of_ble_eq_true rfl) (Nat.le_of_ble_eq_true rfl) rfl
  rw [if_neg c_11] at h
  by_cases c_14 : x1 = 4
  · rw [if_pos c_14] at h
    refine zo_tab (tgt := 96) 4 d_Mo_count_6 c_14 (by decide) (by decide) rfl rfl ?_
    refine zi_aload_n 0 d_Mo_count_96 rfl ?_
    obtain ⟨b_15, eb_15, h⟩ := zbind h
    refine zo_getR 100 zkd_11 3 d_Mo_count_97 eb_15 rfl tw_1232 rfl ?_
    refine zi_iconst 2 d_Mo_count_100 rfl ?_
    obtain ⟨v_16, ev_16, h⟩ := zbind h
    refine zo_iald 102 d_Mo_count_101 ev_16 rfl ?_
    cases h
    exact zo_ret d_Mo_count_102 (Nat.le_of_ble_eq_true rfl) (Nat.le_of_ble_eq_true rfl) rfl
  rw [if_neg c_14] at h
  by_cases c_17 : x1 = 5
  · rw [if_pos c_17] at h
    refine zo_tab (tgt := 103) 5 d_Mo_count_6 c_17 (by decide) (by decide) rfl rfl ?_
    refine zi_aload_n 0 d_Mo_count_103 rfl ?_
    obtain ⟨v_18, ev_18, h⟩ := zbind h
    refine zo_getI 107 zkd_11 8 d_Mo_count_104 ev_18 rfl tw_1237 rfl ?_
    cases h
    exact zo_ret d_Mo_count_107 (Nat.le_of_ble_eq_true rfl) (Nat.le_of_ble_eq_true rfl) rfl
  rw [if_neg c_17] at h
  by_cases c_19 : x1 = 6
  · rw [if_pos c_19] at h
    refine zo_tab (tgt := 108) 6 d_Mo_count_6 c_19 (by decide) (by decide) rfl rfl ?_
    refine zi_aload_n 0 d_Mo_count_108 rfl ?_
    obtain ⟨v_20, ev_20, h⟩ := zbind h
    refine zo_getI 112 zkd_11 13 d_Mo_count_109 ev_20 rfl tw_1242 rfl ?_
    cases h
    exact zo_ret d_Mo_count_112 (Nat.le_of_ble_eq_true rfl) (Nat.le_of_ble_eq_true rfl) rfl
  rw [if_neg c_19] at h
  by_cases c_21 : x1 = 7
  · rw [if_pos c_21] at h
    refine zo_tab (tgt := 113) 7 d_Mo_count_6 c_21 (by decide) (by decide) rfl rfl ?_
    refine zi_aload_n 0 d_Mo_count_113 rfl ?_
    obtain ⟨b_22, eb_22, h⟩ := zbind h
    refine zo_getR 117 zkd_11 2 d_Mo_count_114 eb_22 rfl tw_1231 rfl ?_
    refine zi_iconst 1 d_Mo_count_117 rfl ?_
    obtain ⟨v_23, ev_23, h⟩ := zbind h
    refine zo_iald 119 d_Mo_count_118 ev_23 rfl ?_
    cases h
    exact zo_ret d_Mo_count_119 (Nat.le_of_ble_eq_true rfl) (Nat.le_of_ble_eq_true rfl) rfl
  rw [if_neg c_21] at h
  by_cases c_24 : x1 = 8
  · rw [if_pos c_24] at h
    refine zo_tab (tgt := 120) 8 d_Mo_count_6 c_24 (by decide) (by decide) rfl rfl ?_
    refine zi_aload_n 0 d_Mo_count_120 rfl ?_
    obtain ⟨b_25, eb_25, h⟩ := zbind h
    refine zo_getR 124 zkd_11 2 d_Mo_count_121 eb_25 rfl tw_1231 rfl ?_
    refine zi_iconst 2 d_Mo_count_124 rfl ?_
    obtain ⟨v_26, ev_26, h⟩ := zbind h
    refine zo_iald 126 d_Mo_count_125 ev_26 rfl ?_
    cases h
    exact zo_ret d_Mo_count_126 (Nat.le_of_ble_eq_true rfl) (Nat.le_of_ble_eq_true rfl) rfl
  rw [if_neg c_24] at h
  by_cases c_27 : x1 = 9
  · rw [if_pos c_27] at h
    refine zo_tab (tgt := 127) 9 d_Mo_count_6 c_27 (by decide) (by decide) rfl rfl ?_
    refine zi_aload_n 0 d_Mo_count_127 rfl ?_
    obtain ⟨b_28, eb_28, h⟩ := zbind h
    refine zo_getR 131 zkd_11 2 d_Mo_count_128 eb_28 rfl tw_1231 rfl ?_
    refine zi_iconst 3 d_Mo_count_131 rfl ?_
    obtain ⟨v_29, ev_29, h⟩ := zbind h
    refine zo_iald 133 d_Mo_count_132 ev_29 rfl ?_
    cases h
    exact zo_ret d_Mo_count_133 (Nat.le_of_ble_eq_true rfl) (Nat.le_of_ble_eq_true rfl) rfl
  rw [if_neg c_27] at h
  by_cases c_30 : x1 = 10
  · rw [if_pos c_30] at h
    refine zo_tab (tgt := 134) 10 d_Mo_count_6 c_30 (by decide) (by decide) rfl rfl ?_
    refine zi_aload_n 0 d_Mo_count_134 rfl ?_
    obtain ⟨b_31, eb_31, h⟩ := zbind h
    refine zo_getR 138 zkd_11 2 d_Mo_count_135 eb_31 rfl tw_1231 rfl ?_
    refine zi_iconst 5 d_Mo_count_138 rfl ?_
    obtain ⟨v_32, ev_32, h⟩ := zbind h
    refine zo_iald 140 d_Mo_count_139 ev_32 rfl ?_
    cases h
    exact zo_ret d_Mo_count_140 (Nat.le_of_ble_eq_true rfl) (Nat.le_of_ble_eq_true rfl) rfl
  rw [if_neg c_30] at h
  by_cases c_33 : x1 = 11
  · rw [if_pos c_33] at h
    refine zo_tab (tgt := 141) 11 d_Mo_count_6 c_33 (by decide) (by decide) rfl rfl ?_
    refine zi_aload_n 0 d_Mo_count_141 rfl ?_
    obtain ⟨b_34, eb_34, h⟩ := zbind h
    refine zo_getR 145 zkd_11 2 d_Mo_count_142 eb_34 rfl tw_1231 rfl ?_
    refine zi_bipush 6 d_Mo_count_145 rfl ?_
    obtain ⟨v_35, ev_35, h⟩ := zbind h
    refine zo_iald 148 d_Mo_count_147 ev_35 rfl ?_
    cases h
    exact zo_ret d_Mo_count_148 (Nat.le_of_ble_eq_true rfl) (Nat.le_of_ble_eq_true rfl) rfl
  rw [if_neg c_33] at h
  by_cases c_36 : x1 = 12
  · rw [if_pos c_36] at h
    refine zo_tab (tgt := 149) 12 d_Mo_count_6 c_36 (by decide) (by decide) rfl rfl ?_
    refine zi_aload_n 0 d_Mo_count_149 rfl ?_
    obtain ⟨b_37, eb_37, h⟩ := zbind h
    refine zo_getR 153 zkd_11 3 d_Mo_count_150 eb_37 rfl tw_1232 rfl ?_
    refine zi_iconst 3 d_Mo_count_153 rfl ?_
    obtain ⟨v_38, ev_38, h⟩ := zbind h
    refine zo_iald 155 d_Mo_count_154 ev_38 rfl ?_
    cases h
    exact zo_ret d_Mo_count_155 (Nat.le_of_ble_eq_true rfl) (Nat.le_of_ble_eq_true rfl) rfl
  rw [if_neg c_36] at h
  refine zo_tabP (tgt := 156) 0 13 d_Mo_count_6 rfl rfl (fun j hj => by match j, hj with | 0, _ => exact c_2  | 1, _ => exact c_5  | 2, _ => exact c_8  | 3, _ => exact c_11  | 4, _ => exact c_14  | 5, _ => exact c_17  | 6, _ => exact c_19  | 7, _ => exact c_21  | 8, _ => exact c_24  | 9, _ => exact c_27  | 10, _ => exact c_30  | 11, _ => exact c_33  | 12, _ => exact c_36 | j + 13, hj => exact absurd hj (by omega)) rfl ?_
  refine zi_iload_n 1 d_Mo_count_156 rfl ?_
  refine zi_i2l d_Mo_count_157 ?_
  refine zi_ldc2 d_Mo_count_158 tw_1907 ?_
  refine zi_ldc2 d_Mo_count_161 tw_1908 ?_
  obtain ⟨q_39, eq_39, h⟩ := zbind h
  refine zo_stat (k' := 0) (n' := 0) 167 [.long x1.toInt64, .long 13, .long 16] [] [.int (bI q_39.1)] (C_Mo_in n E S x1.toInt64 13 16 m_1 q_39.1 q_39.2 eq_39) d_Mo_count_164 tw_1419 tw_1417 tw_1418 tw_13 dd_Mo_in ⟨Nat.le_of_ble_eq_true rfl, Nat.le_of_ble_eq_true rfl, Nat.le_of_ble_eq_true rfl, Nat.le_of_ble_eq_true rfl⟩ (Nat.le_of_ble_eq_true rfl) rfl rfl rfl rfl ?_
  refine zo_ifeqB d_Mo_count_167 rfl 170 rfl (fun c_40 => ?_) (fun c_40 => ?_)
  · rw [if_neg c_40] at h
    refine zi_iconst (-1) d_Mo_count_184 rfl ?_
    cases h
    exact zo_ret d_Mo_count_185 (Nat.le_of_ble_eq_true rfl) (Nat.le_of_ble_eq_true rfl) rfl
  · rw [if_pos c_40] at h
    refine zi_aload_n 0 d_Mo_count_170 rfl ?_
    obtain ⟨b_41, eb_41, h⟩ := zbind h
    refine zo_getR 174 zkd_11 3 d_Mo_count_171 eb_41 rfl tw_1232 rfl ?_
    refine zi_iconst 4 d_Mo_count_174 rfl ?_
    refine zi_iload_n 1 d_Mo_count_175 rfl ?_
    refine zi_iadd d_Mo_count_176 ?_
    refine zi_bipush 13 d_Mo_count_177 rfl ?_
    refine zi_isub d_Mo_count_179 ?_
    obtain ⟨v_42, ev_42, h⟩ := zbind h
    refine zo_iald 181 d_Mo_count_180 ev_42 rfl ?_
    refine zi_goto (tgt := 185) d_Mo_count_181 rfl ?_
    cases h
    exact zo_ret d_Mo_count_185 (Nat.le_of_ble_eq_true rfl) (Nat.le_of_ble_eq_true rfl) rfl
theorem C_Mo_count (n : Nat) (E : zE) (S : zS) (a0 : Nat) (x1 : Int32) (M : zH) (r : Int32) (M' : zH) (h : F_Mo_count n E S a0 x1 M = some (r, M')) : zC E Y_Mo_count [.ref a0, .int x1] S M (some (.int r), S, M') :=
  zC.of (Or.inl (show plainName "NightColanderModel" = true by decide)) (Nat.le_of_ble_eq_true rfl) (trivial) (K_Mo_count n E S a0 x1 M r M' h)
theorem d_Mo_status_0 : decode (yB Y_Mo_status) 0 = .ok (.aload_n 0, 1) := by decide +kernel
theorem d_Mo_status_1 : decode (yB Y_Mo_status) 1 = .ok (.iconst 0, 1) := by decide +kernel
theorem d_Mo_status_2 : decode (yB Y_Mo_status) 2 = .ok (.putfield 156, 3) := by decide +kernel
theorem d_Mo_status_5 : decode (yB Y_Mo_status) 5 = .ok (.aload_n 0, 1) := by decide +kernel
theorem d_Mo_status_6 : decode (yB Y_Mo_status) 6 = .ok (.getfield 159, 3) := by decide +kernel
theorem d_Mo_status_9 : decode (yB Y_Mo_status) 9 = .ok (.ireturn, 1) := by decide +kernel
def F_Mo_status (n : Nat) (E : zE) (S : zS) (a0 : Nat) (M : zH) : Option (Int32 × zH) :=
  (zpI S M a0 11 0 0).bind fun m_1 =>
  (zgI S m_1 a0 11 1).bind fun v_2 =>
  some (v_2, m_1)
theorem K_Mo_status (n : Nat) (E : zE) (S : zS) (a0 : Nat) (M : zH) (r : Int32) (M' : zH)  (h : F_Mo_status n E S a0 M = some (r, M')) : zG E Y_Mo_status (some (.int r), S, M') 0 [(0, .ref a0)] [] S M 0 0 := by
  unfold F_Mo_status at h
  refine zi_aload_n 0 d_Mo_status_0 rfl ?_
  refine zi_iconst 0 d_Mo_status_1 rfl ?_
  obtain ⟨m_1, em_1, h⟩ := zbind h
  refine zo_putI 5 zkd_11 0 d_Mo_status_2 em_1 rfl rfl rfl tw_1229 rfl ?_
  refine zi_aload_n 0 d_Mo_status_5 rfl ?_
  obtain ⟨v_2, ev_2, h⟩ := zbind h
  refine zo_getI 9 zkd_11 1 d_Mo_status_6 ev_2 rfl tw_1230 rfl ?_
  cases h
  exact zo_ret d_Mo_status_9 (Nat.le_of_ble_eq_true rfl) (Nat.le_of_ble_eq_true rfl) rfl
theorem C_Mo_status (n : Nat) (E : zE) (S : zS) (a0 : Nat) (M : zH) (r : Int32) (M' : zH) (h : F_Mo_status n E S a0 M = some (r, M')) : zC E Y_Mo_status [.ref a0] S M (some (.int r), S, M') :=
  zC.of (Or.inl (show plainName "NightColanderModel" = true by decide)) (Nat.le_of_ble_eq_true rfl) (trivial) (K_Mo_status n E S a0 M r M' h)
