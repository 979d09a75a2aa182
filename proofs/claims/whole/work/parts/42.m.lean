/-! METHODS (printed by gen/build.py): Mo_luck Mo_together Mo_settled Mo_few Mo_worth Mo_giveBack Mo_readSum Mo_readOrder -/
theorem d_Mo_luck_0 : decode (yB Y_Mo_luck) 0 = .ok (.aload_n 0, 1) := by decide +kernel
theorem d_Mo_luck_1 : decode (yB Y_Mo_luck) 1 = .ok (.iconst 0, 1) := by decide +kernel
theorem d_Mo_luck_2 : decode (yB Y_Mo_luck) 2 = .ok (.putfield 156, 3) := by decide +kernel
theorem d_Mo_luck_5 : decode (yB Y_Mo_luck) 5 = .ok (.iload_n 1, 1) := by decide +kernel
theorem d_Mo_luck_6 : decode (yB Y_Mo_luck) 6 = .ok (.invokestatic 194, 3) := by decide +kernel
theorem d_Mo_luck_9 : decode (yB Y_Mo_luck) 9 = .ok (.ifCond .ne 5, 3) := by decide +kernel
theorem d_Mo_luck_12 : decode (yB Y_Mo_luck) 12 = .ok (.iconst (-1), 1) := by decide +kernel
theorem d_Mo_luck_13 : decode (yB Y_Mo_luck) 13 = .ok (.ireturn, 1) := by decide +kernel
theorem d_Mo_luck_14 : decode (yB Y_Mo_luck) 14 = .ok (.aload_n 0, 1) := by decide +kernel
theorem d_Mo_luck_15 : decode (yB Y_Mo_luck) 15 = .ok (.invokevirtual 457, 3) := by decide +kernel
theorem d_Mo_luck_18 : decode (yB Y_Mo_luck) 18 = .ok (.iconst 0, 1) := by decide +kernel
theorem d_Mo_luck_19 : decode (yB Y_Mo_luck) 19 = .ok (.istore_n 2, 1) := by decide +kernel
theorem d_Mo_luck_20 : decode (yB Y_Mo_luck) 20 = .ok (.iconst 0, 1) := by decide +kernel
theorem d_Mo_luck_21 : decode (yB Y_Mo_luck) 21 = .ok (.istore_n 3, 1) := by decide +kernel
theorem d_Mo_luck_22 : decode (yB Y_Mo_luck) 22 = .ok (.iload_n 3, 1) := by decide +kernel
theorem d_Mo_luck_23 : decode (yB Y_Mo_luck) 23 = .ok (.bipush 8, 2) := by decide +kernel
theorem d_Mo_luck_25 : decode (yB Y_Mo_luck) 25 = .ok (.if_icmp .ge 32, 3) := by decide +kernel
theorem d_Mo_luck_28 : decode (yB Y_Mo_luck) 28 = .ok (.iload_n 2, 1) := by decide +kernel
theorem d_Mo_luck_29 : decode (yB Y_Mo_luck) 29 = .ok (.aload_n 0, 1) := by decide +kernel
theorem d_Mo_luck_30 : decode (yB Y_Mo_luck) 30 = .ok (.getfield 112, 3) := by decide +kernel
theorem d_Mo_luck_33 : decode (yB Y_Mo_luck) 33 = .ok (.iload_n 3, 1) := by decide +kernel
theorem d_Mo_luck_34 : decode (yB Y_Mo_luck) 34 = .ok (.iaload, 1) := by decide +kernel
theorem d_Mo_luck_35 : decode (yB Y_Mo_luck) 35 = .ok (.aload_n 0, 1) := by decide +kernel
theorem d_Mo_luck_36 : decode (yB Y_Mo_luck) 36 = .ok (.getfield 112, 3) := by decide +kernel
theorem d_Mo_luck_39 : decode (yB Y_Mo_luck) 39 = .ok (.iload_n 1, 1) := by decide +kernel
theorem d_Mo_luck_40 : decode (yB Y_Mo_luck) 40 = .ok (.iaload, 1) := by decide +kernel
theorem d_Mo_luck_41 : decode (yB Y_Mo_luck) 41 = .ok (.if_icmp .ge 7, 3) := by decide +kernel
theorem d_Mo_luck_44 : decode (yB Y_Mo_luck) 44 = .ok (.iconst 1, 1) := by decide +kernel
theorem d_Mo_luck_45 : decode (yB Y_Mo_luck) 45 = .ok (.goto 4, 3) := by decide +kernel
theorem d_Mo_luck_48 : decode (yB Y_Mo_luck) 48 = .ok (.iconst 0, 1) := by decide +kernel
theorem d_Mo_luck_49 : decode (yB Y_Mo_luck) 49 = .ok (.iadd, 1) := by decide +kernel
theorem d_Mo_luck_50 : decode (yB Y_Mo_luck) 50 = .ok (.istore_n 2, 1) := by decide +kernel
theorem d_Mo_luck_51 : decode (yB Y_Mo_luck) 51 = .ok (.iinc 3 1, 3) := by decide +kernel
theorem d_Mo_luck_54 : decode (yB Y_Mo_luck) 54 = .ok (.goto (-32), 3) := by decide +kernel
theorem d_Mo_luck_57 : decode (yB Y_Mo_luck) 57 = .ok (.iload_n 2, 1) := by decide +kernel
theorem d_Mo_luck_58 : decode (yB Y_Mo_luck) 58 = .ok (.ireturn, 1) := by decide +kernel
def F_Mo_luck_b49 (n : Nat) (E : zE) (S : zS) (r22 : Nat × Int32 × Int32 × Int32 × zH → Option (Int32 × zH)) (a0 : Nat) (x1 : Int32) (x3 : Int32) (s0 : Int32) (s1 : Int32) (M : zH) : Option (Int32 × zH) :=
  r22 (a0, x1, s1 + s0, x3 + 1, M)
def F_Mo_luck_L22 (n : Nat) (E : zE) (S : zS) (r22 : Nat × Int32 × Int32 × Int32 × zH → Option (Int32 × zH)) (a0 : Nat) (x1 : Int32) (x2 : Int32) (x3 : Int32) (M : zH) : Option (Int32 × zH) :=
  if 8 ≤ x3 then
    some (x2, M)
  else
    (zgR S a0 11 41).bind fun b_2 =>
    (zldI S M b_2 x3).bind fun v_3 =>
    (zldI S M b_2 x1).bind fun v_4 =>
    if v_4 ≤ v_3 then
      F_Mo_luck_b49 n E S r22 a0 x1 x3 0 x2 M
    else
      F_Mo_luck_b49 n E S r22 a0 x1 x3 1 x2 M
def F_Mo_luck_b22 (n : Nat) (E : zE) (S : zS) : Nat × Int32 × Int32 × Int32 × zH → Option (Int32 × zH) := zfix (fun r22 s => F_Mo_luck_L22 n E S r22 s.1 s.2.1 s.2.2.1 s.2.2.2.1 s.2.2.2.2) n
def F_Mo_luck (n : Nat) (E : zE) (S : zS) (a0 : Nat) (x1 : Int32) (M : zH) : Option (Int32 × zH) :=
  (zpI S M a0 11 0 0).bind fun m_6 =>
  (F_Mo_isField n E S x1 m_6).bind fun q_7 =>
  if q_7.1 = true then
    (zck S a0 11).bind fun u_9 =>
    (F_Mo_layFlow n E S a0 q_7.2).bind fun q_10 =>
    F_Mo_luck_b22 n E S (a0, x1, 0, 0, q_10)
  else
    some ((-1), q_7.2)
theorem K_Mo_luck_b49 (n : Nat) (E : zE) (S : zS) (r22 : Nat × Int32 × Int32 × Int32 × zH → Option (Int32 × zH)) (a0 : Nat) (x1 : Int32) (x3 : Int32) (s0 : Int32) (s1 : Int32) (M : zH) (r : Int32) (M' : zH) (hr22 : ∀ (a0 : Nat) (x1 : Int32) (x2 : Int32) (x3 : Int32) (M : zH), r22 (a0, x1, x2, x3, M) = some (r, M') → zG E Y_Mo_luck (some (.int r), S, M') 22 [(0, .ref a0), (1, .int x1), (2, .int x2), (3, .int x3)] [] S M 0 0) (h : F_Mo_luck_b49 n E S r22 a0 x1 x3 s0 s1 M = some (r, M')) : zG E Y_Mo_luck (some (.int r), S, M') 49 [(0, .ref a0), (1, .int x1), (3, .int x3)] [.int s0, .int s1] S M 0 0 := by
  unfold F_Mo_luck_b49 at h
  refine zi_iadd d_Mo_luck_49 ?_
  refine zi_istore_n [(2, .int (s1 + s0)), (0, .ref a0), (1, .int x1), (3, .int x3)] d_Mo_luck_50 (by decide) rfl ?_
  refine zi_iinc 3 (x3 + 1) [(3, .int (x3 + 1)), (2, .int (s1 + s0)), (0, .ref a0), (1, .int x1)] d_Mo_luck_51 rfl rfl (by decide) rfl ?_
  refine zi_goto (tgt := 22) d_Mo_luck_54 rfl ?_
  refine zi_lo [(0, .ref a0), (1, .int x1), (2, .int (s1 + s0)), (3, .int (x3 + 1))] [2, 3, 1, 0] rfl ?_
  exact hr22 a0 x1 (s1 + s0) (x3 + 1) M h
theorem K_Mo_luck_L22 (n : Nat) (E : zE) (S : zS) (r22 : Nat × Int32 × Int32 × Int32 × zH → Option (Int32 × zH)) (a0 : Nat) (x1 : Int32) (x2 : Int32) (x3 : Int32) (M : zH) (r : Int32) (M' : zH) (hr22 : ∀ (a0 : Nat) (x1 : Int32) (x2 : Int32) (x3 : Int32) (M : zH), r22 (a0, x1, x2, x3, M) = some (r, M') → zG E Y_Mo_luck (some (.int r), S, M') 22 [(0, .ref a0), (1, .int x1), (2, .int x2), (3, .int x3)] [] S M 0 0) (h : F_Mo_luck_L22 n E S r22 a0 x1 x2 x3 M = some (r, M')) : zG E Y_Mo_luck (some (.int r), S, M') 22 [(0, .ref a0), (1, .int x1), (2, .int x2), (3, .int x3)] [] S M 0 0 := by
  unfold F_Mo_luck_L22 at h
  refine zi_iload_n 3 d_Mo_luck_22 rfl ?_
  refine zi_bipush 8 d_Mo_luck_23 rfl ?_
  refine zi_icmp_ge (tgt := 57) d_Mo_luck_25 rfl (fun c_1 => ?_) (fun c_1 => ?_)
  · rw [if_pos c_1] at h
    refine zi_iload_n 2 d_Mo_luck_57 rfl ?_
    cases h
    exact zo_ret d_Mo_luck_58 (Nat.le_of_ble_eq_true rfl) (Nat.le_of_ble_eq_true rfl) rfl
  · rw [if_neg c_1] at h
    refine zi_iload_n 2 d_Mo_luck_28 rfl ?_
    refine zi_aload_n 0 d_Mo_luck_29 rfl ?_
    obtain ⟨b_2, eb_2, h⟩ := zbind h
    refine zo_getR 33 zkd_11 41 d_Mo_luck_30 eb_2 rfl tw_1270 rfl ?_
    refine zi_iload_n 3 d_Mo_luck_33 rfl ?_
    obtain ⟨v_3, ev_3, h⟩ := zbind h
    refine zo_iald 35 d_Mo_luck_34 ev_3 rfl ?_
    refine zi_aload_n 0 d_Mo_luck_35 rfl ?_
    refine zo_getR 39 zkd_11 41 d_Mo_luck_36 eb_2 rfl tw_1270 rfl ?_
    refine zi_iload_n 1 d_Mo_luck_39 rfl ?_
    obtain ⟨v_4, ev_4, h⟩ := zbind h
    refine zo_iald 41 d_Mo_luck_40 ev_4 rfl ?_
    refine zi_icmp_ge (tgt := 48) d_Mo_luck_41 rfl (fun c_5 => ?_) (fun c_5 => ?_)
    · rw [if_pos c_5] at h
      refine zi_iconst 0 d_Mo_luck_48 rfl ?_
      refine zi_lo [(0, .ref a0), (1, .int x1), (3, .int x3)] [0, 1, 3] rfl ?_
      exact K_Mo_luck_b49 n E S r22 a0 x1 x3 0 x2 M r M' hr22 h
    · rw [if_neg c_5] at h
      refine zi_iconst 1 d_Mo_luck_44 rfl ?_
      refine zi_goto (tgt := 49) d_Mo_luck_45 rfl ?_
      refine zi_lo [(0, .ref a0), (1, .int x1), (3, .int x3)] [0, 1, 3] rfl ?_
      exact K_Mo_luck_b49 n E S r22 a0 x1 x3 1 x2 M r M' hr22 h
theorem K_Mo_luck_b22 (n : Nat) (E : zE) (S : zS) (a0 : Nat) (x1 : Int32) (x2 : Int32) (x3 : Int32) (M : zH) (r : Int32) (M' : zH)  (h : F_Mo_luck_b22 n E S (a0, x1, x2, x3, M) = some (r, M')) : zG E Y_Mo_luck (some (.int r), S, M') 22 [(0, .ref a0), (1, .int x1), (2, .int x2), (3, .int x3)] [] S M 0 0 := by
  have key : ∀ (k : Nat) (a0 : Nat) (x1 : Int32) (x2 : Int32) (x3 : Int32) (M : zH), zfix (fun r22 s => F_Mo_luck_L22 n E S r22 s.1 s.2.1 s.2.2.1 s.2.2.2.1 s.2.2.2.2) k (a0, x1, x2, x3, M) = some (r, M') → zG E Y_Mo_luck (some (.int r), S, M') 22 [(0, .ref a0), (1, .int x1), (2, .int x2), (3, .int x3)] [] S M 0 0 := by
    intro k
    induction k with
    | zero => intro a0 x1 x2 x3 M h; cases h
    | succ k ih => intro a0 x1 x2 x3 M h; exact K_Mo_luck_L22 n E S _ a0 x1 x2 x3 M r M'  (fun a0 x1 x2 x3 M h => ih a0 x1 x2 x3 M h) h
  exact key n a0 x1 x2 x3 M h
theorem K_Mo_luck (n : Nat) (E : zE) (S : zS) (a0 : Nat) (x1 : Int32) (M : zH) (r : Int32) (M' : zH)  (h : F_Mo_luck n E S a0 x1 M = some (r, M')) : zG E Y_Mo_luck (some (.int r), S, M') 0 [(0, .ref a0), (1, .int x1)] [] S M 0 0 := by
  unfold F_Mo_luck at h
  refine zi_aload_n 0 d_Mo_luck_0 rfl ?_
  refine zi_iconst 0 d_Mo_luck_1 rfl ?_
  obtain ⟨m_6, em_6, h⟩ := zbind h
  refine zo_putI 5 zkd_11 0 d_Mo_luck_2 em_6 rfl rfl rfl tw_1229 rfl ?_
  refine zi_iload_n 1 d_Mo_luck_5 rfl ?_
  obtain ⟨q_7, eq_7, h⟩ := zbind h
  refine zo_stat (k' := 0) (n' := 0) 9 [.int x1] [] [.int (bI q_7.1)] (C_Mo_isField n E S x1 m_6 q_7.1 q_7.2 eq_7) d_Mo_luck_6 tw_1438 tw_1436 tw_1437 tw_13 dd_Mo_isField ⟨Nat.le_of_ble_eq_true rfl, Nat.le_of_ble_eq_true rfl, Nat.le_of_ble_eq_true rfl, Nat.le_of_ble_eq_true rfl⟩ (Nat.le_of_ble_eq_true rfl) rfl rfl rfl rfl ?_
  refine zo_ifneB d_Mo_luck_9 rfl 12 rfl (fun c_8 => ?_) (fun c_8 => ?_)
  · rw [if_pos c_8] at h
    refine zi_aload_n 0 d_Mo_luck_14 rfl ?_
    obtain ⟨u_9, eu_9, h⟩ := zbind h
    obtain ⟨q_10, eq_10, h⟩ := zbind h
    refine zo_virt (k' := 0) (n' := 0) 18 [] [] [] zkd_11 (zck_s eu_9) (C_Mo_layFlow n E S a0 q_7.2 q_10 eq_10) d_Mo_luck_15 tw_1736 tw_1733 tw_1735 ts_85 tw_13 dd_Mo_layFlow ⟨Nat.le_of_ble_eq_true rfl, Nat.le_of_ble_eq_true rfl, Nat.le_of_ble_eq_true rfl, Nat.le_of_ble_eq_true rfl⟩ (Nat.le_of_ble_eq_true rfl) rfl rfl rfl rfl ?_
    refine zi_iconst 0 d_Mo_luck_18 rfl ?_
    refine zi_istore_n [(2, .int 0), (0, .ref a0), (1, .int x1)] d_Mo_luck_19 (by decide) rfl ?_
    refine zi_iconst 0 d_Mo_luck_20 rfl ?_
    refine zi_istore_n [(3, .int 0), (2, .int 0), (0, .ref a0), (1, .int x1)] d_Mo_luck_21 (by decide) rfl ?_
    refine zi_lo [(0, .ref a0), (1, .int x1), (2, .int 0), (3, .int 0)] [2, 3, 1, 0] rfl ?_
    exact K_Mo_luck_b22 n E S a0 x1 0 0 q_10 r M'  h
  · rw [if_neg c_8] at h
    refine zi_iconst (-1) d_Mo_luck_12 rfl ?_
    cases h
    exact zo_ret d_Mo_luck_13 (Nat.le_of_ble_eq_true rfl) (Nat.le_of_ble_eq_true rfl) rfl
theorem C_Mo_luck (n : Nat) (E : zE) (S : zS) (a0 : Nat) (x1 : Int32) (M : zH) (r : Int32) (M' : zH) (h : F_Mo_luck n E S a0 x1 M = some (r, M')) : zC E Y_Mo_luck [.ref a0, .int x1] S M (some (.int r), S, M') :=
  zC.of (Or.inl (show plainName "NightColanderModel" = true by decide)) (Nat.le_of_ble_eq_true rfl) (trivial) (K_Mo_luck n E S a0 x1 M r M' h)
theorem d_Mo_together_0 : decode (yB Y_Mo_together) 0 = .ok (.aload_n 0, 1) := by decide +kernel
theorem d_Mo_together_1 : decode (yB Y_Mo_together) 1 = .ok (.iconst 0, 1) := by decide +kernel
theorem d_Mo_together_2 : decode (yB Y_Mo_together) 2 = .ok (.putfield 156, 3) := by decide +kernel
theorem d_Mo_together_5 : decode (yB Y_Mo_together) 5 = .ok (.iload_n 1, 1) := by decide +kernel
theorem d_Mo_together_6 : decode (yB Y_Mo_together) 6 = .ok (.invokestatic 190, 3) := by decide +kernel
theorem d_Mo_together_9 : decode (yB Y_Mo_together) 9 = .ok (.ifCond .eq 15, 3) := by decide +kernel
theorem d_Mo_together_12 : decode (yB Y_Mo_together) 12 = .ok (.iload_n 2, 1) := by decide +kernel
theorem d_Mo_together_13 : decode (yB Y_Mo_together) 13 = .ok (.invokestatic 190, 3) := by decide +kernel
theorem d_Mo_together_16 : decode (yB Y_Mo_together) 16 = .ok (.ifCond .eq 8, 3) := by decide +kernel
theorem d_Mo_together_19 : decode (yB Y_Mo_together) 19 = .ok (.iload_n 1, 1) := by decide +kernel
theorem d_Mo_together_20 : decode (yB Y_Mo_together) 20 = .ok (.iload_n 2, 1) := by decide +kernel
theorem d_Mo_together_21 : decode (yB Y_Mo_together) 21 = .ok (.if_icmp .ne 5, 3) := by decide +kernel
theorem d_Mo_together_24 : decode (yB Y_Mo_together) 24 = .ok (.iconst (-1), 1) := by decide +kernel
theorem d_Mo_together_25 : decode (yB Y_Mo_together) 25 = .ok (.ireturn, 1) := by decide +kernel
theorem d_Mo_together_26 : decode (yB Y_Mo_together) 26 = .ok (.iconst 1, 1) := by decide +kernel
theorem d_Mo_together_27 : decode (yB Y_Mo_together) 27 = .ok (.istore_n 3, 1) := by decide +kernel
theorem d_Mo_together_28 : decode (yB Y_Mo_together) 28 = .ok (.iload_n 3, 1) := by decide +kernel
theorem d_Mo_together_29 : decode (yB Y_Mo_together) 29 = .ok (.iload_n 1, 1) := by decide +kernel
theorem d_Mo_together_30 : decode (yB Y_Mo_together) 30 = .ok (.iload_n 2, 1) := by decide +kernel
theorem d_Mo_together_31 : decode (yB Y_Mo_together) 31 = .ok (.isub, 1) := by decide +kernel
theorem d_Mo_together_32 : decode (yB Y_Mo_together) 32 = .ok (.imul, 1) := by decide +kernel
theorem d_Mo_together_33 : decode (yB Y_Mo_together) 33 = .ok (.bipush 8, 2) := by decide +kernel
theorem d_Mo_together_35 : decode (yB Y_Mo_together) 35 = .ok (.irem, 1) := by decide +kernel
theorem d_Mo_together_36 : decode (yB Y_Mo_together) 36 = .ok (.ifCond .eq 9, 3) := by decide +kernel
theorem d_Mo_together_39 : decode (yB Y_Mo_together) 39 = .ok (.iinc 3 1, 3) := by decide +kernel
theorem d_Mo_together_42 : decode (yB Y_Mo_together) 42 = .ok (.goto (-14), 3) := by decide +kernel
theorem d_Mo_together_45 : decode (yB Y_Mo_together) 45 = .ok (.iload_n 3, 1) := by decide +kernel
theorem d_Mo_together_46 : decode (yB Y_Mo_together) 46 = .ok (.ireturn, 1) := by decide +kernel
def F_Mo_together_L28 (n : Nat) (E : zE) (S : zS) (r28 : Int32 × Int32 × Int32 × zH → Option (Int32 × zH)) (x1 : Int32) (x2 : Int32) (x3 : Int32) (M : zH) : Option (Int32 × zH) :=
  (zremI (x3 * (x1 - x2)) 8).bind fun v_1 =>
  if v_1 = 0 then
    some (x3, M)
  else
    r28 (x1, x2, x3 + 1, M)
def F_Mo_together_b28 (n : Nat) (E : zE) (S : zS) : Int32 × Int32 × Int32 × zH → Option (Int32 × zH) := zfix (fun r28 s => F_Mo_together_L28 n E S r28 s.1 s.2.1 s.2.2.1 s.2.2.2) n
def F_Mo_together (n : Nat) (E : zE) (S : zS) (a0 : Nat) (x1 : Int32) (x2 : Int32) (M : zH) : Option (Int32 × zH) :=
  (zpI S M a0 11 0 0).bind fun m_3 =>
  (F_Mo_isRing n E S x1 m_3).bind fun q_4 =>
  if q_4.1 = true then
    (F_Mo_isRing n E S x2 q_4.2).bind fun q_6 =>
    if q_6.1 = true then
      if x1 = x2 then
        some ((-1), q_6.2)
      else
        F_Mo_together_b28 n E S (x1, x2, 1, q_6.2)
    else
      some ((-1), q_6.2)
  else
    some ((-1), q_4.2)
theorem K_Mo_together_L28 (n : Nat) (E : zE) (S : zS) (r28 : Int32 × Int32 × Int32 × zH → Option (Int32 × zH)) (x1 : Int32) (x2 : Int32) (x3 : Int32) (M : zH) (r : Int32) (M' : zH) (hr28 : ∀ (x1 : Int32) (x2 : Int32) (x3 : Int32) (M : zH), r28 (x1, x2, x3, M) = some (r, M') → zG E Y_Mo_together (some (.int r), S, M') 28 [(1, .int x1), (2, .int x2), (3, .int x3)] [] S M 0 0) (h : F_Mo_together_L28 n E S r28 x1 x2 x3 M = some (r, M')) : zG E Y_Mo_together (some (.int r), S, M') 28 [(1, .int x1), (2, .int x2), (3, .int x3)] [] S M 0 0 := by
  unfold F_Mo_together_L28 at h
  refine zi_iload_n 2 d_Mo_together_28 rfl ?_
  refine zi_iload_n 0 d_Mo_together_29 rfl ?_
  refine zi_iload_n 1 d_Mo_together_30 rfl ?_
  refine zi_isub d_Mo_together_31 ?_
  refine zi_imul d_Mo_together_32 ?_
  refine zi_bipush 8 d_Mo_together_33 rfl ?_
  obtain ⟨v_1, ev_1, h⟩ := zbind h
  refine zo_irem 36 d_Mo_together_35 ev_1 rfl ?_
  refine zi_if_eq (tgt := 45) d_Mo_together_36 rfl (fun c_2 => ?_) (fun c_2 => ?_)
  · rw [if_pos c_2] at h
    refine zi_iload_n 2 d_Mo_together_45 rfl ?_
    cases h
    exact zo_ret d_Mo_together_46 (Nat.le_of_ble_eq_true rfl) (Nat.le_of_ble_eq_true rfl) rfl
  · rw [if_neg c_2] at h
    refine zi_iinc 2 (x3 + 1) [(3, .int (x3 + 1)), (1, .int x1), (2, .int x2)] d_Mo_together_39 rfl rfl (by decide) rfl ?_
    refine zi_goto (tgt := 28) d_Mo_together_42 rfl ?_
    refine zi_lo [(1, .int x1), (2, .int x2), (3, .int (x3 + 1))] [1, 2, 0] rfl ?_
    exact hr28 x1 x2 (x3 + 1) M h
theorem K_Mo_together_b28 (n : Nat) (E : zE) (S : zS) (x1 : Int32) (x2 : Int32) (x3 : Int32) (M : zH) (r : Int32) (M' : zH)  (h : F_Mo_together_b28 n E S (x1, x2, x3, M) = some (r, M')) : zG E Y_Mo_together (some (.int r), S, M') 28 [(1, .int x1), (2, .int x2), (3, .int x3)] [] S M 0 0 := by
  have key : ∀ (k : Nat) (x1 : Int32) (x2 : Int32) (x3 : Int32) (M : zH), zfix (fun r28 s => F_Mo_together_L28 n E S r28 s.1 s.2.1 s.2.2.1 s.2.2.2) k (x1, x2, x3, M) = some (r, M') → zG E Y_Mo_together (some (.int r), S, M') 28 [(1, .int x1), (2, .int x2), (3, .int x3)] [] S M 0 0 := by
    intro k
    induction k with
    | zero => intro x1 x2 x3 M h; cases h
    | succ k ih => intro x1 x2 x3 M h; exact K_Mo_together_L28 n E S _ x1 x2 x3 M r M'  (fun x1 x2 x3 M h => ih x1 x2 x3 M h) h
  exact key n x1 x2 x3 M h
theorem K_Mo_together (n : Nat) (E : zE) (S : zS) (a0 : Nat) (x1 : Int32) (x2 : Int32) (M : zH) (r : Int32) (M' : zH)  (h : F_Mo_together n E S a0 x1 x2 M = some (r, M')) : zG E Y_Mo_together (some (.int r), S, M') 0 [(0, .ref a0), (1, .int x1), (2, .int x2)] [] S M 0 0 := by
  unfold F_Mo_together at h
  refine zi_aload_n 0 d_Mo_together_0 rfl ?_
  refine zi_iconst 0 d_Mo_together_1 rfl ?_
  obtain ⟨m_3, em_3, h⟩ := zbind h
  refine zo_putI 5 zkd_11 0 d_Mo_together_2 em_3 rfl rfl rfl tw_1229 rfl ?_
  refine zi_iload_n 1 d_Mo_together_5 rfl ?_
  obtain ⟨q_4, eq_4, h⟩ := zbind h
  refine zo_stat (k' := 0) (n' := 0) 9 [.int x1] [] [.int (bI q_4.1)] (C_Mo_isRing n E S x1 m_3 q_4.1 q_4.2 eq_4) d_Mo_together_6 tw_1434 tw_1432 tw_1433 tw_13 dd_Mo_isRing ⟨Nat.le_of_ble_eq_true rfl, Nat.le_of_ble_eq_true rfl, Nat.le_of_ble_eq_true rfl, Nat.le_of_ble_eq_true rfl⟩ (Nat.le_of_ble_eq_true rfl) rfl rfl rfl rfl ?_
  refine zo_ifeqB d_Mo_together_9 rfl 12 rfl (fun c_5 => ?_) (fun c_5 => ?_)
  · rw [if_neg c_5] at h
    refine zi_iconst (-1) d_Mo_together_24 rfl ?_
    cases h
    exact zo_ret d_Mo_together_25 (Nat.le_of_ble_eq_true rfl) (Nat.le_of_ble_eq_true rfl) rfl
  · rw [if_pos c_5] at h
    refine zi_iload_n 2 d_Mo_together_12 rfl ?_
    obtain ⟨q_6, eq_6, h⟩ := zbind h
    refine zo_stat (k' := 0) (n' := 0) 16 [.int x2] [] [.int (bI q_6.1)] (C_Mo_isRing n E S x2 q_4.2 q_6.1 q_6.2 eq_6) d_Mo_together_13 tw_1434 tw_1432 tw_1433 tw_13 dd_Mo_isRing ⟨Nat.le_of_ble_eq_true rfl, Nat.le_of_ble_eq_true rfl, Nat.le_of_ble_eq_true rfl, Nat.le_of_ble_eq_true rfl⟩ (Nat.le_of_ble_eq_true rfl) rfl rfl rfl rfl ?_
    refine zo_ifeqB d_Mo_together_16 rfl 19 rfl (fun c_7 => ?_) (fun c_7 => ?_)
    · rw [if_neg c_7] at h
      refine zi_iconst (-1) d_Mo_together_24 rfl ?_
      cases h
      exact zo_ret d_Mo_together_25 (Nat.le_of_ble_eq_true rfl) (Nat.le_of_ble_eq_true rfl) rfl
    · rw [if_pos c_7] at h
      refine zi_iload_n 1 d_Mo_together_19 rfl ?_
      refine zi_iload_n 2 d_Mo_together_20 rfl ?_
      refine zi_icmp_ne (tgt := 26) d_Mo_together_21 rfl (fun c_8 => ?_) (fun c_8 => ?_)
      · rw [if_neg c_8] at h
        refine zi_iconst 1 d_Mo_together_26 rfl ?_
        refine zi_istore_n [(3, .int 1), (0, .ref a0), (1, .int x1), (2, .int x2)] d_Mo_together_27 (by decide) rfl ?_
        refine zi_lo [(1, .int x1), (2, .int x2), (3, .int 1)] [2, 3, 0] rfl ?_
        exact K_Mo_together_b28 n E S x1 x2 1 q_6.2 r M'  h
      · rw [if_pos c_8] at h
        refine zi_iconst (-1) d_Mo_together_24 rfl ?_
        cases h
        exact zo_ret d_Mo_together_25 (Nat.le_of_ble_eq_true rfl) (Nat.le_of_ble_eq_true rfl) rfl
theorem C_Mo_together (n : Nat) (E : zE) (S : zS) (a0 : Nat) (x1 : Int32) (x2 : Int32) (M : zH) (r : Int32) (M' : zH) (h : F_Mo_together n E S a0 x1 x2 M = some (r, M')) : zC E Y_Mo_together [.ref a0, .int x1, .int x2] S M (some (.int r), S, M') :=
  zC.of (Or.inl (show plainName "NightColanderModel" = true by decide)) (Nat.le_of_ble_eq_true rfl) (trivial) (K_Mo_together n E S a0 x1 x2 M r M' h)
theorem d_Mo_settled_0 : decode (yB Y_Mo_settled) 0 = .ok (.aload_n 0, 1) := by decide +kernel
theorem d_Mo_settled_1 : decode (yB Y_Mo_settled) 1 = .ok (.iconst 0, 1) := by decide +kernel
theorem d_Mo_settled_2 : decode (yB Y_Mo_settled) 2 = .ok (.putfield 156, 3) := by decide +kernel
theorem d_Mo_settled_5 : decode (yB Y_Mo_settled) 5 = .ok (.aload_n 0, 1) := by decide +kernel
theorem d_Mo_settled_6 : decode (yB Y_Mo_settled) 6 = .ok (.iload_n 1, 1) := by decide +kernel
theorem d_Mo_settled_7 : decode (yB Y_Mo_settled) 7 = .ok (.invokevirtual 214, 3) := by decide +kernel
theorem d_Mo_settled_10 : decode (yB Y_Mo_settled) 10 = .ok (.ifCond .ne 5, 3) := by decide +kernel
theorem d_Mo_settled_13 : decode (yB Y_Mo_settled) 13 = .ok (.iconst (-1), 1) := by decide +kernel
theorem d_Mo_settled_14 : decode (yB Y_Mo_settled) 14 = .ok (.ireturn, 1) := by decide +kernel
theorem d_Mo_settled_15 : decode (yB Y_Mo_settled) 15 = .ok (.iload_n 1, 1) := by decide +kernel
theorem d_Mo_settled_16 : decode (yB Y_Mo_settled) 16 = .ok (.aload_n 0, 1) := by decide +kernel
theorem d_Mo_settled_17 : decode (yB Y_Mo_settled) 17 = .ok (.getfield 13, 3) := by decide +kernel
theorem d_Mo_settled_20 : decode (yB Y_Mo_settled) 20 = .ok (.iconst 0, 1) := by decide +kernel
theorem d_Mo_settled_21 : decode (yB Y_Mo_settled) 21 = .ok (.iaload, 1) := by decide +kernel
theorem d_Mo_settled_22 : decode (yB Y_Mo_settled) 22 = .ok (.iadd, 1) := by decide +kernel
theorem d_Mo_settled_23 : decode (yB Y_Mo_settled) 23 = .ok (.iconst 1, 1) := by decide +kernel
theorem d_Mo_settled_24 : decode (yB Y_Mo_settled) 24 = .ok (.isub, 1) := by decide +kernel
theorem d_Mo_settled_25 : decode (yB Y_Mo_settled) 25 = .ok (.aload_n 0, 1) := by decide +kernel
theorem d_Mo_settled_26 : decode (yB Y_Mo_settled) 26 = .ok (.getfield 13, 3) := by decide +kernel
theorem d_Mo_settled_29 : decode (yB Y_Mo_settled) 29 = .ok (.iconst 0, 1) := by decide +kernel
theorem d_Mo_settled_30 : decode (yB Y_Mo_settled) 30 = .ok (.iaload, 1) := by decide +kernel
theorem d_Mo_settled_31 : decode (yB Y_Mo_settled) 31 = .ok (.irem, 1) := by decide +kernel
theorem d_Mo_settled_32 : decode (yB Y_Mo_settled) 32 = .ok (.istore_n 2, 1) := by decide +kernel
theorem d_Mo_settled_33 : decode (yB Y_Mo_settled) 33 = .ok (.aload_n 0, 1) := by decide +kernel
theorem d_Mo_settled_34 : decode (yB Y_Mo_settled) 34 = .ok (.getfield 13, 3) := by decide +kernel
theorem d_Mo_settled_37 : decode (yB Y_Mo_settled) 37 = .ok (.bipush 48, 2) := by decide +kernel
theorem d_Mo_settled_39 : decode (yB Y_Mo_settled) 39 = .ok (.iload_n 1, 1) := by decide +kernel
theorem d_Mo_settled_40 : decode (yB Y_Mo_settled) 40 = .ok (.iadd, 1) := by decide +kernel
theorem d_Mo_settled_41 : decode (yB Y_Mo_settled) 41 = .ok (.iaload, 1) := by decide +kernel
theorem d_Mo_settled_42 : decode (yB Y_Mo_settled) 42 = .ok (.aload_n 0, 1) := by decide +kernel
theorem d_Mo_settled_43 : decode (yB Y_Mo_settled) 43 = .ok (.getfield 13, 3) := by decide +kernel
theorem d_Mo_settled_46 : decode (yB Y_Mo_settled) 46 = .ok (.bipush 48, 2) := by decide +kernel
theorem d_Mo_settled_48 : decode (yB Y_Mo_settled) 48 = .ok (.iload_n 1, 1) := by decide +kernel
theorem d_Mo_settled_49 : decode (yB Y_Mo_settled) 49 = .ok (.iadd, 1) := by decide +kernel
theorem d_Mo_settled_50 : decode (yB Y_Mo_settled) 50 = .ok (.iaload, 1) := by decide +kernel
theorem d_Mo_settled_51 : decode (yB Y_Mo_settled) 51 = .ok (.iconst 2, 1) := by decide +kernel
theorem d_Mo_settled_52 : decode (yB Y_Mo_settled) 52 = .ok (.idiv, 1) := by decide +kernel
theorem d_Mo_settled_53 : decode (yB Y_Mo_settled) 53 = .ok (.isub, 1) := by decide +kernel
theorem d_Mo_settled_54 : decode (yB Y_Mo_settled) 54 = .ok (.aload_n 0, 1) := by decide +kernel
theorem d_Mo_settled_55 : decode (yB Y_Mo_settled) 55 = .ok (.getfield 13, 3) := by decide +kernel
theorem d_Mo_settled_58 : decode (yB Y_Mo_settled) 58 = .ok (.bipush 48, 2) := by decide +kernel
theorem d_Mo_settled_60 : decode (yB Y_Mo_settled) 60 = .ok (.iload_n 2, 1) := by decide +kernel
theorem d_Mo_settled_61 : decode (yB Y_Mo_settled) 61 = .ok (.iadd, 1) := by decide +kernel
theorem d_Mo_settled_62 : decode (yB Y_Mo_settled) 62 = .ok (.iaload, 1) := by decide +kernel
theorem d_Mo_settled_63 : decode (yB Y_Mo_settled) 63 = .ok (.iconst 2, 1) := by decide +kernel
theorem d_Mo_settled_64 : decode (yB Y_Mo_settled) 64 = .ok (.idiv, 1) := by decide +kernel
theorem d_Mo_settled_65 : decode (yB Y_Mo_settled) 65 = .ok (.iadd, 1) := by decide +kernel
theorem d_Mo_settled_66 : decode (yB Y_Mo_settled) 66 = .ok (.ireturn, 1) := by decide +kernel
def F_Mo_settled (n : Nat) (E : zE) (S : zS) (a0 : Nat) (x1 : Int32) (M : zH) : Option (Int32 × zH) :=
  (zpI S M a0 11 0 0).bind fun m_1 =>
  (zck S a0 11).bind fun u_2 =>
  (F_Mo_isBucket n E S a0 x1 m_1).bind fun q_3 =>
  if q_3.1 = true then
    (zgR S a0 11 3).bind fun b_5 =>
    (zldI S q_3.2 b_5 0).bind fun v_6 =>
    (zldI S q_3.2 b_5 0).bind fun v_7 =>
    (zremI ((x1 + v_6) - 1) v_7).bind fun v_8 =>
    (zldI S q_3.2 b_5 (48 + x1)).bind fun v_9 =>
    (zldI S q_3.2 b_5 (48 + x1)).bind fun v_10 =>
    (zdivI v_10 2).bind fun v_11 =>
    (zldI S q_3.2 b_5 (48 + v_8)).bind fun v_12 =>
    (zdivI v_12 2).bind fun v_13 =>
    some ((v_9 - v_11) + v_13, q_3.2)
  else
    some ((-1), q_3.2)
theorem K_Mo_settled (n : Nat) (E : zE) (S : zS) (a0 : Nat) (x1 : Int32) (M : zH) (r : Int32) (M' : zH)  (h : F_Mo_settled n E S a0 x1 M = some (r, M')) : zG E Y_Mo_settled (some (.int r), S, M') 0 [(0, .ref a0), (1, .int x1)] [] S M 0 0 := by
  unfold F_Mo_settled at h
  refine zi_aload_n 0 d_Mo_settled_0 rfl ?_
  refine zi_iconst 0 d_Mo_settled_1 rfl ?_
  obtain ⟨m_1, em_1, h⟩ := zbind h
  refine zo_putI 5 zkd_11 0 d_Mo_settled_2 em_1 rfl rfl rfl tw_1229 rfl ?_
  refine zi_aload_n 0 d_Mo_settled_5 rfl ?_
  refine zi_iload_n 1 d_Mo_settled_6 rfl ?_
  obtain ⟨u_2, eu_2, h⟩ := zbind h
  obtain ⟨q_3, eq_3, h⟩ := zbind h
  refine zo_virt (k' := 0) (n' := 0) 10 [.int x1] [] [.int (bI q_3.1)] zkd_11 (zck_s eu_2) (C_Mo_isBucket n E S a0 x1 m_1 q_3.1 q_3.2 eq_3) d_Mo_settled_7 tw_1463 tw_1460 tw_1462 ts_43 tw_13 dd_Mo_isBucket ⟨Nat.le_of_ble_eq_true rfl, Nat.le_of_ble_eq_true rfl, Nat.le_of_ble_eq_true rfl, Nat.le_of_ble_eq_true rfl⟩ (Nat.le_of_ble_eq_true rfl) rfl rfl rfl rfl ?_
  refine zo_ifneB d_Mo_settled_10 rfl 13 rfl (fun c_4 => ?_) (fun c_4 => ?_)
  · rw [if_pos c_4] at h
    refine zi_iload_n 1 d_Mo_settled_15 rfl ?_
    refine zi_aload_n 0 d_Mo_settled_16 rfl ?_
    obtain ⟨b_5, eb_5, h⟩ := zbind h
    refine zo_getR 20 zkd_11 3 d_Mo_settled_17 eb_5 rfl tw_1232 rfl ?_
    refine zi_iconst 0 d_Mo_settled_20 rfl ?_
    obtain ⟨v_6, ev_6, h⟩ := zbind h
    refine zo_iald 22 d_Mo_settled_21 ev_6 rfl ?_
    refine zi_iadd d_Mo_settled_22 ?_
    refine zi_iconst 1 d_Mo_settled_23 rfl ?_
    refine zi_isub d_Mo_settled_24 ?_
    refine zi_aload_n 0 d_Mo_settled_25 rfl ?_
    refine zo_getR 29 zkd_11 3 d_Mo_settled_26 eb_5 rfl tw_1232 rfl ?_
    refine zi_iconst 0 d_Mo_settled_29 rfl ?_
    obtain ⟨v_7, ev_7, h⟩ := zbind h
    refine zo_iald 31 d_Mo_settled_30 ev_7 rfl ?_
    obtain ⟨v_8, ev_8, h⟩ := zbind h
    refine zo_irem 32 d_Mo_settled_31 ev_8 rfl ?_
    refine zi_istore_n [(2, .int v_8), (0, .ref a0), (1, .int x1)] d_Mo_settled_32 (by decide) rfl ?_
    refine zi_aload_n 1 d_Mo_settled_33 rfl ?_
    refine zo_getR 37 zkd_11 3 d_Mo_settled_34 eb_5 rfl tw_1232 rfl ?_
    refine zi_bipush 48 d_Mo_settled_37 rfl ?_
    refine zi_iload_n 2 d_Mo_settled_39 rfl ?_
    refine zi_iadd d_Mo_settled_40 ?_
    obtain ⟨v_9, ev_9, h⟩ := zbind h
    refine zo_iald 42 d_Mo_settled_41 ev_9 rfl ?_
    refine zi_aload_n 1 d_Mo_settled_42 rfl ?_
    refine zo_getR 46 zkd_11 3 d_Mo_settled_43 eb_5 rfl tw_1232 rfl ?_
    refine zi_bipush 48 d_Mo_settled_46 rfl ?_
    refine zi_iload_n 2 d_Mo_settled_48 rfl ?_
    refine zi_iadd d_Mo_settled_49 ?_
    obtain ⟨v_10, ev_10, h⟩ := zbind h
    refine zo_iald 51 d_Mo_settled_50 ev_10 rfl ?_
    refine zi_iconst 2 d_Mo_settled_51 rfl ?_
    obtain ⟨v_11, ev_11, h⟩ := zbind h
    refine zo_idiv 53 d_Mo_settled_52 ev_11 rfl ?_
    refine zi_isub d_Mo_settled_53 ?_
    refine zi_aload_n 1 d_Mo_settled_54 rfl ?_
    refine zo_getR 58 zkd_11 3 d_Mo_settled_55 eb_5 rfl tw_1232 rfl ?_
    refine zi_bipush 48 d_Mo_settled_58 rfl ?_
    refine zi_iload_n 0 d_Mo_settled_60 rfl ?_
    refine zi_iadd d_Mo_settled_61 ?_
    obtain ⟨v_12, ev_12, h⟩ := zbind h
    refine zo_iald 63 d_Mo_settled_62 ev_12 rfl ?_
    refine zi_iconst 2 d_Mo_settled_63 rfl ?_
    obtain ⟨v_13, ev_13, h⟩ := zbind h
    refine zo_idiv 65 d_Mo_settled_64 ev_13 rfl ?_
    refine zi_iadd d_Mo_settled_65 ?_
    cases h
    exact zo_ret d_Mo_settled_66 (Nat.le_of_ble_eq_true rfl) (Nat.le_of_ble_eq_true rfl) rfl
  · rw [if_neg c_4] at h
    refine zi_iconst (-1) d_Mo_settled_13 rfl ?_
    cases h
    exact zo_ret d_Mo_settled_14 (Nat.le_of_ble_eq_true rfl) (Nat.le_of_ble_eq_true rfl) rfl
theorem C_Mo_settled (n : Nat) (E : zE) (S : zS) (a0 : Nat) (x1 : Int32) (M : zH) (r : Int32) (M' : zH) (h : F_Mo_settled n E S a0 x1 M = some (r, M')) : zC E Y_Mo_settled [.ref a0, .int x1] S M (some (.int r), S, M') :=
  zC.of (Or.inl (show plainName "NightColanderModel" = true by decide)) (Nat.le_of_ble_eq_true rfl) (trivial) (K_Mo_settled n E S a0 x1 M r M' h)
theorem d_Mo_few_0 : decode (yB Y_Mo_few) 0 = .ok (.aload_n 0, 1) := by decide +kernel
theorem d_Mo_few_1 : decode (yB Y_Mo_few) 1 = .ok (.iconst 0, 1) := by decide +kernel
theorem d_Mo_few_2 : decode (yB Y_Mo_few) 2 = .ok (.putfield 156, 3) := by decide +kernel
theorem d_Mo_few_5 : decode (yB Y_Mo_few) 5 = .ok (.iload_n 1, 1) := by decide +kernel
theorem d_Mo_few_6 : decode (yB Y_Mo_few) 6 = .ok (.i2l, 1) := by decide +kernel
theorem d_Mo_few_7 : decode (yB Y_Mo_few) 7 = .ok (.lconst 1, 1) := by decide +kernel
theorem d_Mo_few_8 : decode (yB Y_Mo_few) 8 = .ok (.ldc2_w 304, 3) := by decide +kernel
theorem d_Mo_few_11 : decode (yB Y_Mo_few) 11 = .ok (.invokestatic 176, 3) := by decide +kernel
theorem d_Mo_few_14 : decode (yB Y_Mo_few) 14 = .ok (.ifCond .eq 15, 3) := by decide +kernel
theorem d_Mo_few_17 : decode (yB Y_Mo_few) 17 = .ok (.iload_n 2, 1) := by decide +kernel
theorem d_Mo_few_18 : decode (yB Y_Mo_few) 18 = .ok (.i2l, 1) := by decide +kernel
theorem d_Mo_few_19 : decode (yB Y_Mo_few) 19 = .ok (.lconst 0, 1) := by decide +kernel
theorem d_Mo_few_20 : decode (yB Y_Mo_few) 20 = .ok (.ldc2_w 209, 3) := by decide +kernel
theorem d_Mo_few_23 : decode (yB Y_Mo_few) 23 = .ok (.invokestatic 176, 3) := by decide +kernel
theorem d_Mo_few_26 : decode (yB Y_Mo_few) 26 = .ok (.ifCond .ne 7, 3) := by decide +kernel
theorem d_Mo_few_29 : decode (yB Y_Mo_few) 29 = .ok (.ldc2_w 228, 3) := by decide +kernel
theorem d_Mo_few_32 : decode (yB Y_Mo_few) 32 = .ok (.lreturn, 1) := by decide +kernel
theorem d_Mo_few_33 : decode (yB Y_Mo_few) 33 = .ok (.iconst 0, 1) := by decide +kernel
theorem d_Mo_few_34 : decode (yB Y_Mo_few) 34 = .ok (.istore_n 3, 1) := by decide +kernel
theorem d_Mo_few_35 : decode (yB Y_Mo_few) 35 = .ok (.iload_n 3, 1) := by decide +kernel
theorem d_Mo_few_36 : decode (yB Y_Mo_few) 36 = .ok (.bipush 21, 2) := by decide +kernel
theorem d_Mo_few_38 : decode (yB Y_Mo_few) 38 = .ok (.if_icmp .ge 26, 3) := by decide +kernel
theorem d_Mo_few_41 : decode (yB Y_Mo_few) 41 = .ok (.aload_n 0, 1) := by decide +kernel
theorem d_Mo_few_42 : decode (yB Y_Mo_few) 42 = .ok (.getfield 130, 3) := by decide +kernel
theorem d_Mo_few_45 : decode (yB Y_Mo_few) 45 = .ok (.iload_n 3, 1) := by decide +kernel
theorem d_Mo_few_46 : decode (yB Y_Mo_few) 46 = .ok (.iload_n 3, 1) := by decide +kernel
theorem d_Mo_few_47 : decode (yB Y_Mo_few) 47 = .ok (.ifCond .ne 9, 3) := by decide +kernel
theorem d_Mo_few_50 : decode (yB Y_Mo_few) 50 = .ok (.ldc2_w 503, 3) := by decide +kernel
theorem d_Mo_few_53 : decode (yB Y_Mo_few) 53 = .ok (.goto 4, 3) := by decide +kernel
theorem d_Mo_few_56 : decode (yB Y_Mo_few) 56 = .ok (.lconst 0, 1) := by decide +kernel
theorem d_Mo_few_57 : decode (yB Y_Mo_few) 57 = .ok (.lastore, 1) := by decide +kernel
theorem d_Mo_few_58 : decode (yB Y_Mo_few) 58 = .ok (.iinc 3 1, 3) := by decide +kernel
theorem d_Mo_few_61 : decode (yB Y_Mo_few) 61 = .ok (.goto (-26), 3) := by decide +kernel
theorem d_Mo_few_64 : decode (yB Y_Mo_few) 64 = .ok (.aload_n 0, 1) := by decide +kernel
theorem d_Mo_few_65 : decode (yB Y_Mo_few) 65 = .ok (.getfield 13, 3) := by decide +kernel
theorem d_Mo_few_68 : decode (yB Y_Mo_few) 68 = .ok (.bipush 7, 2) := by decide +kernel
theorem d_Mo_few_70 : decode (yB Y_Mo_few) 70 = .ok (.iaload, 1) := by decide +kernel
theorem d_Mo_few_71 : decode (yB Y_Mo_few) 71 = .ok (.istore_n 3, 1) := by decide +kernel
theorem d_Mo_few_72 : decode (yB Y_Mo_few) 72 = .ok (.iconst 0, 1) := by decide +kernel
theorem d_Mo_few_73 : decode (yB Y_Mo_few) 73 = .ok (.istore 4, 2) := by decide +kernel
theorem d_Mo_few_75 : decode (yB Y_Mo_few) 75 = .ok (.iload 4, 2) := by decide +kernel
theorem d_Mo_few_77 : decode (yB Y_Mo_few) 77 = .ok (.iload_n 2, 1) := by decide +kernel
theorem d_Mo_few_78 : decode (yB Y_Mo_few) 78 = .ok (.if_icmp .ge 74, 3) := by decide +kernel
theorem d_Mo_few_81 : decode (yB Y_Mo_few) 81 = .ok (.iload_n 1, 1) := by decide +kernel
theorem d_Mo_few_82 : decode (yB Y_Mo_few) 82 = .ok (.iconst 1, 1) := by decide +kernel
theorem d_Mo_few_83 : decode (yB Y_Mo_few) 83 = .ok (.isub, 1) := by decide +kernel
theorem d_Mo_few_84 : decode (yB Y_Mo_few) 84 = .ok (.istore 5, 2) := by decide +kernel
theorem d_Mo_few_86 : decode (yB Y_Mo_few) 86 = .ok (.iload 5, 2) := by decide +kernel
theorem d_Mo_few_88 : decode (yB Y_Mo_few) 88 = .ok (.ifCond .lt 58, 3) := by decide +kernel
theorem d_Mo_few_91 : decode (yB Y_Mo_few) 91 = .ok (.aload_n 0, 1) := by decide +kernel
theorem d_Mo_few_92 : decode (yB Y_Mo_few) 92 = .ok (.getfield 130, 3) := by decide +kernel
theorem d_Mo_few_95 : decode (yB Y_Mo_few) 95 = .ok (.iload 5, 2) := by decide +kernel
theorem d_Mo_few_97 : decode (yB Y_Mo_few) 97 = .ok (.laload, 1) := by decide +kernel
theorem d_Mo_few_98 : decode (yB Y_Mo_few) 98 = .ok (.lstore 6, 2) := by decide +kernel
theorem d_Mo_few_100 : decode (yB Y_Mo_few) 100 = .ok (.aload_n 0, 1) := by decide +kernel
theorem d_Mo_few_101 : decode (yB Y_Mo_few) 101 = .ok (.getfield 130, 3) := by decide +kernel
theorem d_Mo_few_104 : decode (yB Y_Mo_few) 104 = .ok (.iload 5, 2) := by decide +kernel
theorem d_Mo_few_106 : decode (yB Y_Mo_few) 106 = .ok (.lload 6, 2) := by decide +kernel
theorem d_Mo_few_108 : decode (yB Y_Mo_few) 108 = .ok (.bipush 10, 2) := by decide +kernel
theorem d_Mo_few_110 : decode (yB Y_Mo_few) 110 = .ok (.iload_n 3, 1) := by decide +kernel
theorem d_Mo_few_111 : decode (yB Y_Mo_few) 111 = .ok (.isub, 1) := by decide +kernel
theorem d_Mo_few_112 : decode (yB Y_Mo_few) 112 = .ok (.i2l, 1) := by decide +kernel
theorem d_Mo_few_113 : decode (yB Y_Mo_few) 113 = .ok (.lmul, 1) := by decide +kernel
theorem d_Mo_few_114 : decode (yB Y_Mo_few) 114 = .ok (.ldc2_w 239, 3) := by decide +kernel
theorem d_Mo_few_117 : decode (yB Y_Mo_few) 117 = .ok (.ldiv, 1) := by decide +kernel
theorem d_Mo_few_118 : decode (yB Y_Mo_few) 118 = .ok (.lastore, 1) := by decide +kernel
theorem d_Mo_few_119 : decode (yB Y_Mo_few) 119 = .ok (.aload_n 0, 1) := by decide +kernel
theorem d_Mo_few_120 : decode (yB Y_Mo_few) 120 = .ok (.getfield 130, 3) := by decide +kernel
theorem d_Mo_few_123 : decode (yB Y_Mo_few) 123 = .ok (.iload 5, 2) := by decide +kernel
theorem d_Mo_few_125 : decode (yB Y_Mo_few) 125 = .ok (.iconst 1, 1) := by decide +kernel
theorem d_Mo_few_126 : decode (yB Y_Mo_few) 126 = .ok (.iadd, 1) := by decide +kernel
theorem d_Mo_few_127 : decode (yB Y_Mo_few) 127 = .ok (.dup2, 1) := by decide +kernel
theorem d_Mo_few_128 : decode (yB Y_Mo_few) 128 = .ok (.laload, 1) := by decide +kernel
theorem d_Mo_few_129 : decode (yB Y_Mo_few) 129 = .ok (.lload 6, 2) := by decide +kernel
theorem d_Mo_few_131 : decode (yB Y_Mo_few) 131 = .ok (.iload_n 3, 1) := by decide +kernel
theorem d_Mo_few_132 : decode (yB Y_Mo_few) 132 = .ok (.i2l, 1) := by decide +kernel
theorem d_Mo_few_133 : decode (yB Y_Mo_few) 133 = .ok (.lmul, 1) := by decide +kernel
theorem d_Mo_few_134 : decode (yB Y_Mo_few) 134 = .ok (.ldc2_w 239, 3) := by decide +kernel
theorem d_Mo_few_137 : decode (yB Y_Mo_few) 137 = .ok (.ldiv, 1) := by decide +kernel
theorem d_Mo_few_138 : decode (yB Y_Mo_few) 138 = .ok (.ladd, 1) := by decide +kernel
theorem d_Mo_few_139 : decode (yB Y_Mo_few) 139 = .ok (.lastore, 1) := by decide +kernel
theorem d_Mo_few_140 : decode (yB Y_Mo_few) 140 = .ok (.iinc 5 (-1), 3) := by decide +kernel
theorem d_Mo_few_143 : decode (yB Y_Mo_few) 143 = .ok (.goto (-57), 3) := by decide +kernel
theorem d_Mo_few_146 : decode (yB Y_Mo_few) 146 = .ok (.iinc 4 1, 3) := by decide +kernel
theorem d_Mo_few_149 : decode (yB Y_Mo_few) 149 = .ok (.goto (-74), 3) := by decide +kernel
theorem d_Mo_few_152 : decode (yB Y_Mo_few) 152 = .ok (.lconst 0, 1) := by decide +kernel
theorem d_Mo_few_153 : decode (yB Y_Mo_few) 153 = .ok (.lstore 4, 2) := by decide +kernel
theorem d_Mo_few_155 : decode (yB Y_Mo_few) 155 = .ok (.iconst 0, 1) := by decide +kernel
theorem d_Mo_few_156 : decode (yB Y_Mo_few) 156 = .ok (.istore 6, 2) := by decide +kernel
theorem d_Mo_few_158 : decode (yB Y_Mo_few) 158 = .ok (.iload 6, 2) := by decide +kernel
theorem d_Mo_few_160 : decode (yB Y_Mo_few) 160 = .ok (.iload_n 1, 1) := by decide +kernel
theorem d_Mo_few_161 : decode (yB Y_Mo_few) 161 = .ok (.if_icmp .ge 21, 3) := by decide +kernel
theorem d_Mo_few_164 : decode (yB Y_Mo_few) 164 = .ok (.lload 4, 2) := by decide +kernel
theorem d_Mo_few_166 : decode (yB Y_Mo_few) 166 = .ok (.aload_n 0, 1) := by decide +kernel
theorem d_Mo_few_167 : decode (yB Y_Mo_few) 167 = .ok (.getfield 130, 3) := by decide +kernel
theorem d_Mo_few_170 : decode (yB Y_Mo_few) 170 = .ok (.iload 6, 2) := by decide +kernel
theorem d_Mo_few_172 : decode (yB Y_Mo_few) 172 = .ok (.laload, 1) := by decide +kernel
theorem d_Mo_few_173 : decode (yB Y_Mo_few) 173 = .ok (.ladd, 1) := by decide +kernel
theorem d_Mo_few_174 : decode (yB Y_Mo_few) 174 = .ok (.lstore 4, 2) := by decide +kernel
theorem d_Mo_few_176 : decode (yB Y_Mo_few) 176 = .ok (.iinc 6 1, 3) := by decide +kernel
theorem d_Mo_few_179 : decode (yB Y_Mo_few) 179 = .ok (.goto (-21), 3) := by decide +kernel
theorem d_Mo_few_182 : decode (yB Y_Mo_few) 182 = .ok (.lload 4, 2) := by decide +kernel
theorem d_Mo_few_184 : decode (yB Y_Mo_few) 184 = .ok (.lreturn, 1) := by decide +kernel
def F_Mo_few_b29 (n : Nat) (E : zE) (S : zS)  (M : zH) : Option (Int64 × zH) :=
  some ((-1), M)
def F_Mo_few_b57 (n : Nat) (E : zE) (S : zS) (r35 : Nat × Int32 × Int32 × Int32 × zH → Option (Int64 × zH)) (a0 : Nat) (x1 : Int32) (x2 : Int32) (x3 : Int32) (t0 : Int64) (s1 : Int32) (u2 : Nat) (M : zH) : Option (Int64 × zH) :=
  (zstJ S M u2 s1 t0).bind fun m_1 =>
  r35 (a0, x1, x2, x3 + 1, m_1)
def F_Mo_few_L86 (n : Nat) (E : zE) (S : zS) (r75 : Nat × Int32 × Int32 × Int32 × Int32 × zH → Option (Int64 × zH)) (r86 : Nat × Int32 × Int32 × Int32 × Int32 × Int32 × zH → Option (Int64 × zH)) (a0 : Nat) (x1 : Int32) (x2 : Int32) (x3 : Int32) (x4 : Int32) (x5 : Int32) (M : zH) : Option (Int64 × zH) :=
  if x5 < 0 then
    r75 (a0, x1, x2, x3, x4 + 1, M)
  else
    (zgR S a0 11 47).bind fun b_3 =>
    (zldJ S M b_3 x5).bind fun v_4 =>
    (zdivJ (v_4 * ((10 - x3).toInt64)) 10).bind fun v_5 =>
    (zstJ S M b_3 x5 v_5).bind fun m_6 =>
    (zldJ S m_6 b_3 (x5 + 1)).bind fun v_7 =>
    (zdivJ (v_4 * x3.toInt64) 10).bind fun v_8 =>
    (zstJ S m_6 b_3 (x5 + 1) (v_7 + v_8)).bind fun m_9 =>
    r86 (a0, x1, x2, x3, x4, x5 + (-1), m_9)
def F_Mo_few_b86 (n : Nat) (E : zE) (S : zS) (r75 : Nat × Int32 × Int32 × Int32 × Int32 × zH → Option (Int64 × zH)) : Nat × Int32 × Int32 × Int32 × Int32 × Int32 × zH → Option (Int64 × zH) := zfix (fun r86 s => F_Mo_few_L86 n E S r75 r86 s.1 s.2.1 s.2.2.1 s.2.2.2.1 s.2.2.2.2.1 s.2.2.2.2.2.1 s.2.2.2.2.2.2) n
def F_Mo_few_L158 (n : Nat) (E : zE) (S : zS) (r158 : Nat × Int32 × Int64 × Int32 × zH → Option (Int64 × zH)) (a0 : Nat) (x1 : Int32) (y4 : Int64) (x6 : Int32) (M : zH) : Option (Int64 × zH) :=
  if x1 ≤ x6 then
    some (y4, M)
  else
    (zgR S a0 11 47).bind fun b_11 =>
    (zldJ S M b_11 x6).bind fun v_12 =>
    r158 (a0, x1, y4 + v_12, x6 + 1, M)
def F_Mo_few_b158 (n : Nat) (E : zE) (S : zS) : Nat × Int32 × Int64 × Int32 × zH → Option (Int64 × zH) := zfix (fun r158 s => F_Mo_few_L158 n E S r158 s.1 s.2.1 s.2.2.1 s.2.2.2.1 s.2.2.2.2) n
def F_Mo_few_L75 (n : Nat) (E : zE) (S : zS) (r75 : Nat × Int32 × Int32 × Int32 × Int32 × zH → Option (Int64 × zH)) (a0 : Nat) (x1 : Int32) (x2 : Int32) (x3 : Int32) (x4 : Int32) (M : zH) : Option (Int64 × zH) :=
  if x2 ≤ x4 then
    F_Mo_few_b158 n E S (a0, x1, 0, 0, M)
  else
    F_Mo_few_b86 n E S r75 (a0, x1, x2, x3, x4, x1 - 1, M)
def F_Mo_few_b75 (n : Nat) (E : zE) (S : zS) : Nat × Int32 × Int32 × Int32 × Int32 × zH → Option (Int64 × zH) := zfix (fun r75 s => F_Mo_few_L75 n E S r75 s.1 s.2.1 s.2.2.1 s.2.2.2.1 s.2.2.2.2.1 s.2.2.2.2.2) n
def F_Mo_few_L35 (n : Nat) (E : zE) (S : zS) (r35 : Nat × Int32 × Int32 × Int32 × zH → Option (Int64 × zH)) (a0 : Nat) (x1 : Int32) (x2 : Int32) (x3 : Int32) (M : zH) : Option (Int64 × zH) :=
  if 21 ≤ x3 then
    (zgR S a0 11 3).bind fun b_15 =>
    (zldI S M b_15 7).bind fun v_16 =>
    F_Mo_few_b75 n E S (a0, x1, x2, v_16, 0, M)
  else
    (zgR S a0 11 47).bind fun b_17 =>
    if x3 = 0 then
      F_Mo_few_b57 n E S r35 a0 x1 x2 x3 1000000000000 x3 b_17 M
    else
      F_Mo_few_b57 n E S r35 a0 x1 x2 x3 0 x3 b_17 M
def F_Mo_few_b35 (n : Nat) (E : zE) (S : zS) : Nat × Int32 × Int32 × Int32 × zH → Option (Int64 × zH) := zfix (fun r35 s => F_Mo_few_L35 n E S r35 s.1 s.2.1 s.2.2.1 s.2.2.2.1 s.2.2.2.2) n
def F_Mo_few (n : Nat) (E : zE) (S : zS) (a0 : Nat) (x1 : Int32) (x2 : Int32) (M : zH) : Option (Int64 × zH) :=
  (zpI S M a0 11 0 0).bind fun m_19 =>
  (F_Mo_in n E S x1.toInt64 1 20 m_19).bind fun q_20 =>
  if q_20.1 = true then
    (F_Mo_in n E S x2.toInt64 0 99 q_20.2).bind fun q_22 =>
    if q_22.1 = true then
      F_Mo_few_b35 n E S (a0, x1, x2, 0, q_22.2)
    else
      F_Mo_few_b29 n E S  q_22.2
  else
    F_Mo_few_b29 n E S  q_20.2
theorem K_Mo_few_b29 (n : Nat) (E : zE) (S : zS)  (M : zH) (r : Int64) (M' : zH)  (h : F_Mo_few_b29 n E S  M = some (r, M')) : zG E Y_Mo_few (some (.long r), S, M') 29 [] [] S M 0 0 := by
  unfold F_Mo_few_b29 at h
  refine zi_ldc2 d_Mo_few_29 tw_1447 ?_
  cases h
  exact zo_ret d_Mo_few_32 (Nat.le_of_ble_eq_true rfl) (Nat.le_of_ble_eq_true rfl) rfl
theorem K_Mo_few_b57 (n : Nat) (E : zE) (S : zS) (r35 : Nat × Int32 × Int32 × Int32 × zH → Option (Int64 × zH)) (a0 : Nat) (x1 : Int32) (x2 : Int32) (x3 : Int32) (t0 : Int64) (s1 : Int32) (u2 : Nat) (M : zH) (r : Int64) (M' : zH) (hr35 : ∀ (a0 : Nat) (x1 : Int32) (x2 : Int32) (x3 : Int32) (M : zH), r35 (a0, x1, x2, x3, M) = some (r, M') → zG E Y_Mo_few (some (.long r), S, M') 35 [(0, .ref a0), (1, .int x1), (2, .int x2), (3, .int x3)] [] S M 0 0) (h : F_Mo_few_b57 n E S r35 a0 x1 x2 x3 t0 s1 u2 M = some (r, M')) : zG E Y_Mo_few (some (.long r), S, M') 57 [(0, .ref a0), (1, .int x1), (2, .int x2), (3, .int x3)] [.long t0, .int s1, .ref u2] S M 0 0 := by
  unfold F_Mo_few_b57 at h
  obtain ⟨m_1, em_1, h⟩ := zbind h
  refine zo_last 58 d_Mo_few_57 em_1 rfl ?_
  refine zi_iinc 3 (x3 + 1) [(3, .int (x3 + 1)), (0, .ref a0), (1, .int x1), (2, .int x2)] d_Mo_few_58 rfl rfl (by decide) rfl ?_
  refine zi_goto (tgt := 35) d_Mo_few_61 rfl ?_
  refine zi_lo [(0, .ref a0), (1, .int x1), (2, .int x2), (3, .int (x3 + 1))] [1, 2, 3, 0] rfl ?_
  exact hr35 a0 x1 x2 (x3 + 1) m_1 h
theorem K_Mo_few_L86 (n : Nat) (E : zE) (S : zS) (r75 : Nat × Int32 × Int32 × Int32 × Int32 × zH → Option (Int64 × zH)) (r86 : Nat × Int32 × Int32 × Int32 × Int32 × Int32 × zH → Option (Int64 × zH)) (a0 : Nat) (x1 : Int32) (x2 : Int32) (x3 : Int32) (x4 : Int32) (x5 : Int32) (M : zH) (r : Int64) (M' : zH) (hr75 : ∀ (a0 : Nat) (x1 : Int32) (x2 : Int32) (x3 : Int32) (x4 : Int32) (M : zH), r75 (a0, x1, x2, x3, x4, M) = some (r, M') → zG E Y_Mo_few (some (.long r), S, M') 75 [(0, .ref a0), (1, .int x1), (2, .int x2), (3, .int x3), (4, .int x4)] [] S M 0 0) (hr86 : ∀ (a0 : Nat) (x1 : Int32) (x2 : Int32) (x3 : Int32) (x4 : Int32) (x5 : Int32) (M : zH), r86 (a0, x1, x2, x3, x4, x5, M) = some (r, M') → zG E Y_Mo_few (some (.long r), S, M') 86 [(0, .ref a0), (1, .int x1), (2, .int x2), (3, .int x3), (4, .int x4), (5, .int x5)] [] S M 0 0) (h : F_Mo_few_L86 n E S r75 r86 a0 x1 x2 x3 x4 x5 M = some (r, M')) : zG E Y_Mo_few (some (.long r), S, M') 86 [(0, .ref a0), (1, .int x1), (2, .int x2), (3, .int x3), (4, .int x4), (5, .int x5)] [] S M 0 0 := by
  unfold F_Mo_few_L86 at h
  refine zi_iload 5 d_Mo_few_86 rfl ?_
  refine zi_if_lt (tgt := 146) d_Mo_few_88 rfl (fun c_2 => ?_) (fun c_2 => ?_)
  · rw [if_pos c_2] at h
    refine zi_iinc 4 (x4 + 1) [(4, .int (x4 + 1)), (0, .ref a0), (1, .int x1), (2, .int x2), (3, .int x3), (5, .int x5)] d_Mo_few_146 rfl rfl (by decide) rfl ?_
    refine zi_goto (tgt := 75) d_Mo_few_149 rfl ?_
    refine zi_lo [(0, .ref a0), (1, .int x1), (2, .int x2), (3, .int x3), (4, .int (x4 + 1))] [1, 2, 3, 4, 0] rfl ?_
    exact hr75 a0 x1 x2 x3 (x4 + 1) M h
  · rw [if_neg c_2] at h
    refine zi_aload_n 0 d_Mo_few_91 rfl ?_
    obtain ⟨b_3, eb_3, h⟩ := zbind h
    refine zo_getR 95 zkd_11 47 d_Mo_few_92 eb_3 rfl tw_1276 rfl ?_
    refine zi_iload 5 d_Mo_few_95 rfl ?_
    obtain ⟨v_4, ev_4, h⟩ := zbind h
    refine zo_lald 98 d_Mo_few_97 ev_4 rfl ?_
    refine zi_lstore [(6, .long v_4), (0, .ref a0), (1, .int x1), (2, .int x2), (3, .int x3), (4, .int x4), (5, .int x5)] d_Mo_few_98 (by decide) rfl ?_
    refine zi_aload_n 1 d_Mo_few_100 rfl ?_
    refine zo_getR 104 zkd_11 47 d_Mo_few_101 eb_3 rfl tw_1276 rfl ?_
    refine zi_iload 6 d_Mo_few_104 rfl ?_
    refine zi_lload 0 d_Mo_few_106 rfl ?_
    refine zi_bipush 10 d_Mo_few_108 rfl ?_
    refine zi_iload_n 4 d_Mo_few_110 rfl ?_
    refine zi_isub d_Mo_few_111 ?_
    refine zi_i2l d_Mo_few_112 ?_
    refine zi_lmul d_Mo_few_113 ?_
    refine zi_ldc2 d_Mo_few_114 tw_1537 ?_
    obtain ⟨v_5, ev_5, h⟩ := zbind h
    refine zo_ldiv 118 d_Mo_few_117 ev_5 rfl ?_
    obtain ⟨m_6, em_6, h⟩ := zbind h
    refine zo_last 119 d_Mo_few_118 em_6 rfl ?_
    refine zi_aload_n 1 d_Mo_few_119 rfl ?_
    refine zo_getR 123 zkd_11 47 d_Mo_few_120 eb_3 rfl tw_1276 rfl ?_
    refine zi_iload 6 d_Mo_few_123 rfl ?_
    refine zi_iconst 1 d_Mo_few_125 rfl ?_
    refine zi_iadd d_Mo_few_126 ?_
    refine zi_dup2 d_Mo_few_127 rfl rfl ?_
    obtain ⟨v_7, ev_7, h⟩ := zbind h
    refine zo_lald 129 d_Mo_few_128 ev_7 rfl ?_
    refine zi_lload 0 d_Mo_few_129 rfl ?_
    refine zi_iload_n 4 d_Mo_few_131 rfl ?_
    refine zi_i2l d_Mo_few_132 ?_
    refine zi_lmul d_Mo_few_133 ?_
    refine zi_ldc2 d_Mo_few_134 tw_1537 ?_
    obtain ⟨v_8, ev_8, h⟩ := zbind h
    refine zo_ldiv 138 d_Mo_few_137 ev_8 rfl ?_
    refine zi_ladd d_Mo_few_138 ?_
    obtain ⟨m_9, em_9, h⟩ := zbind h
    refine zo_last 140 d_Mo_few_139 em_9 rfl ?_
    refine zi_iinc 6 (x5 + (-1)) [(5, .int (x5 + (-1))), (6, .long v_4), (0, .ref a0), (1, .int x1), (2, .int x2), (3, .int x3), (4, .int x4)] d_Mo_few_140 rfl rfl (by decide) rfl ?_
    refine zi_goto (tgt := 86) d_Mo_few_143 rfl ?_
    refine zi_lo [(0, .ref a0), (1, .int x1), (2, .int x2), (3, .int x3), (4, .int x4), (5, .int (x5 + (-1)))] [2, 3, 4, 5, 6, 0] rfl ?_
    exact hr86 a0 x1 x2 x3 x4 (x5 + (-1)) m_9 h
theorem K_Mo_few_b86 (n : Nat) (E : zE) (S : zS) (r75 : Nat × Int32 × Int32 × Int32 × Int32 × zH → Option (Int64 × zH)) (a0 : Nat) (x1 : Int32) (x2 : Int32) (x3 : Int32) (x4 : Int32) (x5 : Int32) (M : zH) (r : Int64) (M' : zH) (hr75 : ∀ (a0 : Nat) (x1 : Int32) (x2 : Int32) (x3 : Int32) (x4 : Int32) (M : zH), r75 (a0, x1, x2, x3, x4, M) = some (r, M') → zG E Y_Mo_few (some (.long r), S, M') 75 [(0, .ref a0), (1, .int x1), (2, .int x2), (3, .int x3), (4, .int x4)] [] S M 0 0) (h : F_Mo_few_b86 n E S r75 (a0, x1, x2, x3, x4, x5, M) = some (r, M')) : zG E Y_Mo_few (some (.long r), S, M') 86 [(0, .ref a0), (1, .int x1), (2, .int x2), (3, .int x3), (4, .int x4), (5, .int x5)] [] S M 0 0 := by
  have key : ∀ (k : Nat) (a0 : Nat) (x1 : Int32) (x2 : Int32) (x3 : Int32) (x4 : Int32) (x5 : Int32) (M : zH), zfix (fun r86 s => F_Mo_few_L86 n E S r75 r86 s.1 s.2.1 s.2.2.1 s.2.2.2.1 s.2.2.2.2.1 s.2.2.2.2.2.1 s.2.2.2.2.2.2) k (a0, x1, x2, x3, x4, x5, M) = some (r, M') → zG E Y_Mo_few (some (.long r), S, M') 86 [(0, .ref a0), (1, .int x1), (2, .int x2), (3, .int x3), (4, .int x4), (5, .int x5)] [] S M 0 0 := by
    intro k
    induction k with
    | zero => intro a0 x1 x2 x3 x4 x5 M h; cases h
    | succ k ih => intro a0 x1 x2 x3 x4 x5 M h; exact K_Mo_few_L86 n E S r75 _ a0 x1 x2 x3 x4 x5 M r M' hr75 (fun a0 x1 x2 x3 x4 x5 M h => ih a0 x1 x2 x3 x4 x5 M h) h
  exact key n a0 x1 x2 x3 x4 x5 M h
theorem K_Mo_few_L158 (n : Nat) (E : zE) (S : zS) (r158 : Nat × Int32 × Int64 × Int32 × zH → Option (Int64 × zH)) (a0 : Nat) (x1 : Int32) (y4 : Int64) (x6 : Int32) (M : zH) (r : Int64) (M' : zH) (hr158 : ∀ (a0 : Nat) (x1 : Int32) (y4 : Int64) (x6 : Int32) (M : zH), r158 (a0, x1, y4, x6, M) = some (r, M') → zG E Y_Mo_few (some (.long r), S, M') 158 [(0, .ref a0), (1, .int x1), (4, .long y4), (6, .int x6)] [] S M 0 0) (h : F_Mo_few_L158 n E S r158 a0 x1 y4 x6 M = some (r, M')) : zG E Y_Mo_few (some (.long r), S, M') 158 [(0, .ref a0), (1, .int x1), (4, .long y4), (6, .int x6)] [] S M 0 0 := by
  unfold F_Mo_few_L158 at h
  refine zi_iload 3 d_Mo_few_158 rfl ?_
  refine zi_iload_n 1 d_Mo_few_160 rfl ?_
  refine zi_icmp_ge (tgt := 182) d_Mo_few_161 rfl (fun c_10 => ?_) (fun c_10 => ?_)
  · rw [if_pos c_10] at h
    refine zi_lload 2 d_Mo_few_182 rfl ?_
    cases h
    exact zo_ret d_Mo_few_184 (Nat.le_of_ble_eq_true rfl) (Nat.le_of_ble_eq_true rfl) rfl
  · rw [if_neg c_10] at h
    refine zi_lload 2 d_Mo_few_164 rfl ?_
    refine zi_aload_n 0 d_Mo_few_166 rfl ?_
    obtain ⟨b_11, eb_11, h⟩ := zbind h
    refine zo_getR 170 zkd_11 47 d_Mo_few_167 eb_11 rfl tw_1276 rfl ?_
    refine zi_iload 3 d_Mo_few_170 rfl ?_
    obtain ⟨v_12, ev_12, h⟩ := zbind h
    refine zo_lald 173 d_Mo_few_172 ev_12 rfl ?_
    refine zi_ladd d_Mo_few_173 ?_
    refine zi_lstore [(4, .long (y4 + v_12)), (0, .ref a0), (1, .int x1), (6, .int x6)] d_Mo_few_174 (by decide) rfl ?_
    refine zi_iinc 3 (x6 + 1) [(6, .int (x6 + 1)), (4, .long (y4 + v_12)), (0, .ref a0), (1, .int x1)] d_Mo_few_176 rfl rfl (by decide) rfl ?_
    refine zi_goto (tgt := 158) d_Mo_few_179 rfl ?_
    refine zi_lo [(0, .ref a0), (1, .int x1), (4, .long (y4 + v_12)), (6, .int (x6 + 1))] [2, 3, 1, 0] rfl ?_
    exact hr158 a0 x1 (y4 + v_12) (x6 + 1) M h
theorem K_Mo_few_b158 (n : Nat) (E : zE) (S : zS) (a0 : Nat) (x1 : Int32) (y4 : Int64) (x6 : Int32) (M : zH) (r : Int64) (M' : zH)  (h : F_Mo_few_b158 n E S (a0, x1, y4, x6, M) = some (r, M')) : zG E Y_Mo_few (some (.long r), S, M') 158 [(0, .ref a0), (1, .int x1), (4, .long y4), (6, .int x6)] [] S M 0 0 := by
  have key : ∀ (k : Nat) (a0 : Nat) (x1 : Int32) (y4 : Int64) (x6 : Int32) (M : zH), zfix (fun r158 s => F_Mo_few_L158 n E S r158 s.1 s.2.1 s.2.2.1 s.2.2.2.1 s.2.2.2.2) k (a0, x1, y4, x6, M) = some (r, M') → zG E Y_Mo_few (some (.long r), S, M') 158 [(0, .ref a0), (1, .int x1), (4, .long y4), (6, .int x6)] [] S M 0 0 := by
    intro k
    induction k with
    | zero => intro a0 x1 y4 x6 M h; cases h
    | succ k ih => intro a0 x1 y4 x6 M h; exact K_Mo_few_L158 n E S _ a0 x1 y4 x6 M r M'  (fun a0 x1 y4 x6 M h => ih a0 x1 y4 x6 M h) h
  exact key n a0 x1 y4 x6 M h
theorem K_Mo_few_L75 (n : Nat) (E : zE) (S : zS) (r75 : Nat × Int32 × Int32 × Int32 × Int32 × zH → Option (Int64 × zH)) (a0 : Nat) (x1 : Int32) (x2 : Int32) (x3 : Int32) (x4 : Int32) (M : zH) (r : Int64) (M' : zH) (hr75 : ∀ (a0 : Nat) (x1 : Int32) (x2 : Int32) (x3 : Int32) (x4 : Int32) (M : zH), r75 (a0, x1, x2, x3, x4, M) = some (r, M') → zG E Y_Mo_few (some (.long r), S, M') 75 [(0, .ref a0), (1, .int x1), (2, .int x2), (3, .int x3), (4, .int x4)] [] S M 0 0) (h : F_Mo_few_L75 n E S r75 a0 x1 x2 x3 x4 M = some (r, M')) : zG E Y_Mo_few (some (.long r), S, M') 75 [(0, .ref a0), (1, .int x1), (2, .int x2), (3, .int x3), (4, .int x4)] [] S M 0 0 := by
  unfold F_Mo_few_L75 at h
  refine zi_iload 4 d_Mo_few_75 rfl ?_
  refine zi_iload_n 2 d_Mo_few_77 rfl ?_
  refine zi_icmp_ge (tgt := 152) d_Mo_few_78 rfl (fun c_13 => ?_) (fun c_13 => ?_)
  · rw [if_pos c_13] at h
    refine zi_lconst 0 d_Mo_few_152 rfl ?_
    refine zi_lstore [(4, .long 0), (0, .ref a0), (1, .int x1), (2, .int x2), (3, .int x3)] d_Mo_few_153 (by decide) rfl ?_
    refine zi_iconst 0 d_Mo_few_155 rfl ?_
    refine zi_istore [(6, .int 0), (4, .long 0), (0, .ref a0), (1, .int x1), (2, .int x2), (3, .int x3)] d_Mo_few_156 (by decide) rfl ?_
    refine zi_lo [(0, .ref a0), (1, .int x1), (4, .long 0), (6, .int 0)] [2, 3, 1, 0] rfl ?_
    exact K_Mo_few_b158 n E S a0 x1 0 0 M r M'  h
  · rw [if_neg c_13] at h
    refine zi_iload_n 1 d_Mo_few_81 rfl ?_
    refine zi_iconst 1 d_Mo_few_82 rfl ?_
    refine zi_isub d_Mo_few_83 ?_
    refine zi_istore [(5, .int (x1 - 1)), (0, .ref a0), (1, .int x1), (2, .int x2), (3, .int x3), (4, .int x4)] d_Mo_few_84 (by decide) rfl ?_
    refine zi_lo [(0, .ref a0), (1, .int x1), (2, .int x2), (3, .int x3), (4, .int x4), (5, .int (x1 - 1))] [1, 2, 3, 4, 5, 0] rfl ?_
    exact K_Mo_few_b86 n E S r75 a0 x1 x2 x3 x4 (x1 - 1) M r M' hr75 h
theorem K_Mo_few_b75 (n : Nat) (E : zE) (S : zS) (a0 : Nat) (x1 : Int32) (x2 : Int32) (x3 : Int32) (x4 : Int32) (M : zH) (r : Int64) (M' : zH)  (h : F_Mo_few_b75 n E S (a0, x1, x2, x3, x4, M) = some (r, M')) : zG E Y_Mo_few (some (.long r), S, M') 75 [(0, .ref a0), (1, .int x1), (2, .int x2), (3, .int x3), (4, .int x4)] [] S M 0 0 := by
  have key : ∀ (k : Nat) (a0 : Nat) (x1 : Int32) (x2 : Int32) (x3 : Int32) (x4 : Int32) (M : zH), zfix (fun r75 s => F_Mo_few_L75 n E S r75 s.1 s.2.1 s.2.2.1 s.2.2.2.1 s.2.2.2.2.1 s.2.2.2.2.2) k (a0, x1, x2, x3, x4, M) = some (r, M') → zG E Y_Mo_few (some (.long r), S, M') 75 [(0, .ref a0), (1, .int x1), (2, .int x2), (3, .int x3), (4, .int x4)] [] S M 0 0 := by
    intro k
    induction k with
    | zero => intro a0 x1 x2 x3 x4 M h; cases h
    | succ k ih => intro a0 x1 x2 x3 x4 M h; exact K_Mo_few_L75 n E S _ a0 x1 x2 x3 x4 M r M'  (fun a0 x1 x2 x3 x4 M h => ih a0 x1 x2 x3 x4 M h) h
  exact key n a0 x1 x2 x3 x4 M h
theorem K_Mo_few_L35 (n : Nat) (E : zE) (S : zS) (r35 : Nat × Int32 × Int32 × Int32 × zH → Option (Int64 × zH)) (a0 : Nat) (x1 : Int32) (x2 : Int32) (x3 : Int32) (M : zH) (r : Int64) (M' : zH) (hr35 : ∀ (a0 : Nat) (x1 : Int32) (x2 : Int32) (x3 : Int32) (M : zH), r35 (a0, x1, x2, x3, M) = some (r, M') → zG E Y_Mo_few (some (.long r), S, M') 35 [(0, .ref a0), (1, .int x1), (2, .int x2), (3, .int x3)] [] S M 0 0) (h : F_Mo_few_L35 n E S r35 a0 x1 x2 x3 M = some (r, M')) : zG E Y_Mo_few (some (.long r), S, M') 35 [(0, .ref a0), (1, .int x1), (2, .int x2), (3, .int x3)] [] S M 0 0 := by
  unfold F_Mo_few_L35 at h
  refine zi_iload_n 3 d_Mo_few_35 rfl ?_
  refine zi_bipush 21 d_Mo_few_36 rfl ?_
  refine zi_icmp_ge (tgt := 64) d_Mo_few_38 rfl (fun c_14 => ?_) (fun c_14 => ?_)
  · rw [if_pos c_14] at h
    refine zi_aload_n 0 d_Mo_few_64 rfl ?_
    obtain ⟨b_15, eb_15, h⟩ := zbind h
    refine zo_getR 68 zkd_11 3 d_Mo_few_65 eb_15 rfl tw_1232 rfl ?_
    refine zi_bipush 7 d_Mo_few_68 rfl ?_
    obtain ⟨v_16, ev_16, h⟩ := zbind h
    refine zo_iald 71 d_Mo_few_70 ev_16 rfl ?_
    refine zi_istore_n [(3, .int v_16), (0, .ref a0), (1, .int x1), (2, .int x2)] d_Mo_few_71 (by decide) rfl ?_
    refine zi_iconst 0 d_Mo_few_72 rfl ?_
    refine zi_istore [(4, .int 0), (3, .int v_16), (0, .ref a0), (1, .int x1), (2, .int x2)] d_Mo_few_73 (by decide) rfl ?_
    refine zi_lo [(0, .ref a0), (1, .int x1), (2, .int x2), (3, .int v_16), (4, .int 0)] [2, 3, 4, 1, 0] rfl ?_
    exact K_Mo_few_b75 n E S a0 x1 x2 v_16 0 M r M'  h
  · rw [if_neg c_14] at h
    refine zi_aload_n 0 d_Mo_few_41 rfl ?_
    obtain ⟨b_17, eb_17, h⟩ := zbind h
    refine zo_getR 45 zkd_11 47 d_Mo_few_42 eb_17 rfl tw_1276 rfl ?_
    refine zi_iload_n 3 d_Mo_few_45 rfl ?_
    refine zi_iload_n 3 d_Mo_few_46 rfl ?_
    refine zi_if_ne (tgt := 56) d_Mo_few_47 rfl (fun c_18 => ?_) (fun c_18 => ?_)
    · rw [if_neg c_18] at h
      refine zi_lconst 0 d_Mo_few_56 rfl ?_
      refine zi_lo [(0, .ref a0), (1, .int x1), (2, .int x2), (3, .int x3)] [0, 1, 2, 3] rfl ?_
      exact K_Mo_few_b57 n E S r35 a0 x1 x2 x3 0 x3 b_17 M r M' hr35 h
    · rw [if_pos c_18] at h
      refine zi_ldc2 d_Mo_few_50 tw_1839 ?_
      refine zi_goto (tgt := 57) d_Mo_few_53 rfl ?_
      refine zi_lo [(0, .ref a0), (1, .int x1), (2, .int x2), (3, .int x3)] [0, 1, 2, 3] rfl ?_
      exact K_Mo_few_b57 n E S r35 a0 x1 x2 x3 1000000000000 x3 b_17 M r M' hr35 h
theorem K_Mo_few_b35 (n : Nat) (E : zE) (S : zS) (a0 : Nat) (x1 : Int32) (x2 : Int32) (x3 : Int32) (M : zH) (r : Int64) (M' : zH)  (h : F_Mo_few_b35 n E S (a0, x1, x2, x3, M) = some (r, M')) : zG E Y_Mo_few (some (.long r), S, M') 35 [(0, .ref a0), (1, .int x1), (2, .int x2), (3, .int x3)] [] S M 0 0 := by
  have key : ∀ (k : Nat) (a0 : Nat) (x1 : Int32) (x2 : Int32) (x3 : Int32) (M : zH), zfix (fun r35 s => F_Mo_few_L35 n E S r35 s.1 s.2.1 s.2.2.1 s.2.2.2.1 s.2.2.2.2) k (a0, x1, x2, x3, M) = some (r, M') → zG E Y_Mo_few (some (.long r), S, M') 35 [(0, .ref a0), (1, .int x1), (2, .int x2), (3, .int x3)] [] S M 0 0 := by
    intro k
    induction k with
    | zero => intro a0 x1 x2 x3 M h; cases h
    | succ k ih => intro a0 x1 x2 x3 M h; exact K_Mo_few_L35 n E S _ a0 x1 x2 x3 M r M'  (fun a0 x1 x2 x3 M h => ih a0 x1 x2 x3 M h) h
  exact key n a0 x1 x2 x3 M h
theorem K_Mo_few (n : Nat) (E : zE) (S : zS) (a0 : Nat) (x1 : Int32) (x2 : Int32) (M : zH) (r : Int64) (M' : zH)  (h : F_Mo_few n E S a0 x1 x2 M = some (r, M')) : zG E Y_Mo_few (some (.long r), S, M') 0 [(0, .ref a0), (1, .int x1), (2, .int x2)] [] S M 0 0 := by
  unfold F_Mo_few at h
  refine zi_aload_n 0 d_Mo_few_0 rfl ?_
  refine zi_iconst 0 d_Mo_few_1 rfl ?_
  obtain ⟨m_19, em_19, h⟩ := zbind h
  refine zo_putI 5 zkd_11 0 d_Mo_few_2 em_19 rfl rfl rfl tw_1229 rfl ?_
  refine zi_iload_n 1 d_Mo_few_5 rfl ?_
  refine zi_i2l d_Mo_few_6 ?_
  refine zi_lconst 1 d_Mo_few_7 rfl ?_
  refine zi_ldc2 d_Mo_few_8 tw_1666 ?_
  obtain ⟨q_20, eq_20, h⟩ := zbind h
  refine zo_stat (k' := 0) (n' := 0) 14 [.long x1.toInt64, .long 1, .long 20] [] [.int (bI q_20.1)] (C_Mo_in n E S x1.toInt64 1 20 m_19 q_20.1 q_20.2 eq_20) d_Mo_few_11 tw_1419 tw_1417 tw_1418 tw_13 dd_Mo_in ⟨Nat.le_of_ble_eq_true rfl, Nat.le_of_ble_eq_true rfl, Nat.le_of_ble_eq_true rfl, Nat.le_of_ble_eq_true rfl⟩ (Nat.le_of_ble_eq_true rfl) rfl rfl rfl rfl ?_
  refine zo_ifeqB d_Mo_few_14 rfl 17 rfl (fun c_21 => ?_) (fun c_21 => ?_)
  · rw [if_neg c_21] at h
    refine zi_lo [] [] rfl ?_
    exact K_Mo_few_b29 n E S  q_20.2 r M'  h
  · rw [if_pos c_21] at h
    refine zi_iload_n 2 d_Mo_few_17 rfl ?_
    refine zi_i2l d_Mo_few_18 ?_
    refine zi_lconst 0 d_Mo_few_19 rfl ?_
    refine zi_ldc2 d_Mo_few_20 tw_1485 ?_
    obtain ⟨q_22, eq_22, h⟩ := zbind h
    refine zo_stat (k' := 0) (n' := 0) 26 [.long x2.toInt64, .long 0, .long 99] [] [.int (bI q_22.1)] (C_Mo_in n E S x2.toInt64 0 99 q_20.2 q_22.1 q_22.2 eq_22) d_Mo_few_23 tw_1419 tw_1417 tw_1418 tw_13 dd_Mo_in ⟨Nat.le_of_ble_eq_true rfl, Nat.le_of_ble_eq_true rfl, Nat.le_of_ble_eq_true rfl, Nat.le_of_ble_eq_true rfl⟩ (Nat.le_of_ble_eq_true rfl) rfl rfl rfl rfl ?_
    refine zo_ifneB d_Mo_few_26 rfl 29 rfl (fun c_23 => ?_) (fun c_23 => ?_)
    · rw [if_pos c_23] at h
      refine zi_iconst 0 d_Mo_few_33 rfl ?_
      refine zi_istore_n [(3, .int 0), (0, .ref a0), (1, .int x1), (2, .int x2)] d_Mo_few_34 (by decide) rfl ?_
      refine zi_lo [(0, .ref a0), (1, .int x1), (2, .int x2), (3, .int 0)] [1, 2, 3, 0] rfl ?_
      exact K_Mo_few_b35 n E S a0 x1 x2 0 q_22.2 r M'  h
    · rw [if_neg c_23] at h
      refine zi_lo [] [] rfl ?_
      exact K_Mo_few_b29 n E S  q_22.2 r M'  h
theorem C_Mo_few (n : Nat) (E : zE) (S : zS) (a0 : Nat) (x1 : Int32) (x2 : Int32) (M : zH) (r : Int64) (M' : zH) (h : F_Mo_few n E S a0 x1 x2 M = some (r, M')) : zC E Y_Mo_few [.ref a0, .int x1, .int x2] S M (some (.long r), S, M') :=
  zC.of (Or.inl (show plainName "NightColanderModel" = true by decide)) (Nat.le_of_ble_eq_true rfl) (trivial) (K_Mo_few n E S a0 x1 x2 M r M' h)
theorem d_Mo_worth_0 : decode (yB Y_Mo_worth) 0 = .ok (.aload_n 0, 1) := by decide +kernel
theorem d_Mo_worth_1 : decode (yB Y_Mo_worth) 1 = .ok (.iconst 0, 1) := by decide +kernel
theorem d_Mo_worth_2 : decode (yB Y_Mo_worth) 2 = .ok (.putfield 156, 3) := by decide +kernel
theorem d_Mo_worth_5 : decode (yB Y_Mo_worth) 5 = .ok (.aload_n 0, 1) := by decide +kernel
theorem d_Mo_worth_6 : decode (yB Y_Mo_worth) 6 = .ok (.iload_n 1, 1) := by decide +kernel
theorem d_Mo_worth_7 : decode (yB Y_Mo_worth) 7 = .ok (.invokevirtual 402, 3) := by decide +kernel
theorem d_Mo_worth_10 : decode (yB Y_Mo_worth) 10 = .ok (.ifCond .ne 5, 3) := by decide +kernel
theorem d_Mo_worth_13 : decode (yB Y_Mo_worth) 13 = .ok (.iconst (-1), 1) := by decide +kernel
theorem d_Mo_worth_14 : decode (yB Y_Mo_worth) 14 = .ok (.ireturn, 1) := by decide +kernel
theorem d_Mo_worth_15 : decode (yB Y_Mo_worth) 15 = .ok (.aload_n 0, 1) := by decide +kernel
theorem d_Mo_worth_16 : decode (yB Y_Mo_worth) 16 = .ok (.getfield 13, 3) := by decide +kernel
theorem d_Mo_worth_19 : decode (yB Y_Mo_worth) 19 = .ok (.iconst 3, 1) := by decide +kernel
theorem d_Mo_worth_20 : decode (yB Y_Mo_worth) 20 = .ok (.iaload, 1) := by decide +kernel
theorem d_Mo_worth_21 : decode (yB Y_Mo_worth) 21 = .ok (.istore_n 2, 1) := by decide +kernel
theorem d_Mo_worth_22 : decode (yB Y_Mo_worth) 22 = .ok (.aload_n 0, 1) := by decide +kernel
theorem d_Mo_worth_23 : decode (yB Y_Mo_worth) 23 = .ok (.getfield 13, 3) := by decide +kernel
theorem d_Mo_worth_26 : decode (yB Y_Mo_worth) 26 = .ok (.iconst 3, 1) := by decide +kernel
theorem d_Mo_worth_27 : decode (yB Y_Mo_worth) 27 = .ok (.iload_n 1, 1) := by decide +kernel
theorem d_Mo_worth_28 : decode (yB Y_Mo_worth) 28 = .ok (.iastore, 1) := by decide +kernel
theorem d_Mo_worth_29 : decode (yB Y_Mo_worth) 29 = .ok (.iconst 0, 1) := by decide +kernel
theorem d_Mo_worth_30 : decode (yB Y_Mo_worth) 30 = .ok (.istore_n 3, 1) := by decide +kernel
theorem d_Mo_worth_31 : decode (yB Y_Mo_worth) 31 = .ok (.iconst 0, 1) := by decide +kernel
theorem d_Mo_worth_32 : decode (yB Y_Mo_worth) 32 = .ok (.istore 4, 2) := by decide +kernel
theorem d_Mo_worth_34 : decode (yB Y_Mo_worth) 34 = .ok (.iload 4, 2) := by decide +kernel
theorem d_Mo_worth_36 : decode (yB Y_Mo_worth) 36 = .ok (.aload_n 0, 1) := by decide +kernel
theorem d_Mo_worth_37 : decode (yB Y_Mo_worth) 37 = .ok (.getfield 13, 3) := by decide +kernel
theorem d_Mo_worth_40 : decode (yB Y_Mo_worth) 40 = .ok (.iconst 0, 1) := by decide +kernel
theorem d_Mo_worth_41 : decode (yB Y_Mo_worth) 41 = .ok (.iaload, 1) := by decide +kernel
theorem d_Mo_worth_42 : decode (yB Y_Mo_worth) 42 = .ok (.if_icmp .ge 39, 3) := by decide +kernel
theorem d_Mo_worth_45 : decode (yB Y_Mo_worth) 45 = .ok (.iload_n 3, 1) := by decide +kernel
theorem d_Mo_worth_46 : decode (yB Y_Mo_worth) 46 = .ok (.aload_n 0, 1) := by decide +kernel
theorem d_Mo_worth_47 : decode (yB Y_Mo_worth) 47 = .ok (.getfield 13, 3) := by decide +kernel
theorem d_Mo_worth_50 : decode (yB Y_Mo_worth) 50 = .ok (.bipush 48, 2) := by decide +kernel
theorem d_Mo_worth_52 : decode (yB Y_Mo_worth) 52 = .ok (.iload 4, 2) := by decide +kernel
theorem d_Mo_worth_54 : decode (yB Y_Mo_worth) 54 = .ok (.iadd, 1) := by decide +kernel
theorem d_Mo_worth_55 : decode (yB Y_Mo_worth) 55 = .ok (.iaload, 1) := by decide +kernel
theorem d_Mo_worth_56 : decode (yB Y_Mo_worth) 56 = .ok (.aload_n 0, 1) := by decide +kernel
theorem d_Mo_worth_57 : decode (yB Y_Mo_worth) 57 = .ok (.iload 4, 2) := by decide +kernel
theorem d_Mo_worth_59 : decode (yB Y_Mo_worth) 59 = .ok (.aload_n 0, 1) := by decide +kernel
theorem d_Mo_worth_60 : decode (yB Y_Mo_worth) 60 = .ok (.getfield 13, 3) := by decide +kernel
theorem d_Mo_worth_63 : decode (yB Y_Mo_worth) 63 = .ok (.bipush 51, 2) := by decide +kernel
theorem d_Mo_worth_65 : decode (yB Y_Mo_worth) 65 = .ok (.iload 4, 2) := by decide +kernel
theorem d_Mo_worth_67 : decode (yB Y_Mo_worth) 67 = .ok (.iadd, 1) := by decide +kernel
theorem d_Mo_worth_68 : decode (yB Y_Mo_worth) 68 = .ok (.iaload, 1) := by decide +kernel
theorem d_Mo_worth_69 : decode (yB Y_Mo_worth) 69 = .ok (.invokevirtual 222, 3) := by decide +kernel
theorem d_Mo_worth_72 : decode (yB Y_Mo_worth) 72 = .ok (.imul, 1) := by decide +kernel
theorem d_Mo_worth_73 : decode (yB Y_Mo_worth) 73 = .ok (.iadd, 1) := by decide +kernel
theorem d_Mo_worth_74 : decode (yB Y_Mo_worth) 74 = .ok (.istore_n 3, 1) := by decide +kernel
theorem d_Mo_worth_75 : decode (yB Y_Mo_worth) 75 = .ok (.iinc 4 1, 3) := by decide +kernel
theorem d_Mo_worth_78 : decode (yB Y_Mo_worth) 78 = .ok (.goto (-44), 3) := by decide +kernel
theorem d_Mo_worth_81 : decode (yB Y_Mo_worth) 81 = .ok (.aload_n 0, 1) := by decide +kernel
theorem d_Mo_worth_82 : decode (yB Y_Mo_worth) 82 = .ok (.getfield 13, 3) := by decide +kernel
theorem d_Mo_worth_85 : decode (yB Y_Mo_worth) 85 = .ok (.iconst 3, 1) := by decide +kernel
theorem d_Mo_worth_86 : decode (yB Y_Mo_worth) 86 = .ok (.iload_n 2, 1) := by decide +kernel
theorem d_Mo_worth_87 : decode (yB Y_Mo_worth) 87 = .ok (.iastore, 1) := by decide +kernel
theorem d_Mo_worth_88 : decode (yB Y_Mo_worth) 88 = .ok (.iload_n 3, 1) := by decide +kernel
theorem d_Mo_worth_89 : decode (yB Y_Mo_worth) 89 = .ok (.ireturn, 1) := by decide +kernel
def F_Mo_worth_L34 (n : Nat) (E : zE) (S : zS) (r34 : Nat × Int32 × Int32 × Int32 × zH → Option (Int32 × zH)) (a0 : Nat) (x2 : Int32) (x3 : Int32) (x4 : Int32) (M : zH) : Option (Int32 × zH) :=
  (zgR S a0 11 3).bind fun b_1 =>
  (zldI S M b_1 0).bind fun v_2 =>
  if v_2 ≤ x4 then
    (zstI S M b_1 3 x2).bind fun m_4 =>
    some (x3, m_4)
  else
    (zldI S M b_1 (48 + x4)).bind fun v_5 =>
    (zldI S M b_1 (51 + x4)).bind fun v_6 =>
    (F_Mo_paysOf n E S a0 x4 v_6 M).bind fun q_7 =>
    r34 (a0, x2, x3 + (v_5 * q_7.1), x4 + 1, q_7.2)
def F_Mo_worth_b34 (n : Nat) (E : zE) (S : zS) : Nat × Int32 × Int32 × Int32 × zH → Option (Int32 × zH) := zfix (fun r34 s => F_Mo_worth_L34 n E S r34 s.1 s.2.1 s.2.2.1 s.2.2.2.1 s.2.2.2.2) n
def F_Mo_worth (n : Nat) (E : zE) (S : zS) (a0 : Nat) (x1 : Int32) (M : zH) : Option (Int32 × zH) :=
  (zpI S M a0 11 0 0).bind fun m_8 =>
  (zck S a0 11).bind fun u_9 =>
  (F_Mo_isLaw n E S a0 x1 m_8).bind fun q_10 =>
  if q_10.1 = true then
    (zgR S a0 11 3).bind fun b_12 =>
    (zldI S q_10.2 b_12 3).bind fun v_13 =>
    (zstI S q_10.2 b_12 3 x1).bind fun m_14 =>
    F_Mo_worth_b34 n E S (a0, v_13, 0, 0, m_14)
  else
    some ((-1), q_10.2)
theorem K_Mo_worth_L34 (n : Nat) (E : zE) (S : zS) (r34 : Nat × Int32 × Int32 × Int32 × zH → Option (Int32 × zH)) (a0 : Nat) (x2 : Int32) (x3 : Int32) (x4 : Int32) (M : zH) (r : Int32) (M' : zH) (hr34 : ∀ (a0 : Nat) (x2 : Int32) (x3 : Int32) (x4 : Int32) (M : zH), r34 (a0, x2, x3, x4, M) = some (r, M') → zG E Y_Mo_worth (some (.int r), S, M') 34 [(0, .ref a0), (2, .int x2), (3, .int x3), (4, .int x4)] [] S M 0 0) (h : F_Mo_worth_L34 n E S r34 a0 x2 x3 x4 M = some (r, M')) : zG E Y_Mo_worth (some (.int r), S, M') 34 [(0, .ref a0), (2, .int x2), (3, .int x3), (4, .int x4)] [] S M 0 0 := by
  unfold F_Mo_worth_L34 at h
  refine zi_iload 3 d_Mo_worth_34 rfl ?_
  refine zi_aload_n 0 d_Mo_worth_36 rfl ?_
  obtain ⟨b_1, eb_1, h⟩ := zbind h
  refine zo_getR 40 zkd_11 3 d_Mo_worth_37 eb_1 rfl tw_1232 rfl ?_
  refine zi_iconst 0 d_Mo_worth_40 rfl ?_
  obtain ⟨v_2, ev_2, h⟩ := zbind h
  refine zo_iald 42 d_Mo_worth_41 ev_2 rfl ?_
  refine zi_icmp_ge (tgt := 81) d_Mo_worth_42 rfl (fun c_3 => ?_) (fun c_3 => ?_)
  · rw [if_pos c_3] at h
    refine zi_aload_n 0 d_Mo_worth_81 rfl ?_
    refine zo_getR 85 zkd_11 3 d_Mo_worth_82 eb_1 rfl tw_1232 rfl ?_
    refine zi_iconst 3 d_Mo_worth_85 rfl ?_
    refine zi_iload_n 1 d_Mo_worth_86 rfl ?_
    obtain ⟨m_4, em_4, h⟩ := zbind h
    refine zo_iast 88 d_Mo_worth_87 em_4 rfl ?_
    refine zi_iload_n 2 d_Mo_worth_88 rfl ?_
    cases h
    exact zo_ret d_Mo_worth_89 (Nat.le_of_ble_eq_true rfl) (Nat.le_of_ble_eq_true rfl) rfl
  · rw [if_neg c_3] at h
    refine zi_iload_n 2 d_Mo_worth_45 rfl ?_
    refine zi_aload_n 0 d_Mo_worth_46 rfl ?_
    refine zo_getR 50 zkd_11 3 d_Mo_worth_47 eb_1 rfl tw_1232 rfl ?_
    refine zi_bipush 48 d_Mo_worth_50 rfl ?_
    refine zi_iload 3 d_Mo_worth_52 rfl ?_
    refine zi_iadd d_Mo_worth_54 ?_
    obtain ⟨v_5, ev_5, h⟩ := zbind h
    refine zo_iald 56 d_Mo_worth_55 ev_5 rfl ?_
    refine zi_aload_n 0 d_Mo_worth_56 rfl ?_
    refine zi_iload 3 d_Mo_worth_57 rfl ?_
    refine zi_aload_n 0 d_Mo_worth_59 rfl ?_
    refine zo_getR 63 zkd_11 3 d_Mo_worth_60 eb_1 rfl tw_1232 rfl ?_
    refine zi_bipush 51 d_Mo_worth_63 rfl ?_
    refine zi_iload 3 d_Mo_worth_65 rfl ?_
    refine zi_iadd d_Mo_worth_67 ?_
    obtain ⟨v_6, ev_6, h⟩ := zbind h
    refine zo_iald 69 d_Mo_worth_68 ev_6 rfl ?_
    obtain ⟨q_7, eq_7, h⟩ := zbind h
    refine zo_virt (k' := 0) (n' := 0) 72 [.int x4, .int v_6] [.int v_5, .int x3] [.int q_7.1, .int v_5, .int x3] zkd_11 (zgR_s eb_1).1 (C_Mo_paysOf n E S a0 x4 v_6 M q_7.1 q_7.2 eq_7) d_Mo_worth_69 tw_1506 tw_1503 tw_1505 ts_49 tw_13 dd_Mo_paysOf ⟨Nat.le_of_ble_eq_true rfl, Nat.le_of_ble_eq_true rfl, Nat.le_of_ble_eq_true rfl, Nat.le_of_ble_eq_true rfl⟩ (Nat.le_of_ble_eq_true rfl) rfl rfl rfl rfl ?_
    refine zi_imul d_Mo_worth_72 ?_
    refine zi_iadd d_Mo_worth_73 ?_
    refine zi_istore_n [(3, .int (x3 + (v_5 * q_7.1))), (0, .ref a0), (2, .int x2), (4, .int x4)] d_Mo_worth_74 (by decide) rfl ?_
    refine zi_iinc 3 (x4 + 1) [(4, .int (x4 + 1)), (3, .int (x3 + (v_5 * q_7.1))), (0, .ref a0), (2, .int x2)] d_Mo_worth_75 rfl rfl (by decide) rfl ?_
    refine zi_goto (tgt := 34) d_Mo_worth_78 rfl ?_
    refine zi_lo [(0, .ref a0), (2, .int x2), (3, .int (x3 + (v_5 * q_7.1))), (4, .int (x4 + 1))] [2, 3, 1, 0] rfl ?_
    exact hr34 a0 x2 (x3 + (v_5 * q_7.1)) (x4 + 1) q_7.2 h
theorem K_Mo_worth_b34 (n : Nat) (E : zE) (S : zS) (a0 : Nat) (x2 : Int32) (x3 : Int32) (x4 : Int32) (M : zH) (r : Int32) (M' : zH)  (h : F_Mo_worth_b34 n E S (a0, x2, x3, x4, M) = some (r, M')) : zG E Y_Mo_worth (some (.int r), S, M') 34 [(0, .ref a0), (2, .int x2), (3, .int x3), (4, .int x4)] [] S M 0 0 := by
  have key : ∀ (k : Nat) (a0 : Nat) (x2 : Int32) (x3 : Int32) (x4 : Int32) (M : zH), zfix (fun r34 s => F_Mo_worth_L34 n E S r34 s.1 s.2.1 s.2.2.1 s.2.2.2.1 s.2.2.2.2) k (a0, x2, x3, x4, M) = some (r, M') → zG E Y_Mo_worth (some (.int r), S, M') 34 [(0, .ref a0), (2, .int x2), (3, .int x3), (4, .int x4)] [] S M 0 0 := by
    intro k
    induction k with
    | zero => intro a0 x2 x3 x4 M h; cases h
    | succ k ih => intro a0 x2 x3 x4 M h; exact K_Mo_worth_L34 n E S _ a0 x2 x3 x4 M r M'  (fun a0 x2 x3 x4 M h => ih a0 x2 x3 x4 M h) h
  exact key n a0 x2 x3 x4 M h
theorem K_Mo_worth (n : Nat) (E : zE) (S : zS) (a0 : Nat) (x1 : Int32) (M : zH) (r : Int32) (M' : zH)  (h : F_Mo_worth n E S a0 x1 M = some (r, M')) : zG E Y_Mo_worth (some (.int r), S, M') 0 [(0, .ref a0), (1, .int x1)] [] S M 0 0 := by
  unfold F_Mo_worth at h
  refine zi_aload_n 0 d_Mo_worth_0 rfl ?_
  refine zi_iconst 0 d_Mo_worth_1 rfl ?_
  obtain ⟨m_8, em_8, h⟩ := zbind h
  refine zo_putI 5 zkd_11 0 d_Mo_worth_2 em_8 rfl rfl rfl tw_1229 rfl ?_
  refine zi_aload_n 0 d_Mo_worth_5 rfl ?_
  refine zi_iload_n 1 d_Mo_worth_6 rfl ?_
  obtain ⟨u_9, eu_9, h⟩ := zbind h
  obtain ⟨q_10, eq_10, h⟩ := zbind h
  refine zo_virt (k' := 0) (n' := 0) 10 [.int x1] [] [.int (bI q_10.1)] zkd_11 (zck_s eu_9) (C_Mo_isLaw n E S a0 x1 m_8 q_10.1 q_10.2 eq_10) d_Mo_worth_7 tw_1688 tw_1685 tw_1687 ts_77 tw_13 dd_Mo_isLaw ⟨Nat.le_of_ble_eq_true rfl, Nat.le_of_ble_eq_true rfl, Nat.le_of_ble_eq_true rfl, Nat.le_of_ble_eq_true rfl⟩ (Nat.le_of_ble_eq_true rfl) rfl rfl rfl rfl ?_
  refine zo_ifneB d_Mo_worth_10 rfl 13 rfl (fun c_11 => ?_) (fun c_11 => ?_)
  · rw [if_pos c_11] at h
    refine zi_aload_n 0 d_Mo_worth_15 rfl ?_
    obtain ⟨b_12, eb_12, h⟩ := zbind h
    refine zo_getR 19 zkd_11 3 d_Mo_worth_16 eb_12 rfl tw_1232 rfl ?_
    refine zi_iconst 3 d_Mo_worth_19 rfl ?_
    obtain ⟨v_13, ev_13, h⟩ := zbind h
    refine zo_iald 21 d_Mo_worth_20 ev_13 rfl ?_
    refine zi_istore_n [(2, .int v_13), (0, .ref a0), (1, .int x1)] d_Mo_worth_21 (by decide) rfl ?_
    refine zi_aload_n 1 d_Mo_worth_22 rfl ?_
    refine zo_getR 26 zkd_11 3 d_Mo_worth_23 eb_12 rfl tw_1232 rfl ?_
    refine zi_iconst 3 d_Mo_worth_26 rfl ?_
    refine zi_iload_n 2 d_Mo_worth_27 rfl ?_
    obtain ⟨m_14, em_14, h⟩ := zbind h
    refine zo_iast 29 d_Mo_worth_28 em_14 rfl ?_
    refine zi_iconst 0 d_Mo_worth_29 rfl ?_
    refine zi_istore_n [(3, .int 0), (2, .int v_13), (0, .ref a0), (1, .int x1)] d_Mo_worth_30 (by decide) rfl ?_
    refine zi_iconst 0 d_Mo_worth_31 rfl ?_
    refine zi_istore [(4, .int 0), (3, .int 0), (2, .int v_13), (0, .ref a0), (1, .int x1)] d_Mo_worth_32 (by decide) rfl ?_
    refine zi_lo [(0, .ref a0), (2, .int v_13), (3, .int 0), (4, .int 0)] [3, 2, 1, 0] rfl ?_
    exact K_Mo_worth_b34 n E S a0 v_13 0 0 m_14 r M'  h
  · rw [if_neg c_11] at h
    refine zi_iconst (-1) d_Mo_worth_13 rfl ?_
    cases h
    exact zo_ret d_Mo_worth_14 (Nat.le_of_ble_eq_true rfl) (Nat.le_of_ble_eq_true rfl) rfl
theorem C_Mo_worth (n : Nat) (E : zE) (S : zS) (a0 : Nat) (x1 : Int32) (M : zH) (r : Int32) (M' : zH) (h : F_Mo_worth n E S a0 x1 M = some (r, M')) : zC E Y_Mo_worth [.ref a0, .int x1] S M (some (.int r), S, M') :=
  zC.of (Or.inl (show plainName "NightColanderModel" = true by decide)) (Nat.le_of_ble_eq_true rfl) (trivial) (K_Mo_worth n E S a0 x1 M r M' h)
theorem d_Mo_giveBack_0 : decode (yB Y_Mo_giveBack) 0 = .ok (.aload_n 0, 1) := by decide +kernel
theorem d_Mo_giveBack_1 : decode (yB Y_Mo_giveBack) 1 = .ok (.bipush 17, 2) := by decide +kernel
theorem d_Mo_giveBack_3 : decode (yB Y_Mo_giveBack) 3 = .ok (.invokevirtual 173, 3) := by decide +kernel
theorem d_Mo_giveBack_6 : decode (yB Y_Mo_giveBack) 6 = .ok (.iconst 0, 1) := by decide +kernel
theorem d_Mo_giveBack_7 : decode (yB Y_Mo_giveBack) 7 = .ok (.istore_n 2, 1) := by decide +kernel
theorem d_Mo_giveBack_8 : decode (yB Y_Mo_giveBack) 8 = .ok (.iload_n 2, 1) := by decide +kernel
theorem d_Mo_giveBack_9 : decode (yB Y_Mo_giveBack) 9 = .ok (.sipush 800, 3) := by decide +kernel
theorem d_Mo_giveBack_12 : decode (yB Y_Mo_giveBack) 12 = .ok (.if_icmp .ge 21, 3) := by decide +kernel
theorem d_Mo_giveBack_15 : decode (yB Y_Mo_giveBack) 15 = .ok (.aload_n 0, 1) := by decide +kernel
theorem d_Mo_giveBack_16 : decode (yB Y_Mo_giveBack) 16 = .ok (.getfield 23, 3) := by decide +kernel
theorem d_Mo_giveBack_19 : decode (yB Y_Mo_giveBack) 19 = .ok (.iload_n 2, 1) := by decide +kernel
theorem d_Mo_giveBack_20 : decode (yB Y_Mo_giveBack) 20 = .ok (.aload_n 0, 1) := by decide +kernel
theorem d_Mo_giveBack_21 : decode (yB Y_Mo_giveBack) 21 = .ok (.getfield 29, 3) := by decide +kernel
theorem d_Mo_giveBack_24 : decode (yB Y_Mo_giveBack) 24 = .ok (.iload_n 2, 1) := by decide +kernel
theorem d_Mo_giveBack_25 : decode (yB Y_Mo_giveBack) 25 = .ok (.iaload, 1) := by decide +kernel
theorem d_Mo_giveBack_26 : decode (yB Y_Mo_giveBack) 26 = .ok (.iastore, 1) := by decide +kernel
theorem d_Mo_giveBack_27 : decode (yB Y_Mo_giveBack) 27 = .ok (.iinc 2 1, 3) := by decide +kernel
theorem d_Mo_giveBack_30 : decode (yB Y_Mo_giveBack) 30 = .ok (.goto (-22), 3) := by decide +kernel
theorem d_Mo_giveBack_33 : decode (yB Y_Mo_giveBack) 33 = .ok (.iconst 0, 1) := by decide +kernel
theorem d_Mo_giveBack_34 : decode (yB Y_Mo_giveBack) 34 = .ok (.istore_n 2, 1) := by decide +kernel
theorem d_Mo_giveBack_35 : decode (yB Y_Mo_giveBack) 35 = .ok (.iload_n 2, 1) := by decide +kernel
theorem d_Mo_giveBack_36 : decode (yB Y_Mo_giveBack) 36 = .ok (.bipush 16, 2) := by decide +kernel
theorem d_Mo_giveBack_38 : decode (yB Y_Mo_giveBack) 38 = .ok (.if_icmp .ge 21, 3) := by decide +kernel
theorem d_Mo_giveBack_41 : decode (yB Y_Mo_giveBack) 41 = .ok (.aload_n 0, 1) := by decide +kernel
theorem d_Mo_giveBack_42 : decode (yB Y_Mo_giveBack) 42 = .ok (.getfield 26, 3) := by decide +kernel
theorem d_Mo_giveBack_45 : decode (yB Y_Mo_giveBack) 45 = .ok (.iload_n 2, 1) := by decide +kernel
theorem d_Mo_giveBack_46 : decode (yB Y_Mo_giveBack) 46 = .ok (.aload_n 0, 1) := by decide +kernel
theorem d_Mo_giveBack_47 : decode (yB Y_Mo_giveBack) 47 = .ok (.getfield 32, 3) := by decide +kernel
theorem d_Mo_giveBack_50 : decode (yB Y_Mo_giveBack) 50 = .ok (.iload_n 2, 1) := by decide +kernel
theorem d_Mo_giveBack_51 : decode (yB Y_Mo_giveBack) 51 = .ok (.iaload, 1) := by decide +kernel
theorem d_Mo_giveBack_52 : decode (yB Y_Mo_giveBack) 52 = .ok (.iastore, 1) := by decide +kernel
theorem d_Mo_giveBack_53 : decode (yB Y_Mo_giveBack) 53 = .ok (.iinc 2 1, 3) := by decide +kernel
theorem d_Mo_giveBack_56 : decode (yB Y_Mo_giveBack) 56 = .ok (.goto (-21), 3) := by decide +kernel
theorem d_Mo_giveBack_59 : decode (yB Y_Mo_giveBack) 59 = .ok (.aload_n 0, 1) := by decide +kernel
theorem d_Mo_giveBack_60 : decode (yB Y_Mo_giveBack) 60 = .ok (.iload_n 1, 1) := by decide +kernel
theorem d_Mo_giveBack_61 : decode (yB Y_Mo_giveBack) 61 = .ok (.putfield 162, 3) := by decide +kernel
theorem d_Mo_giveBack_64 : decode (yB Y_Mo_giveBack) 64 = .ok (.return_, 1) := by decide +kernel
def F_Mo_giveBack_L35 (n : Nat) (E : zE) (S : zS) (r35 : Nat × Int32 × Int32 × zH → Option (zH)) (a0 : Nat) (x1 : Int32) (x2 : Int32) (M : zH) : Option (zH) :=
  if 16 ≤ x2 then
    (zpI S M a0 11 8 x1).bind fun m_2 =>
    some (m_2)
  else
    (zgR S a0 11 7).bind fun b_3 =>
    (zgR S a0 11 10).bind fun b_4 =>
    (zldI S M b_4 x2).bind fun v_5 =>
    (zstI S M b_3 x2 v_5).bind fun m_6 =>
    r35 (a0, x1, x2 + 1, m_6)
def F_Mo_giveBack_b35 (n : Nat) (E : zE) (S : zS) : Nat × Int32 × Int32 × zH → Option (zH) := zfix (fun r35 s => F_Mo_giveBack_L35 n E S r35 s.1 s.2.1 s.2.2.1 s.2.2.2) n
def F_Mo_giveBack_L8 (n : Nat) (E : zE) (S : zS) (r8 : Nat × Int32 × Int32 × zH → Option (zH)) (a0 : Nat) (x1 : Int32) (x2 : Int32) (M : zH) : Option (zH) :=
  if 800 ≤ x2 then
    F_Mo_giveBack_b35 n E S (a0, x1, 0, M)
  else
    (zgR S a0 11 6).bind fun b_8 =>
    (zgR S a0 11 9).bind fun b_9 =>
    (zldI S M b_9 x2).bind fun v_10 =>
    (zstI S M b_8 x2 v_10).bind fun m_11 =>
    r8 (a0, x1, x2 + 1, m_11)
def F_Mo_giveBack_b8 (n : Nat) (E : zE) (S : zS) : Nat × Int32 × Int32 × zH → Option (zH) := zfix (fun r8 s => F_Mo_giveBack_L8 n E S r8 s.1 s.2.1 s.2.2.1 s.2.2.2) n
def F_Mo_giveBack (n : Nat) (E : zE) (S : zS) (a0 : Nat) (x1 : Int32) (M : zH) : Option (zH) :=
  (zck S a0 11).bind fun u_12 =>
  (F_Mo_putBack n E S a0 17 M).bind fun q_13 =>
  F_Mo_giveBack_b8 n E S (a0, x1, 0, q_13)
theorem K_Mo_giveBack_L35 (n : Nat) (E : zE) (S : zS) (r35 : Nat × Int32 × Int32 × zH → Option (zH)) (a0 : Nat) (x1 : Int32) (x2 : Int32) (M : zH) (M' : zH) (hr35 : ∀ (a0 : Nat) (x1 : Int32) (x2 : Int32) (M : zH), r35 (a0, x1, x2, M) = some M' → zG E Y_Mo_giveBack (none, S, M') 35 [(0, .ref a0), (1, .int x1), (2, .int x2)] [] S M 0 0) (h : F_Mo_giveBack_L35 n E S r35 a0 x1 x2 M = some M') : zG E Y_Mo_giveBack (none, S, M') 35 [(0, .ref a0), (1, .int x1), (2, .int x2)] [] S M 0 0 := by
  unfold F_Mo_giveBack_L35 at h
  refine zi_iload_n 2 d_Mo_giveBack_35 rfl ?_
  refine zi_bipush 16 d_Mo_giveBack_36 rfl ?_
  refine zi_icmp_ge (tgt := 59) d_Mo_giveBack_38 rfl (fun c_1 => ?_) (fun c_1 => ?_)
  · rw [if_pos c_1] at h
    refine zi_aload_n 0 d_Mo_giveBack_59 rfl ?_
    refine zi_iload_n 1 d_Mo_giveBack_60 rfl ?_
    obtain ⟨m_2, em_2, h⟩ := zbind h
    refine zo_putI 64 zkd_11 8 d_Mo_giveBack_61 em_2 rfl rfl rfl tw_1237 rfl ?_
    cases h
    exact zo_ret d_Mo_giveBack_64 (Nat.le_of_ble_eq_true rfl) (Nat.le_of_ble_eq_true rfl) rfl
  · rw [if_neg c_1] at h
    refine zi_aload_n 0 d_Mo_giveBack_41 rfl ?_
    obtain ⟨b_3, eb_3, h⟩ := zbind h
    refine zo_getR 45 zkd_11 7 d_Mo_giveBack_42 eb_3 rfl tw_1236 rfl ?_
    refine zi_iload_n 2 d_Mo_giveBack_45 rfl ?_
    refine zi_aload_n 0 d_Mo_giveBack_46 rfl ?_
    obtain ⟨b_4, eb_4, h⟩ := zbind h
    refine zo_getR 50 zkd_11 10 d_Mo_giveBack_47 eb_4 rfl tw_1239 rfl ?_
    refine zi_iload_n 2 d_Mo_giveBack_50 rfl ?_
    obtain ⟨v_5, ev_5, h⟩ := zbind h
    refine zo_iald 52 d_Mo_giveBack_51 ev_5 rfl ?_
    obtain ⟨m_6, em_6, h⟩ := zbind h
    refine zo_iast 53 d_Mo_giveBack_52 em_6 rfl ?_
    refine zi_iinc 2 (x2 + 1) [(2, .int (x2 + 1)), (0, .ref a0), (1, .int x1)] d_Mo_giveBack_53 rfl rfl (by decide) rfl ?_
    refine zi_goto (tgt := 35) d_Mo_giveBack_56 rfl ?_
    refine zi_lo [(0, .ref a0), (1, .int x1), (2, .int (x2 + 1))] [1, 2, 0] rfl ?_
    exact hr35 a0 x1 (x2 + 1) m_6 h
theorem K_Mo_giveBack_b35 (n : Nat) (E : zE) (S : zS) (a0 : Nat) (x1 : Int32) (x2 : Int32) (M : zH) (M' : zH)  (h : F_Mo_giveBack_b35 n E S (a0, x1, x2, M) = some M') : zG E Y_Mo_giveBack (none, S, M') 35 [(0, .ref a0), (1, .int x1), (2, .int x2)] [] S M 0 0 := by
  have key : ∀ (k : Nat) (a0 : Nat) (x1 : Int32) (x2 : Int32) (M : zH), zfix (fun r35 s => F_Mo_giveBack_L35 n E S r35 s.1 s.2.1 s.2.2.1 s.2.2.2) k (a0, x1, x2, M) = some M' → zG E Y_Mo_giveBack (none, S, M') 35 [(0, .ref a0), (1, .int x1), (2, .int x2)] [] S M 0 0 := by
    intro k
    induction k with
    | zero => intro a0 x1 x2 M h; cases h
    | succ k ih => intro a0 x1 x2 M h; exact K_Mo_giveBack_L35 n E S _ a0 x1 x2 M M'  (fun a0 x1 x2 M h => ih a0 x1 x2 M h) h
  exact key n a0 x1 x2 M h
theorem K_Mo_giveBack_L8 (n : Nat) (E : zE) (S : zS) (r8 : Nat × Int32 × Int32 × zH → Option (zH)) (a0 : Nat) (x1 : Int32) (x2 : Int32) (M : zH) (M' : zH) (hr8 : ∀ (a0 : Nat) (x1 : Int32) (x2 : Int32) (M : zH), r8 (a0, x1, x2, M) = some M' → zG E Y_Mo_giveBack (none, S, M') 8 [(0, .ref a0), (1, .int x1), (2, .int x2)] [] S M 0 0) (h : F_Mo_giveBack_L8 n E S r8 a0 x1 x2 M = some M') : zG E Y_Mo_giveBack (none, S, M') 8 [(0, .ref a0), (1, .int x1), (2, .int x2)] [] S M 0 0 := by
  unfold F_Mo_giveBack_L8 at h
  refine zi_iload_n 2 d_Mo_giveBack_8 rfl ?_
  refine zi_sipush 800 d_Mo_giveBack_9 rfl ?_
  refine zi_icmp_ge (tgt := 33) d_Mo_giveBack_12 rfl (fun c_7 => ?_) (fun c_7 => ?_)
  · rw [if_pos c_7] at h
    refine zi_iconst 0 d_Mo_giveBack_33 rfl ?_
    refine zi_istore_n [(2, .int 0), (0, .ref a0), (1, .int x1)] d_Mo_giveBack_34 (by decide) rfl ?_
    refine zi_lo [(0, .ref a0), (1, .int x1), (2, .int 0)] [1, 2, 0] rfl ?_
    exact K_Mo_giveBack_b35 n E S a0 x1 0 M M'  h
  · rw [if_neg c_7] at h
    refine zi_aload_n 0 d_Mo_giveBack_15 rfl ?_
    obtain ⟨b_8, eb_8, h⟩ := zbind h
    refine zo_getR 19 zkd_11 6 d_Mo_giveBack_16 eb_8 rfl tw_1235 rfl ?_
    refine zi_iload_n 2 d_Mo_giveBack_19 rfl ?_
    refine zi_aload_n 0 d_Mo_giveBack_20 rfl ?_
    obtain ⟨b_9, eb_9, h⟩ := zbind h
    refine zo_getR 24 zkd_11 9 d_Mo_giveBack_21 eb_9 rfl tw_1238 rfl ?_
    refine zi_iload_n 2 d_Mo_giveBack_24 rfl ?_
    obtain ⟨v_10, ev_10, h⟩ := zbind h
    refine zo_iald 26 d_Mo_giveBack_25 ev_10 rfl ?_
    obtain ⟨m_11, em_11, h⟩ := zbind h
    refine zo_iast 27 d_Mo_giveBack_26 em_11 rfl ?_
    refine zi_iinc 2 (x2 + 1) [(2, .int (x2 + 1)), (0, .ref a0), (1, .int x1)] d_Mo_giveBack_27 rfl rfl (by decide) rfl ?_
    refine zi_goto (tgt := 8) d_Mo_giveBack_30 rfl ?_
    refine zi_lo [(0, .ref a0), (1, .int x1), (2, .int (x2 + 1))] [1, 2, 0] rfl ?_
    exact hr8 a0 x1 (x2 + 1) m_11 h
theorem K_Mo_giveBack_b8 (n : Nat) (E : zE) (S : zS) (a0 : Nat) (x1 : Int32) (x2 : Int32) (M : zH) (M' : zH)  (h : F_Mo_giveBack_b8 n E S (a0, x1, x2, M) = some M') : zG E Y_Mo_giveBack (none, S, M') 8 [(0, .ref a0), (1, .int x1), (2, .int x2)] [] S M 0 0 := by
  have key : ∀ (k : Nat) (a0 : Nat) (x1 : Int32) (x2 : Int32) (M : zH), zfix (fun r8 s => F_Mo_giveBack_L8 n E S r8 s.1 s.2.1 s.2.2.1 s.2.2.2) k (a0, x1, x2, M) = some M' → zG E Y_Mo_giveBack (none, S, M') 8 [(0, .ref a0), (1, .int x1), (2, .int x2)] [] S M 0 0 := by
    intro k
    induction k with
    | zero => intro a0 x1 x2 M h; cases h
    | succ k ih => intro a0 x1 x2 M h; exact K_Mo_giveBack_L8 n E S _ a0 x1 x2 M M'  (fun a0 x1 x2 M h => ih a0 x1 x2 M h) h
  exact key n a0 x1 x2 M h
theorem K_Mo_giveBack (n : Nat) (E : zE) (S : zS) (a0 : Nat) (x1 : Int32) (M : zH) (M' : zH)  (h : F_Mo_giveBack n E S a0 x1 M = some M') : zG E Y_Mo_giveBack (none, S, M') 0 [(0, .ref a0), (1, .int x1)] [] S M 0 0 := by
  unfold F_Mo_giveBack at h
  refine zi_aload_n 0 d_Mo_giveBack_0 rfl ?_
  refine zi_bipush 17 d_Mo_giveBack_1 rfl ?_
  obtain ⟨u_12, eu_12, h⟩ := zbind h
  obtain ⟨q_13, eq_13, h⟩ := zbind h
  refine zo_virt (k' := 0) (n' := 0) 6 [.int 17] [] [] zkd_11 (zck_s eu_12) (C_Mo_putBack n E S a0 17 M q_13 eq_13) d_Mo_giveBack_3 tw_1412 tw_1409 tw_1411 ts_37 tw_13 dd_Mo_putBack ⟨Nat.le_of_ble_eq_true rfl, Nat.le_of_ble_eq_true rfl, Nat.le_of_ble_eq_true rfl, Nat.le_of_ble_eq_true rfl⟩ (Nat.le_of_ble_eq_true rfl) rfl rfl rfl rfl ?_
  refine zi_iconst 0 d_Mo_giveBack_6 rfl ?_
  refine zi_istore_n [(2, .int 0), (0, .ref a0), (1, .int x1)] d_Mo_giveBack_7 (by decide) rfl ?_
  refine zi_lo [(0, .ref a0), (1, .int x1), (2, .int 0)] [1, 2, 0] rfl ?_
  exact K_Mo_giveBack_b8 n E S a0 x1 0 q_13 M'  h
theorem C_Mo_giveBack (n : Nat) (E : zE) (S : zS) (a0 : Nat) (x1 : Int32) (M : zH) (M' : zH) (h : F_Mo_giveBack n E S a0 x1 M = some M') : zC E Y_Mo_giveBack [.ref a0, .int x1] S M (none, S, M') :=
  zC.of (Or.inl (show plainName "NightColanderModel" = true by decide)) (Nat.le_of_ble_eq_true rfl) (trivial) (K_Mo_giveBack n E S a0 x1 M M' h)
theorem d_Mo_readSum_0 : decode (yB Y_Mo_readSum) 0 = .ok (.aload_n 0, 1) := by decide +kernel
theorem d_Mo_readSum_1 : decode (yB Y_Mo_readSum) 1 = .ok (.getfield 144, 3) := by decide +kernel
theorem d_Mo_readSum_4 : decode (yB Y_Mo_readSum) 4 = .ok (.iload_n 1, 1) := by decide +kernel
theorem d_Mo_readSum_5 : decode (yB Y_Mo_readSum) 5 = .ok (.aload_n 0, 1) := by decide +kernel
theorem d_Mo_readSum_6 : decode (yB Y_Mo_readSum) 6 = .ok (.getfield 291, 3) := by decide +kernel
theorem d_Mo_readSum_9 : decode (yB Y_Mo_readSum) 9 = .ok (.iastore, 1) := by decide +kernel
theorem d_Mo_readSum_10 : decode (yB Y_Mo_readSum) 10 = .ok (.aload_n 0, 1) := by decide +kernel
theorem d_Mo_readSum_11 : decode (yB Y_Mo_readSum) 11 = .ok (.getfield 256, 3) := by decide +kernel
theorem d_Mo_readSum_14 : decode (yB Y_Mo_readSum) 14 = .ok (.ifCond .ne 8, 3) := by decide +kernel
theorem d_Mo_readSum_17 : decode (yB Y_Mo_readSum) 17 = .ok (.aload_n 0, 1) := by decide +kernel
theorem d_Mo_readSum_18 : decode (yB Y_Mo_readSum) 18 = .ok (.iconst 0, 1) := by decide +kernel
theorem d_Mo_readSum_19 : decode (yB Y_Mo_readSum) 19 = .ok (.invokevirtual 388, 3) := by decide +kernel
theorem d_Mo_readSum_22 : decode (yB Y_Mo_readSum) 22 = .ok (.aload_n 0, 1) := by decide +kernel
theorem d_Mo_readSum_23 : decode (yB Y_Mo_readSum) 23 = .ok (.getfield 144, 3) := by decide +kernel
theorem d_Mo_readSum_26 : decode (yB Y_Mo_readSum) 26 = .ok (.iload_n 1, 1) := by decide +kernel
theorem d_Mo_readSum_27 : decode (yB Y_Mo_readSum) 27 = .ok (.iconst 1, 1) := by decide +kernel
theorem d_Mo_readSum_28 : decode (yB Y_Mo_readSum) 28 = .ok (.iadd, 1) := by decide +kernel
theorem d_Mo_readSum_29 : decode (yB Y_Mo_readSum) 29 = .ok (.aload_n 0, 1) := by decide +kernel
theorem d_Mo_readSum_30 : decode (yB Y_Mo_readSum) 30 = .ok (.getfield 291, 3) := by decide +kernel
theorem d_Mo_readSum_33 : decode (yB Y_Mo_readSum) 33 = .ok (.iastore, 1) := by decide +kernel
theorem d_Mo_readSum_34 : decode (yB Y_Mo_readSum) 34 = .ok (.return_, 1) := by decide +kernel
def F_Mo_readSum_b22 (n : Nat) (E : zE) (S : zS) (a0 : Nat) (x1 : Int32) (M : zH) : Option (zH) :=
  (zgR S a0 11 49).bind fun b_1 =>
  (zgI S M a0 11 23).bind fun v_2 =>
  (zstI S M b_1 (x1 + 1) v_2).bind fun m_3 =>
  some (m_3)
def F_Mo_readSum (n : Nat) (E : zE) (S : zS) (a0 : Nat) (x1 : Int32) (M : zH) : Option (zH) :=
  (zgR S a0 11 49).bind fun b_4 =>
  (zgI S M a0 11 23).bind fun v_5 =>
  (zstI S M b_4 x1 v_5).bind fun m_6 =>
  (zgI S m_6 a0 11 19).bind fun v_7 =>
  if v_7 = 0 then
    (F_Mo_readExpression n E S a0 0 m_6).bind fun q_9 =>
    F_Mo_readSum_b22 n E S a0 x1 q_9
  else
    F_Mo_readSum_b22 n E S a0 x1 m_6
theorem K_Mo_readSum_b22 (n : Nat) (E : zE) (S : zS) (a0 : Nat) (x1 : Int32) (M : zH) (M' : zH)  (h : F_Mo_readSum_b22 n E S a0 x1 M = some M') : zG E Y_Mo_readSum (none, S, M') 22 [(0, .ref a0), (1, .int x1)] [] S M 0 0 := by
  unfold F_Mo_readSum_b22 at h
  refine zi_aload_n 0 d_Mo_readSum_22 rfl ?_
  obtain ⟨b_1, eb_1, h⟩ := zbind h
  refine zo_getR 26 zkd_11 49 d_Mo_readSum_23 eb_1 rfl tw_1278 rfl ?_
  refine zi_iload_n 1 d_Mo_readSum_26 rfl ?_
  refine zi_iconst 1 d_Mo_readSum_27 rfl ?_
  refine zi_iadd d_Mo_readSum_28 ?_
  refine zi_aload_n 0 d_Mo_readSum_29 rfl ?_
  obtain ⟨v_2, ev_2, h⟩ := zbind h
  refine zo_getI 33 zkd_11 23 d_Mo_readSum_30 ev_2 rfl tw_1252 rfl ?_
  obtain ⟨m_3, em_3, h⟩ := zbind h
  refine zo_iast 34 d_Mo_readSum_33 em_3 rfl ?_
  cases h
  exact zo_ret d_Mo_readSum_34 (Nat.le_of_ble_eq_true rfl) (Nat.le_of_ble_eq_true rfl) rfl
theorem K_Mo_readSum (n : Nat) (E : zE) (S : zS) (a0 : Nat) (x1 : Int32) (M : zH) (M' : zH)  (h : F_Mo_readSum n E S a0 x1 M = some M') : zG E Y_Mo_readSum (none, S, M') 0 [(0, .ref a0), (1, .int x1)] [] S M 0 0 := by
  unfold F_Mo_readSum at h
  refine zi_aload_n 0 d_Mo_readSum_0 rfl ?_
  obtain ⟨b_4, eb_4, h⟩ := zbind h
  refine zo_getR 4 zkd_11 49 d_Mo_readSum_1 eb_4 rfl tw_1278 rfl ?_
  refine zi_iload_n 1 d_Mo_readSum_4 rfl ?_
  refine zi_aload_n 0 d_Mo_readSum_5 rfl ?_
  obtain ⟨v_5, ev_5, h⟩ := zbind h
  refine zo_getI 9 zkd_11 23 d_Mo_readSum_6 ev_5 rfl tw_1252 rfl ?_
  obtain ⟨m_6, em_6, h⟩ := zbind h
  refine zo_iast 10 d_Mo_readSum_9 em_6 rfl ?_
  refine zi_aload_n 0 d_Mo_readSum_10 rfl ?_
  obtain ⟨v_7, ev_7, h⟩ := zbind h
  refine zo_getI 14 zkd_11 19 d_Mo_readSum_11 ev_7 rfl tw_1248 rfl ?_
  refine zi_if_ne (tgt := 22) d_Mo_readSum_14 rfl (fun c_8 => ?_) (fun c_8 => ?_)
  · rw [if_neg c_8] at h
    refine zi_lo [(0, .ref a0), (1, .int x1)] [0, 1] rfl ?_
    exact K_Mo_readSum_b22 n E S a0 x1 m_6 M'  h
  · rw [if_pos c_8] at h
    refine zi_aload_n 0 d_Mo_readSum_17 rfl ?_
    refine zi_iconst 0 d_Mo_readSum_18 rfl ?_
    obtain ⟨q_9, eq_9, h⟩ := zbind h
    refine zo_virt (k' := 0) (n' := 0) 22 [.int 0] [] [] zkd_11 (zgR_s eb_4).1 (C_Mo_readExpression n E S a0 0 m_6 q_9 eq_9) d_Mo_readSum_19 tw_1603 tw_1600 tw_1602 ts_60 tw_13 dd_Mo_readExpression ⟨Nat.le_of_ble_eq_true rfl, Nat.le_of_ble_eq_true rfl, Nat.le_of_ble_eq_true rfl, Nat.le_of_ble_eq_true rfl⟩ (Nat.le_of_ble_eq_true rfl) rfl rfl rfl rfl ?_
    refine zi_lo [(0, .ref a0), (1, .int x1)] [0, 1] rfl ?_
    exact K_Mo_readSum_b22 n E S a0 x1 q_9 M'  h
theorem C_Mo_readSum (n : Nat) (E : zE) (S : zS) (a0 : Nat) (x1 : Int32) (M : zH) (M' : zH) (h : F_Mo_readSum n E S a0 x1 M = some M') : zC E Y_Mo_readSum [.ref a0, .int x1] S M (none, S, M') :=
  zC.of (Or.inl (show plainName "NightColanderModel" = true by decide)) (Nat.le_of_ble_eq_true rfl) (trivial) (K_Mo_readSum n E S a0 x1 M M' h)
theorem d_Mo_readOrder_0 : decode (yB Y_Mo_readOrder) 0 = .ok (.iconst (-1), 1) := by decide +kernel
theorem d_Mo_readOrder_1 : decode (yB Y_Mo_readOrder) 1 = .ok (.istore_n 1, 1) := by decide +kernel
theorem d_Mo_readOrder_2 : decode (yB Y_Mo_readOrder) 2 = .ok (.iconst 0, 1) := by decide +kernel
theorem d_Mo_readOrder_3 : decode (yB Y_Mo_readOrder) 3 = .ok (.istore_n 2, 1) := by decide +kernel
theorem d_Mo_readOrder_4 : decode (yB Y_Mo_readOrder) 4 = .ok (.iload_n 2, 1) := by decide +kernel
theorem d_Mo_readOrder_5 : decode (yB Y_Mo_readOrder) 5 = .ok (.iconst 4, 1) := by decide +kernel
theorem d_Mo_readOrder_6 : decode (yB Y_Mo_readOrder) 6 = .ok (.if_icmp .ge 28, 3) := by decide +kernel
theorem d_Mo_readOrder_9 : decode (yB Y_Mo_readOrder) 9 = .ok (.aload_n 0, 1) := by decide +kernel
theorem d_Mo_readOrder_10 : decode (yB Y_Mo_readOrder) 10 = .ok (.aload_n 0, 1) := by decide +kernel
theorem d_Mo_readOrder_11 : decode (yB Y_Mo_readOrder) 11 = .ok (.getfield 141, 3) := by decide +kernel
theorem d_Mo_readOrder_14 : decode (yB Y_Mo_readOrder) 14 = .ok (.iload_n 2, 1) := by decide +kernel
theorem d_Mo_readOrder_15 : decode (yB Y_Mo_readOrder) 15 = .ok (.laload, 1) := by decide +kernel
theorem d_Mo_readOrder_16 : decode (yB Y_Mo_readOrder) 16 = .ok (.invokevirtual 312, 3) := by decide +kernel
theorem d_Mo_readOrder_19 : decode (yB Y_Mo_readOrder) 19 = .ok (.ifCond .eq 7, 3) := by decide +kernel
theorem d_Mo_readOrder_22 : decode (yB Y_Mo_readOrder) 22 = .ok (.iload_n 2, 1) := by decide +kernel
theorem d_Mo_readOrder_23 : decode (yB Y_Mo_readOrder) 23 = .ok (.goto 4, 3) := by decide +kernel
theorem d_Mo_readOrder_26 : decode (yB Y_Mo_readOrder) 26 = .ok (.iload_n 1, 1) := by decide +kernel
theorem d_Mo_readOrder_27 : decode (yB Y_Mo_readOrder) 27 = .ok (.istore_n 1, 1) := by decide +kernel
theorem d_Mo_readOrder_28 : decode (yB Y_Mo_readOrder) 28 = .ok (.iinc 2 1, 3) := by decide +kernel
theorem d_Mo_readOrder_31 : decode (yB Y_Mo_readOrder) 31 = .ok (.goto (-27), 3) := by decide +kernel
theorem d_Mo_readOrder_34 : decode (yB Y_Mo_readOrder) 34 = .ok (.aload_n 0, 1) := by decide +kernel
theorem d_Mo_readOrder_35 : decode (yB Y_Mo_readOrder) 35 = .ok (.iload_n 1, 1) := by decide +kernel
theorem d_Mo_readOrder_36 : decode (yB Y_Mo_readOrder) 36 = .ok (.iconst (-1), 1) := by decide +kernel
theorem d_Mo_readOrder_37 : decode (yB Y_Mo_readOrder) 37 = .ok (.if_icmp .eq 16, 3) := by decide +kernel
theorem d_Mo_readOrder_40 : decode (yB Y_Mo_readOrder) 40 = .ok (.aload_n 0, 1) := by decide +kernel
theorem d_Mo_readOrder_41 : decode (yB Y_Mo_readOrder) 41 = .ok (.getfield 385, 3) := by decide +kernel
theorem d_Mo_readOrder_44 : decode (yB Y_Mo_readOrder) 44 = .ok (.bipush 12, 2) := by decide +kernel
theorem d_Mo_readOrder_46 : decode (yB Y_Mo_readOrder) 46 = .ok (.if_icmp .ge 7, 3) := by decide +kernel
theorem d_Mo_readOrder_49 : decode (yB Y_Mo_readOrder) 49 = .ok (.iconst 1, 1) := by decide +kernel
theorem d_Mo_readOrder_50 : decode (yB Y_Mo_readOrder) 50 = .ok (.goto 4, 3) := by decide +kernel
theorem d_Mo_readOrder_53 : decode (yB Y_Mo_readOrder) 53 = .ok (.iconst 0, 1) := by decide +kernel
theorem d_Mo_readOrder_54 : decode (yB Y_Mo_readOrder) 54 = .ok (.invokevirtual 287, 3) := by decide +kernel
theorem d_Mo_readOrder_57 : decode (yB Y_Mo_readOrder) 57 = .ok (.aload_n 0, 1) := by decide +kernel
theorem d_Mo_readOrder_58 : decode (yB Y_Mo_readOrder) 58 = .ok (.getfield 256, 3) := by decide +kernel
theorem d_Mo_readOrder_61 : decode (yB Y_Mo_readOrder) 61 = .ok (.ifCond .eq 4, 3) := by decide +kernel
theorem d_Mo_readOrder_64 : decode (yB Y_Mo_readOrder) 64 = .ok (.return_, 1) := by decide +kernel
theorem d_Mo_readOrder_65 : decode (yB Y_Mo_readOrder) 65 = .ok (.bipush 8, 2) := by decide +kernel
theorem d_Mo_readOrder_67 : decode (yB Y_Mo_readOrder) 67 = .ok (.aload_n 0, 1) := by decide +kernel
theorem d_Mo_readOrder_68 : decode (yB Y_Mo_readOrder) 68 = .ok (.getfield 385, 3) := by decide +kernel
theorem d_Mo_readOrder_71 : decode (yB Y_Mo_readOrder) 71 = .ok (.imul, 1) := by decide +kernel
theorem d_Mo_readOrder_72 : decode (yB Y_Mo_readOrder) 72 = .ok (.istore_n 2, 1) := by decide +kernel
theorem d_Mo_readOrder_73 : decode (yB Y_Mo_readOrder) 73 = .ok (.aload_n 0, 1) := by decide +kernel
theorem d_Mo_readOrder_74 : decode (yB Y_Mo_readOrder) 74 = .ok (.dup, 1) := by decide +kernel
theorem d_Mo_readOrder_75 : decode (yB Y_Mo_readOrder) 75 = .ok (.getfield 385, 3) := by decide +kernel
theorem d_Mo_readOrder_78 : decode (yB Y_Mo_readOrder) 78 = .ok (.iconst 1, 1) := by decide +kernel
theorem d_Mo_readOrder_79 : decode (yB Y_Mo_readOrder) 79 = .ok (.iadd, 1) := by decide +kernel
theorem d_Mo_readOrder_80 : decode (yB Y_Mo_readOrder) 80 = .ok (.putfield 385, 3) := by decide +kernel
theorem d_Mo_readOrder_83 : decode (yB Y_Mo_readOrder) 83 = .ok (.iconst 0, 1) := by decide +kernel
theorem d_Mo_readOrder_84 : decode (yB Y_Mo_readOrder) 84 = .ok (.istore_n 3, 1) := by decide +kernel
theorem d_Mo_readOrder_85 : decode (yB Y_Mo_readOrder) 85 = .ok (.iload_n 3, 1) := by decide +kernel
theorem d_Mo_readOrder_86 : decode (yB Y_Mo_readOrder) 86 = .ok (.bipush 8, 2) := by decide +kernel
theorem d_Mo_readOrder_88 : decode (yB Y_Mo_readOrder) 88 = .ok (.if_icmp .ge 18, 3) := by decide +kernel
theorem d_Mo_readOrder_91 : decode (yB Y_Mo_readOrder) 91 = .ok (.aload_n 0, 1) := by decide +kernel
theorem d_Mo_readOrder_92 : decode (yB Y_Mo_readOrder) 92 = .ok (.getfield 144, 3) := by decide +kernel
theorem d_Mo_readOrder_95 : decode (yB Y_Mo_readOrder) 95 = .ok (.iload_n 2, 1) := by decide +kernel
theorem d_Mo_readOrder_96 : decode (yB Y_Mo_readOrder) 96 = .ok (.iload_n 3, 1) := by decide +kernel
theorem d_Mo_readOrder_97 : decode (yB Y_Mo_readOrder) 97 = .ok (.iadd, 1) := by decide +kernel
theorem d_Mo_readOrder_98 : decode (yB Y_Mo_readOrder) 98 = .ok (.iconst 0, 1) := by decide +kernel
theorem d_Mo_readOrder_99 : decode (yB Y_Mo_readOrder) 99 = .ok (.iastore, 1) := by decide +kernel
theorem d_Mo_readOrder_100 : decode (yB Y_Mo_readOrder) 100 = .ok (.iinc 3 1, 3) := by decide +kernel
theorem d_Mo_readOrder_103 : decode (yB Y_Mo_readOrder) 103 = .ok (.goto (-18), 3) := by decide +kernel
theorem d_Mo_readOrder_106 : decode (yB Y_Mo_readOrder) 106 = .ok (.aload_n 0, 1) := by decide +kernel
theorem d_Mo_readOrder_107 : decode (yB Y_Mo_readOrder) 107 = .ok (.getfield 144, 3) := by decide +kernel
theorem d_Mo_readOrder_110 : decode (yB Y_Mo_readOrder) 110 = .ok (.iload_n 2, 1) := by decide +kernel
theorem d_Mo_readOrder_111 : decode (yB Y_Mo_readOrder) 111 = .ok (.iload_n 1, 1) := by decide +kernel
theorem d_Mo_readOrder_112 : decode (yB Y_Mo_readOrder) 112 = .ok (.iastore, 1) := by decide +kernel
theorem d_Mo_readOrder_113 : decode (yB Y_Mo_readOrder) 113 = .ok (.iload_n 1, 1) := by decide +kernel
theorem d_Mo_readOrder_114 : decode (yB Y_Mo_readOrder) 114 = .ok (.iconst 3, 1) := by decide +kernel
theorem d_Mo_readOrder_115 : decode (yB Y_Mo_readOrder) 115 = .ok (.if_icmp .eq 46, 3) := by decide +kernel
theorem d_Mo_readOrder_118 : decode (yB Y_Mo_readOrder) 118 = .ok (.aload_n 0, 1) := by decide +kernel
theorem d_Mo_readOrder_119 : decode (yB Y_Mo_readOrder) 119 = .ok (.iload_n 2, 1) := by decide +kernel
theorem d_Mo_readOrder_120 : decode (yB Y_Mo_readOrder) 120 = .ok (.iconst 1, 1) := by decide +kernel
theorem d_Mo_readOrder_121 : decode (yB Y_Mo_readOrder) 121 = .ok (.iadd, 1) := by decide +kernel
theorem d_Mo_readOrder_122 : decode (yB Y_Mo_readOrder) 122 = .ok (.invokevirtual 505, 3) := by decide +kernel
theorem d_Mo_readOrder_125 : decode (yB Y_Mo_readOrder) 125 = .ok (.aload_n 0, 1) := by decide +kernel
theorem d_Mo_readOrder_126 : decode (yB Y_Mo_readOrder) 126 = .ok (.getfield 256, 3) := by decide +kernel
theorem d_Mo_readOrder_129 : decode (yB Y_Mo_readOrder) 129 = .ok (.ifCond .ne 25, 3) := by decide +kernel
theorem d_Mo_readOrder_132 : decode (yB Y_Mo_readOrder) 132 = .ok (.aload_n 0, 1) := by decide +kernel
theorem d_Mo_readOrder_133 : decode (yB Y_Mo_readOrder) 133 = .ok (.aload_n 0, 1) := by decide +kernel
theorem d_Mo_readOrder_134 : decode (yB Y_Mo_readOrder) 134 = .ok (.iload_n 1, 1) := by decide +kernel
theorem d_Mo_readOrder_135 : decode (yB Y_Mo_readOrder) 135 = .ok (.iconst 2, 1) := by decide +kernel
theorem d_Mo_readOrder_136 : decode (yB Y_Mo_readOrder) 136 = .ok (.if_icmp .ne 9, 3) := by decide +kernel
theorem d_Mo_readOrder_139 : decode (yB Y_Mo_readOrder) 139 = .ok (.ldc2_w 508, 3) := by decide +kernel
theorem d_Mo_readOrder_142 : decode (yB Y_Mo_readOrder) 142 = .ok (.goto 6, 3) := by decide +kernel
theorem d_Mo_readOrder_145 : decode (yB Y_Mo_readOrder) 145 = .ok (.ldc2_w 510, 3) := by decide +kernel
theorem d_Mo_readOrder_148 : decode (yB Y_Mo_readOrder) 148 = .ok (.invokevirtual 312, 3) := by decide +kernel
theorem d_Mo_readOrder_151 : decode (yB Y_Mo_readOrder) 151 = .ok (.invokevirtual 287, 3) := by decide +kernel
theorem d_Mo_readOrder_154 : decode (yB Y_Mo_readOrder) 154 = .ok (.aload_n 0, 1) := by decide +kernel
theorem d_Mo_readOrder_155 : decode (yB Y_Mo_readOrder) 155 = .ok (.iload_n 2, 1) := by decide +kernel
theorem d_Mo_readOrder_156 : decode (yB Y_Mo_readOrder) 156 = .ok (.iconst 3, 1) := by decide +kernel
theorem d_Mo_readOrder_157 : decode (yB Y_Mo_readOrder) 157 = .ok (.iadd, 1) := by decide +kernel
theorem d_Mo_readOrder_158 : decode (yB Y_Mo_readOrder) 158 = .ok (.invokevirtual 505, 3) := by decide +kernel
theorem d_Mo_readOrder_161 : decode (yB Y_Mo_readOrder) 161 = .ok (.aload_n 0, 1) := by decide +kernel
theorem d_Mo_readOrder_162 : decode (yB Y_Mo_readOrder) 162 = .ok (.getfield 144, 3) := by decide +kernel
theorem d_Mo_readOrder_165 : decode (yB Y_Mo_readOrder) 165 = .ok (.iload_n 2, 1) := by decide +kernel
theorem d_Mo_readOrder_166 : decode (yB Y_Mo_readOrder) 166 = .ok (.bipush 7, 2) := by decide +kernel
theorem d_Mo_readOrder_168 : decode (yB Y_Mo_readOrder) 168 = .ok (.iadd, 1) := by decide +kernel
theorem d_Mo_readOrder_169 : decode (yB Y_Mo_readOrder) 169 = .ok (.iconst 1, 1) := by decide +kernel
theorem d_Mo_readOrder_170 : decode (yB Y_Mo_readOrder) 170 = .ok (.iastore, 1) := by decide +kernel
theorem d_Mo_readOrder_171 : decode (yB Y_Mo_readOrder) 171 = .ok (.aload_n 0, 1) := by decide +kernel
theorem d_Mo_readOrder_172 : decode (yB Y_Mo_readOrder) 172 = .ok (.getfield 256, 3) := by decide +kernel
theorem d_Mo_readOrder_175 : decode (yB Y_Mo_readOrder) 175 = .ok (.ifCond .ne 34, 3) := by decide +kernel
theorem d_Mo_readOrder_178 : decode (yB Y_Mo_readOrder) 178 = .ok (.aload_n 0, 1) := by decide +kernel
theorem d_Mo_readOrder_179 : decode (yB Y_Mo_readOrder) 179 = .ok (.ldc2_w 512, 3) := by decide +kernel
theorem d_Mo_readOrder_182 : decode (yB Y_Mo_readOrder) 182 = .ok (.invokevirtual 312, 3) := by decide +kernel
theorem d_Mo_readOrder_185 : decode (yB Y_Mo_readOrder) 185 = .ok (.ifCond .eq 24, 3) := by decide +kernel
theorem d_Mo_readOrder_188 : decode (yB Y_Mo_readOrder) 188 = .ok (.aload_n 0, 1) := by decide +kernel
theorem d_Mo_readOrder_189 : decode (yB Y_Mo_readOrder) 189 = .ok (.invokevirtual 260, 3) := by decide +kernel
theorem d_Mo_readOrder_192 : decode (yB Y_Mo_readOrder) 192 = .ok (.aload_n 0, 1) := by decide +kernel
theorem d_Mo_readOrder_193 : decode (yB Y_Mo_readOrder) 193 = .ok (.getfield 144, 3) := by decide +kernel
theorem d_Mo_readOrder_196 : decode (yB Y_Mo_readOrder) 196 = .ok (.iload_n 2, 1) := by decide +kernel
theorem d_Mo_readOrder_197 : decode (yB Y_Mo_readOrder) 197 = .ok (.bipush 7, 2) := by decide +kernel
theorem d_Mo_readOrder_199 : decode (yB Y_Mo_readOrder) 199 = .ok (.iadd, 1) := by decide +kernel
theorem d_Mo_readOrder_200 : decode (yB Y_Mo_readOrder) 200 = .ok (.aload_n 0, 1) := by decide +kernel
theorem d_Mo_readOrder_201 : decode (yB Y_Mo_readOrder) 201 = .ok (.lconst 1, 1) := by decide +kernel
theorem d_Mo_readOrder_202 : decode (yB Y_Mo_readOrder) 202 = .ok (.ldc2_w 304, 3) := by decide +kernel
theorem d_Mo_readOrder_205 : decode (yB Y_Mo_readOrder) 205 = .ok (.invokevirtual 349, 3) := by decide +kernel
theorem d_Mo_readOrder_208 : decode (yB Y_Mo_readOrder) 208 = .ok (.iastore, 1) := by decide +kernel
theorem d_Mo_readOrder_209 : decode (yB Y_Mo_readOrder) 209 = .ok (.aload_n 0, 1) := by decide +kernel
theorem d_Mo_readOrder_210 : decode (yB Y_Mo_readOrder) 210 = .ok (.getfield 144, 3) := by decide +kernel
theorem d_Mo_readOrder_213 : decode (yB Y_Mo_readOrder) 213 = .ok (.iload_n 2, 1) := by decide +kernel
theorem d_Mo_readOrder_214 : decode (yB Y_Mo_readOrder) 214 = .ok (.iconst 5, 1) := by decide +kernel
theorem d_Mo_readOrder_215 : decode (yB Y_Mo_readOrder) 215 = .ok (.iadd, 1) := by decide +kernel
theorem d_Mo_readOrder_216 : decode (yB Y_Mo_readOrder) 216 = .ok (.aload_n 0, 1) := by decide +kernel
theorem d_Mo_readOrder_217 : decode (yB Y_Mo_readOrder) 217 = .ok (.getfield 291, 3) := by decide +kernel
theorem d_Mo_readOrder_220 : decode (yB Y_Mo_readOrder) 220 = .ok (.iastore, 1) := by decide +kernel
theorem d_Mo_readOrder_221 : decode (yB Y_Mo_readOrder) 221 = .ok (.aload_n 0, 1) := by decide +kernel
theorem d_Mo_readOrder_222 : decode (yB Y_Mo_readOrder) 222 = .ok (.getfield 256, 3) := by decide +kernel
theorem d_Mo_readOrder_225 : decode (yB Y_Mo_readOrder) 225 = .ok (.ifCond .ne 22, 3) := by decide +kernel
theorem d_Mo_readOrder_228 : decode (yB Y_Mo_readOrder) 228 = .ok (.aload_n 0, 1) := by decide +kernel
theorem d_Mo_readOrder_229 : decode (yB Y_Mo_readOrder) 229 = .ok (.ldc2_w 391, 3) := by decide +kernel
theorem d_Mo_readOrder_232 : decode (yB Y_Mo_readOrder) 232 = .ok (.invokevirtual 312, 3) := by decide +kernel
theorem d_Mo_readOrder_235 : decode (yB Y_Mo_readOrder) 235 = .ok (.ifCond .eq 12, 3) := by decide +kernel
theorem d_Mo_readOrder_238 : decode (yB Y_Mo_readOrder) 238 = .ok (.aload_n 0, 1) := by decide +kernel
theorem d_Mo_readOrder_239 : decode (yB Y_Mo_readOrder) 239 = .ok (.invokevirtual 260, 3) := by decide +kernel
theorem d_Mo_readOrder_242 : decode (yB Y_Mo_readOrder) 242 = .ok (.aload_n 0, 1) := by decide +kernel
theorem d_Mo_readOrder_243 : decode (yB Y_Mo_readOrder) 243 = .ok (.iconst 1, 1) := by decide +kernel
theorem d_Mo_readOrder_244 : decode (yB Y_Mo_readOrder) 244 = .ok (.invokevirtual 388, 3) := by decide +kernel
theorem d_Mo_readOrder_247 : decode (yB Y_Mo_readOrder) 247 = .ok (.aload_n 0, 1) := by decide +kernel
theorem d_Mo_readOrder_248 : decode (yB Y_Mo_readOrder) 248 = .ok (.getfield 144, 3) := by decide +kernel
theorem d_Mo_readOrder_251 : decode (yB Y_Mo_readOrder) 251 = .ok (.iload_n 2, 1) := by decide +kernel
theorem d_Mo_readOrder_252 : decode (yB Y_Mo_readOrder) 252 = .ok (.bipush 6, 2) := by decide +kernel
theorem d_Mo_readOrder_254 : decode (yB Y_Mo_readOrder) 254 = .ok (.iadd, 1) := by decide +kernel
theorem d_Mo_readOrder_255 : decode (yB Y_Mo_readOrder) 255 = .ok (.aload_n 0, 1) := by decide +kernel
theorem d_Mo_readOrder_256 : decode (yB Y_Mo_readOrder) 256 = .ok (.getfield 291, 3) := by decide +kernel
theorem d_Mo_readOrder_259 : decode (yB Y_Mo_readOrder) 259 = .ok (.iastore, 1) := by decide +kernel
theorem d_Mo_readOrder_260 : decode (yB Y_Mo_readOrder) 260 = .ok (.return_, 1) := by decide +kernel
def F_Mo_readOrder_b27 (n : Nat) (E : zE) (S : zS) (r4 : Nat × Int32 × Int32 × zH → Option (zH)) (a0 : Nat) (x2 : Int32) (s0 : Int32) (M : zH) : Option (zH) :=
  r4 (a0, s0, x2 + 1, M)
def F_Mo_readOrder_b247 (n : Nat) (E : zE) (S : zS) (a0 : Nat) (x2 : Int32) (M : zH) : Option (zH) :=
  (zgR S a0 11 49).bind fun b_1 =>
  (zgI S M a0 11 23).bind fun v_2 =>
  (zstI S M b_1 (x2 + 6) v_2).bind fun m_3 =>
  some (m_3)
def F_Mo_readOrder_b209 (n : Nat) (E : zE) (S : zS) (a0 : Nat) (x2 : Int32) (M : zH) : Option (zH) :=
  (zgR S a0 11 49).bind fun b_4 =>
  (zgI S M a0 11 23).bind fun v_5 =>
  (zstI S M b_4 (x2 + 5) v_5).bind fun m_6 =>
  (zgI S m_6 a0 11 19).bind fun v_7 =>
  if v_7 = 0 then
    (F_Mo_isWord n E S a0 294 m_6).bind fun q_9 =>
    if q_9.1 = true then
      (F_Mo_next n E S a0 q_9.2).bind fun q_11 =>
      (F_Mo_readExpression n E S a0 1 q_11).bind fun q_12 =>
      F_Mo_readOrder_b247 n E S a0 x2 q_12
    else
      F_Mo_readOrder_b247 n E S a0 x2 q_9.2
  else
    F_Mo_readOrder_b247 n E S a0 x2 m_6
def F_Mo_readOrder_b161 (n : Nat) (E : zE) (S : zS) (a0 : Nat) (x2 : Int32) (M : zH) : Option (zH) :=
  (zgR S a0 11 49).bind fun b_13 =>
  (zstI S M b_13 (x2 + 7) 1).bind fun m_14 =>
  (zgI S m_14 a0 11 19).bind fun v_15 =>
  if v_15 = 0 then
    (F_Mo_isWord n E S a0 21279923 m_14).bind fun q_17 =>
    if q_17.1 = true then
      (F_Mo_next n E S a0 q_17.2).bind fun q_19 =>
      (F_Mo_number n E S a0 1 20 q_19).bind fun q_20 =>
      (zstI S q_20.2 b_13 (x2 + 7) q_20.1).bind fun m_21 =>
      F_Mo_readOrder_b209 n E S a0 x2 m_21
    else
      F_Mo_readOrder_b209 n E S a0 x2 q_17.2
  else
    F_Mo_readOrder_b209 n E S a0 x2 m_14
def F_Mo_readOrder_b154 (n : Nat) (E : zE) (S : zS) (a0 : Nat) (x2 : Int32) (M : zH) : Option (zH) :=
  (zck S a0 11).bind fun u_22 =>
  (F_Mo_readSum n E S a0 (x2 + 3) M).bind fun q_23 =>
  F_Mo_readOrder_b161 n E S a0 x2 q_23
def F_Mo_readOrder_b148 (n : Nat) (E : zE) (S : zS) (a0 : Nat) (x2 : Int32) (t0 : Int64) (u1 : Nat) (u2 : Nat) (M : zH) : Option (zH) :=
  (zck S u1 11).bind fun u_24 =>
  (F_Mo_isWord n E S u1 t0 M).bind fun q_25 =>
  (zck S u2 11).bind fun u_26 =>
  (F_Mo_must n E S u2 (bI q_25.1) q_25.2).bind fun q_27 =>
  F_Mo_readOrder_b154 n E S a0 x2 q_27
def F_Mo_readOrder_L85 (n : Nat) (E : zE) (S : zS) (r85 : Nat × Int32 × Int32 × Int32 × zH → Option (zH)) (a0 : Nat) (x1 : Int32) (x2 : Int32) (x3 : Int32) (M : zH) : Option (zH) :=
  if 8 ≤ x3 then
    (zgR S a0 11 49).bind fun b_29 =>
    (zstI S M b_29 x2 x1).bind fun m_30 =>
    if x1 = 3 then
      F_Mo_readOrder_b161 n E S a0 x2 m_30
    else
      (F_Mo_readSum n E S a0 (x2 + 1) m_30).bind fun q_32 =>
      (zgI S q_32 a0 11 19).bind fun v_33 =>
      if v_33 = 0 then
        if x1 = 2 then
          F_Mo_readOrder_b148 n E S a0 x2 52 a0 a0 q_32
        else
          F_Mo_readOrder_b148 n E S a0 x2 486 a0 a0 q_32
      else
        F_Mo_readOrder_b154 n E S a0 x2 q_32
  else
    (zgR S a0 11 49).bind fun b_36 =>
    (zstI S M b_36 (x2 + x3) 0).bind fun m_37 =>
    r85 (a0, x1, x2, x3 + 1, m_37)
def F_Mo_readOrder_b85 (n : Nat) (E : zE) (S : zS) : Nat × Int32 × Int32 × Int32 × zH → Option (zH) := zfix (fun r85 s => F_Mo_readOrder_L85 n E S r85 s.1 s.2.1 s.2.2.1 s.2.2.2.1 s.2.2.2.2) n
def F_Mo_readOrder_b54 (n : Nat) (E : zE) (S : zS) (a0 : Nat) (x1 : Int32) (s0 : Int32) (u1 : Nat) (M : zH) : Option (zH) :=
  (zck S u1 11).bind fun u_38 =>
  (F_Mo_must n E S u1 s0 M).bind fun q_39 =>
  (zgI S q_39 a0 11 19).bind fun v_40 =>
  if v_40 = 0 then
    (zgI S q_39 a0 11 21).bind fun v_42 =>
    (zgI S q_39 a0 11 21).bind fun v_43 =>
    (zpI S q_39 a0 11 21 (v_43 + 1)).bind fun m_44 =>
    F_Mo_readOrder_b85 n E S (a0, x1, 8 * v_42, 0, m_44)
  else
    some (q_39)
def F_Mo_readOrder_b53 (n : Nat) (E : zE) (S : zS) (a0 : Nat) (x1 : Int32) (u0 : Nat) (M : zH) : Option (zH) :=
  F_Mo_readOrder_b54 n E S a0 x1 0 u0 M
def F_Mo_readOrder_L4 (n : Nat) (E : zE) (S : zS) (r4 : Nat × Int32 × Int32 × zH → Option (zH)) (a0 : Nat) (x1 : Int32) (x2 : Int32) (M : zH) : Option (zH) :=
  if 4 ≤ x2 then
    if x1 = (-1) then
      F_Mo_readOrder_b53 n E S a0 x1 a0 M
    else
      (zgI S M a0 11 21).bind fun v_47 =>
      if 12 ≤ v_47 then
        F_Mo_readOrder_b53 n E S a0 x1 a0 M
      else
        F_Mo_readOrder_b54 n E S a0 x1 1 a0 M
  else
    (zgR S a0 11 48).bind fun b_49 =>
    (zldJ S M b_49 x2).bind fun v_50 =>
    (F_Mo_isWord n E S a0 v_50 M).bind fun q_51 =>
    if q_51.1 = true then
      F_Mo_readOrder_b27 n E S r4 a0 x2 x2 q_51.2
    else
      F_Mo_readOrder_b27 n E S r4 a0 x2 x1 q_51.2
def F_Mo_readOrder_b4 (n : Nat) (E : zE) (S : zS) : Nat × Int32 × Int32 × zH → Option (zH) := zfix (fun r4 s => F_Mo_readOrder_L4 n E S r4 s.1 s.2.1 s.2.2.1 s.2.2.2) n
def F_Mo_readOrder (n : Nat) (E : zE) (S : zS) (a0 : Nat) (M : zH) : Option (zH) :=
  F_Mo_readOrder_b4 n E S (a0, (-1), 0, M)
theorem K_Mo_readOrder_b27 (n : Nat) (E : zE) (S : zS) (r4 : Nat × Int32 × Int32 × zH → Option (zH)) (a0 : Nat) (x2 : Int32) (s0 : Int32) (M : zH) (M' : zH) (hr4 : ∀ (a0 : Nat) (x1 : Int32) (x2 : Int32) (M : zH), r4 (a0, x1, x2, M) = some M' → zG E Y_Mo_readOrder (none, S, M') 4 [(0, .ref a0), (1, .int x1), (2, .int x2)] [] S M 0 0) (h : F_Mo_readOrder_b27 n E S r4 a0 x2 s0 M = some M') : zG E Y_Mo_readOrder (none, S, M') 27 [(0, .ref a0), (2, .int x2)] [.int s0] S M 0 0 := by
  unfold F_Mo_readOrder_b27 at h
  refine zi_istore_n [(1, .int s0), (0, .ref a0), (2, .int x2)] d_Mo_readOrder_27 (by decide) rfl ?_
  refine zi_iinc 2 (x2 + 1) [(2, .int (x2 + 1)), (1, .int s0), (0, .ref a0)] d_Mo_readOrder_28 rfl rfl (by decide) rfl ?_
  refine zi_goto (tgt := 4) d_Mo_readOrder_31 rfl ?_
  refine zi_lo [(0, .ref a0), (1, .int s0), (2, .int (x2 + 1))] [2, 1, 0] rfl ?_
  exact hr4 a0 s0 (x2 + 1) M h
theorem K_Mo_readOrder_b247 (n : Nat) (E : zE) (S : zS) (a0 : Nat) (x2 : Int32) (M : zH) (M' : zH)  (h : F_Mo_readOrder_b247 n E S a0 x2 M = some M') : zG E Y_Mo_readOrder (none, S, M') 247 [(0, .ref a0), (2, .int x2)] [] S M 0 0 := by
  unfold F_Mo_readOrder_b247 at h
  refine zi_aload_n 0 d_Mo_readOrder_247 rfl ?_
  obtain ⟨b_1, eb_1, h⟩ := zbind h
  refine zo_getR 251 zkd_11 49 d_Mo_readOrder_248 eb_1 rfl tw_1278 rfl ?_
  refine zi_iload_n 1 d_Mo_readOrder_251 rfl ?_
  refine zi_bipush 6 d_Mo_readOrder_252 rfl ?_
  refine zi_iadd d_Mo_readOrder_254 ?_
  refine zi_aload_n 0 d_Mo_readOrder_255 rfl ?_
  obtain ⟨v_2, ev_2, h⟩ := zbind h
  refine zo_getI 259 zkd_11 23 d_Mo_readOrder_256 ev_2 rfl tw_1252 rfl ?_
  obtain ⟨m_3, em_3, h⟩ := zbind h
  refine zo_iast 260 d_Mo_readOrder_259 em_3 rfl ?_
  cases h
  exact zo_ret d_Mo_readOrder_260 (Nat.le_of_ble_eq_true rfl) (Nat.le_of_ble_eq_true rfl) rfl
theorem K_Mo_readOrder_b209 (n : Nat) (E : zE) (S : zS) (a0 : Nat) (x2 : Int32) (M : zH) (M' : zH)  (h : F_Mo_readOrder_b209 n E S a0 x2 M = some M') : zG E Y_Mo_readOrder (none, S, M') 209 [(0, .ref a0), (2, .int x2)] [] S M 0 0 := by
  unfold F_Mo_readOrder_b209 at h
  refine zi_aload_n 0 d_Mo_readOrder_209 rfl ?_
  obtain ⟨b_4, eb_4, h⟩ := zbind h
  refine zo_getR 213 zkd_11 49 d_Mo_readOrder_210 eb_4 rfl tw_1278 rfl ?_
  refine zi_iload_n 1 d_Mo_readOrder_213 rfl ?_
  refine zi_iconst 5 d_Mo_readOrder_214 rfl ?_
  refine zi_iadd d_Mo_readOrder_215 ?_
  refine zi_aload_n 0 d_Mo_readOrder_216 rfl ?_
  obtain ⟨v_5, ev_5, h⟩ := zbind h
  refine zo_getI 220 zkd_11 23 d_Mo_readOrder_217 ev_5 rfl tw_1252 rfl ?_
  obtain ⟨m_6, em_6, h⟩ := zbind h
  refine zo_iast 221 d_Mo_readOrder_220 em_6 rfl ?_
  refine zi_aload_n 0 d_Mo_readOrder_221 rfl ?_
  obtain ⟨v_7, ev_7, h⟩ := zbind h
  refine zo_getI 225 zkd_11 19 d_Mo_readOrder_222 ev_7 rfl tw_1248 rfl ?_
  refine zi_if_ne (tgt := 247) d_Mo_readOrder_225 rfl (fun c_8 => ?_) (fun c_8 => ?_)
  · rw [if_neg c_8] at h
    refine zi_lo [(0, .ref a0), (2, .int x2)] [0, 1] rfl ?_
    exact K_Mo_readOrder_b247 n E S a0 x2 m_6 M'  h
  · rw [if_pos c_8] at h
    refine zi_aload_n 0 d_Mo_readOrder_228 rfl ?_
    refine zi_ldc2 d_Mo_readOrder_229 tw_1676 ?_
    obtain ⟨q_9, eq_9, h⟩ := zbind h
    refine zo_virt (k' := 0) (n' := 0) 235 [.long 294] [] [.int (bI q_9.1)] zkd_11 (zgR_s eb_4).1 (C_Mo_isWord n E S a0 294 m_6 q_9.1 q_9.2 eq_9) d_Mo_readOrder_232 tw_1595 tw_1592 tw_1594 ts_58 tw_13 dd_Mo_isWord ⟨Nat.le_of_ble_eq_true rfl, Nat.le_of_ble_eq_true rfl, Nat.le_of_ble_eq_true rfl, Nat.le_of_ble_eq_true rfl⟩ (Nat.le_of_ble_eq_true rfl) rfl rfl rfl rfl ?_
    refine zo_ifeqB d_Mo_readOrder_235 rfl 238 rfl (fun c_10 => ?_) (fun c_10 => ?_)
    · rw [if_neg c_10] at h
      refine zi_lo [(0, .ref a0), (2, .int x2)] [0, 1] rfl ?_
      exact K_Mo_readOrder_b247 n E S a0 x2 q_9.2 M'  h
    · rw [if_pos c_10] at h
      refine zi_aload_n 0 d_Mo_readOrder_238 rfl ?_
      obtain ⟨q_11, eq_11, h⟩ := zbind h
      refine zo_virt (k' := 0) (n' := 0) 242 [] [] [] zkd_11 (zgR_s eb_4).1 (C_Mo_next n E S a0 q_9.2 q_11 eq_11) d_Mo_readOrder_239 tw_1577 tw_1574 tw_1576 ts_56 tw_13 dd_Mo_next ⟨Nat.le_of_ble_eq_true rfl, Nat.le_of_ble_eq_true rfl, Nat.le_of_ble_eq_true rfl, Nat.le_of_ble_eq_true rfl⟩ (Nat.le_of_ble_eq_true rfl) rfl rfl rfl rfl ?_
      refine zi_aload_n 0 d_Mo_readOrder_242 rfl ?_
      refine zi_iconst 1 d_Mo_readOrder_243 rfl ?_
      obtain ⟨q_12, eq_12, h⟩ := zbind h
      refine zo_virt (k' := 0) (n' := 0) 247 [.int 1] [] [] zkd_11 (zgR_s eb_4).1 (C_Mo_readExpression n E S a0 1 q_11 q_12 eq_12) d_Mo_readOrder_244 tw_1603 tw_1600 tw_1602 ts_60 tw_13 dd_Mo_readExpression ⟨Nat.le_of_ble_eq_true rfl, Nat.le_of_ble_eq_true rfl, Nat.le_of_ble_eq_true rfl, Nat.le_of_ble_eq_true rfl⟩ (Nat.le_of_ble_eq_true rfl) rfl rfl rfl rfl ?_
      refine zi_lo [(0, .ref a0), (2, .int x2)] [0, 1] rfl ?_
      exact K_Mo_readOrder_b247 n E S a0 x2 q_12 M'  h
theorem K_Mo_readOrder_b161 (n : Nat) (E : zE) (S : zS) (a0 : Nat) (x2 : Int32) (M : zH) (M' : zH)  (h : F_Mo_readOrder_b161 n E S a0 x2 M = some M') : zG E Y_Mo_readOrder (none, S, M') 161 [(0, .ref a0), (2, .int x2)] [] S M 0 0 := by
  unfold F_Mo_readOrder_b161 at h
  refine zi_aload_n 0 d_Mo_readOrder_161 rfl ?_
  obtain ⟨b_13, eb_13, h⟩ := zbind h
  refine zo_getR 165 zkd_11 49 d_Mo_readOrder_162 eb_13 rfl tw_1278 rfl ?_
  refine zi_iload_n 1 d_Mo_readOrder_165 rfl ?_
  refine zi_bipush 7 d_Mo_readOrder_166 rfl ?_
  refine zi_iadd d_Mo_readOrder_168 ?_
  refine zi_iconst 1 d_Mo_readOrder_169 rfl ?_
  obtain ⟨m_14, em_14, h⟩ := zbind h
  refine zo_iast 171 d_Mo_readOrder_170 em_14 rfl ?_
  refine zi_aload_n 0 d_Mo_readOrder_171 rfl ?_
  obtain ⟨v_15, ev_15, h⟩ := zbind h
  refine zo_getI 175 zkd_11 19 d_Mo_readOrder_172 ev_15 rfl tw_1248 rfl ?_
  refine zi_if_ne (tgt := 209) d_Mo_readOrder_175 rfl (fun c_16 => ?_) (fun c_16 => ?_)
  · rw [if_neg c_16] at h
    refine zi_lo [(0, .ref a0), (2, .int x2)] [0, 1] rfl ?_
    exact K_Mo_readOrder_b209 n E S a0 x2 m_14 M'  h
  · rw [if_pos c_16] at h
    refine zi_aload_n 0 d_Mo_readOrder_178 rfl ?_
    refine zi_ldc2 d_Mo_readOrder_179 tw_1858 ?_
    obtain ⟨q_17, eq_17, h⟩ := zbind h
    refine zo_virt (k' := 0) (n' := 0) 185 [.long 21279923] [] [.int (bI q_17.1)] zkd_11 (zgR_s eb_13).1 (C_Mo_isWord n E S a0 21279923 m_14 q_17.1 q_17.2 eq_17) d_Mo_readOrder_182 tw_1595 tw_1592 tw_1594 ts_58 tw_13 dd_Mo_isWord ⟨Nat.le_of_ble_eq_true rfl, Nat.le_of_ble_eq_true rfl, Nat.le_of_ble_eq_true rfl, Nat.le_of_ble_eq_true rfl⟩ (Nat.le_of_ble_eq_true rfl) rfl rfl rfl rfl ?_
    refine zo_ifeqB d_Mo_readOrder_185 rfl 188 rfl (fun c_18 => ?_) (fun c_18 => ?_)
    · rw [if_neg c_18] at h
      refine zi_lo [(0, .ref a0), (2, .int x2)] [0, 1] rfl ?_
      exact K_Mo_readOrder_b209 n E S a0 x2 q_17.2 M'  h
    · rw [if_pos c_18] at h
      refine zi_aload_n 0 d_Mo_readOrder_188 rfl ?_
      obtain ⟨q_19, eq_19, h⟩ := zbind h
      refine zo_virt (k' := 0) (n' := 0) 192 [] [] [] zkd_11 (zgR_s eb_13).1 (C_Mo_next n E S a0 q_17.2 q_19 eq_19) d_Mo_readOrder_189 tw_1577 tw_1574 tw_1576 ts_56 tw_13 dd_Mo_next ⟨Nat.le_of_ble_eq_true rfl, Nat.le_of_ble_eq_true rfl, Nat.le_of_ble_eq_true rfl, Nat.le_of_ble_eq_true rfl⟩ (Nat.le_of_ble_eq_true rfl) rfl rfl rfl rfl ?_
      refine zi_aload_n 0 d_Mo_readOrder_192 rfl ?_
      refine zo_getR 196 zkd_11 49 d_Mo_readOrder_193 eb_13 rfl tw_1278 rfl ?_
      refine zi_iload_n 1 d_Mo_readOrder_196 rfl ?_
      refine zi_bipush 7 d_Mo_readOrder_197 rfl ?_
      refine zi_iadd d_Mo_readOrder_199 ?_
      refine zi_aload_n 0 d_Mo_readOrder_200 rfl ?_
      refine zi_lconst 1 d_Mo_readOrder_201 rfl ?_
      refine zi_ldc2 d_Mo_readOrder_202 tw_1666 ?_
      obtain ⟨q_20, eq_20, h⟩ := zbind h
      refine zo_virt (k' := 0) (n' := 0) 208 [.long 1, .long 20] [.int (x2 + 7), .ref b_13] [.int q_20.1, .int (x2 + 7), .ref b_13] zkd_11 (zgR_s eb_13).1 (C_Mo_number n E S a0 1 20 q_19 q_20.1 q_20.2 eq_20) d_Mo_readOrder_205 tw_1646 tw_1643 tw_1645 ts_70 tw_13 dd_Mo_number ⟨Nat.le_of_ble_eq_true rfl, Nat.le_of_ble_eq_true rfl, Nat.le_of_ble_eq_true rfl, Nat.le_of_ble_eq_true rfl⟩ (Nat.le_of_ble_eq_true rfl) rfl rfl rfl rfl ?_
      obtain ⟨m_21, em_21, h⟩ := zbind h
      refine zo_iast 209 d_Mo_readOrder_208 em_21 rfl ?_
      refine zi_lo [(0, .ref a0), (2, .int x2)] [0, 1] rfl ?_
      exact K_Mo_readOrder_b209 n E S a0 x2 m_21 M'  h
theorem K_Mo_readOrder_b154 (n : Nat) (E : zE) (S : zS) (a0 : Nat) (x2 : Int32) (M : zH) (M' : zH)  (h : F_Mo_readOrder_b154 n E S a0 x2 M = some M') : zG E Y_Mo_readOrder (none, S, M') 154 [(0, .ref a0), (2, .int x2)] [] S M 0 0 := by
  unfold F_Mo_readOrder_b154 at h
  refine zi_aload_n 0 d_Mo_readOrder_154 rfl ?_
  refine zi_iload_n 1 d_Mo_readOrder_155 rfl ?_
  refine zi_iconst 3 d_Mo_readOrder_156 rfl ?_
  refine zi_iadd d_Mo_readOrder_157 ?_
  obtain ⟨u_22, eu_22, h⟩ := zbind h
  obtain ⟨q_23, eq_23, h⟩ := zbind h
  refine zo_virt (k' := 0) (n' := 0) 161 [.int (x2 + 3)] [] [] zkd_11 (zck_s eu_22) (C_Mo_readSum n E S a0 (x2 + 3) M q_23 eq_23) d_Mo_readOrder_158 tw_1855 tw_1852 tw_1854 ts_97 tw_13 dd_Mo_readSum ⟨Nat.le_of_ble_eq_true rfl, Nat.le_of_ble_eq_true rfl, Nat.le_of_ble_eq_true rfl, Nat.le_of_ble_eq_true rfl⟩ (Nat.le_of_ble_eq_true rfl) rfl rfl rfl rfl ?_
  refine zi_lo [(0, .ref a0), (2, .int x2)] [0, 1] rfl ?_
  exact K_Mo_readOrder_b161 n E S a0 x2 q_23 M'  h
theorem K_Mo_readOrder_b148 (n : Nat) (E : zE) (S : zS) (a0 : Nat) (x2 : Int32) (t0 : Int64) (u1 : Nat) (u2 : Nat) (M : zH) (M' : zH)  (h : F_Mo_readOrder_b148 n E S a0 x2 t0 u1 u2 M = some M') : zG E Y_Mo_readOrder (none, S, M') 148 [(0, .ref a0), (2, .int x2)] [.long t0, .ref u1, .ref u2] S M 0 0 := by
  unfold F_Mo_readOrder_b148 at h
  obtain ⟨u_24, eu_24, h⟩ := zbind h
  obtain ⟨q_25, eq_25, h⟩ := zbind h
  refine zo_virt (k' := 0) (n' := 0) 151 [.long t0] [.ref u2] [.int (bI q_25.1), .ref u2] zkd_11 (zck_s eu_24) (C_Mo_isWord n E S u1 t0 M q_25.1 q_25.2 eq_25) d_Mo_readOrder_148 tw_1595 tw_1592 tw_1594 ts_58 tw_13 dd_Mo_isWord ⟨Nat.le_of_ble_eq_true rfl, Nat.le_of_ble_eq_true rfl, Nat.le_of_ble_eq_true rfl, Nat.le_of_ble_eq_true rfl⟩ (Nat.le_of_ble_eq_true rfl) rfl rfl rfl rfl ?_
  obtain ⟨u_26, eu_26, h⟩ := zbind h
  obtain ⟨q_27, eq_27, h⟩ := zbind h
  refine zo_virt (k' := 0) (n' := 0) 154 [.int (bI q_25.1)] [] [] zkd_11 (zck_s eu_26) (C_Mo_must n E S u2 (bI q_25.1) q_25.2 q_27 eq_27) d_Mo_readOrder_151 tw_1599 tw_1596 tw_1598 ts_59 tw_13 dd_Mo_must ⟨Nat.le_of_ble_eq_true rfl, Nat.le_of_ble_eq_true rfl, Nat.le_of_ble_eq_true rfl, Nat.le_of_ble_eq_true rfl⟩ (Nat.le_of_ble_eq_true rfl) rfl rfl rfl rfl ?_
  refine zi_lo [(0, .ref a0), (2, .int x2)] [0, 1] rfl ?_
  exact K_Mo_readOrder_b154 n E S a0 x2 q_27 M'  h
theorem K_Mo_readOrder_L85 (n : Nat) (E : zE) (S : zS) (r85 : Nat × Int32 × Int32 × Int32 × zH → Option (zH)) (a0 : Nat) (x1 : Int32) (x2 : Int32) (x3 : Int32) (M : zH) (M' : zH) (hr85 : ∀ (a0 : Nat) (x1 : Int32) (x2 : Int32) (x3 : Int32) (M : zH), r85 (a0, x1, x2, x3, M) = some M' → zG E Y_Mo_readOrder (none, S, M') 85 [(0, .ref a0), (1, .int x1), (2, .int x2), (3, .int x3)] [] S M 0 0) (h : F_Mo_readOrder_L85 n E S r85 a0 x1 x2 x3 M = some M') : zG E Y_Mo_readOrder (none, S, M') 85 [(0, .ref a0), (1, .int x1), (2, .int x2), (3, .int x3)] [] S M 0 0 := by
  unfold F_Mo_readOrder_L85 at h
  refine zi_iload_n 3 d_Mo_readOrder_85 rfl ?_
  refine zi_bipush 8 d_Mo_readOrder_86 rfl ?_
  refine zi_icmp_ge (tgt := 106) d_Mo_readOrder_88 rfl (fun c_28 => ?_) (fun c_28 => ?_)
  · rw [if_pos c_28] at h
    refine zi_aload_n 0 d_Mo_readOrder_106 rfl ?_
    obtain ⟨b_29, eb_29, h⟩ := zbind h
    refine zo_getR 110 zkd_11 49 d_Mo_readOrder_107 eb_29 rfl tw_1278 rfl ?_
    refine zi_iload_n 2 d_Mo_readOrder_110 rfl ?_
    refine zi_iload_n 1 d_Mo_readOrder_111 rfl ?_
    obtain ⟨m_30, em_30, h⟩ := zbind h
    refine zo_iast 113 d_Mo_readOrder_112 em_30 rfl ?_
    refine zi_iload_n 1 d_Mo_readOrder_113 rfl ?_
    refine zi_iconst 3 d_Mo_readOrder_114 rfl ?_
    refine zi_icmp_eq (tgt := 161) d_Mo_readOrder_115 rfl (fun c_31 => ?_) (fun c_31 => ?_)
    · rw [if_pos c_31] at h
      refine zi_lo [(0, .ref a0), (2, .int x2)] [0, 2] rfl ?_
      exact K_Mo_readOrder_b161 n E S a0 x2 m_30 M'  h
    · rw [if_neg c_31] at h
      refine zi_aload_n 0 d_Mo_readOrder_118 rfl ?_
      refine zi_iload_n 2 d_Mo_readOrder_119 rfl ?_
      refine zi_iconst 1 d_Mo_readOrder_120 rfl ?_
      refine zi_iadd d_Mo_readOrder_121 ?_
      obtain ⟨q_32, eq_32, h⟩ := zbind h
      refine zo_virt (k' := 0) (n' := 0) 125 [.int (x2 + 1)] [] [] zkd_11 (zgR_s eb_29).1 (C_Mo_readSum n E S a0 (x2 + 1) m_30 q_32 eq_32) d_Mo_readOrder_122 tw_1855 tw_1852 tw_1854 ts_97 tw_13 dd_Mo_readSum ⟨Nat.le_of_ble_eq_true rfl, Nat.le_of_ble_eq_true rfl, Nat.le_of_ble_eq_true rfl, Nat.le_of_ble_eq_true rfl⟩ (Nat.le_of_ble_eq_true rfl) rfl rfl rfl rfl ?_
      refine zi_aload_n 0 d_Mo_readOrder_125 rfl ?_
      obtain ⟨v_33, ev_33, h⟩ := zbind h
      refine zo_getI 129 zkd_11 19 d_Mo_readOrder_126 ev_33 rfl tw_1248 rfl ?_
      refine zi_if_ne (tgt := 154) d_Mo_readOrder_129 rfl (fun c_34 => ?_) (fun c_34 => ?_)
      · rw [if_neg c_34] at h
        refine zi_lo [(0, .ref a0), (2, .int x2)] [0, 2] rfl ?_
        exact K_Mo_readOrder_b154 n E S a0 x2 q_32 M'  h
      · rw [if_pos c_34] at h
        refine zi_aload_n 0 d_Mo_readOrder_132 rfl ?_
        refine zi_aload_n 0 d_Mo_readOrder_133 rfl ?_
        refine zi_iload_n 1 d_Mo_readOrder_134 rfl ?_
        refine zi_iconst 2 d_Mo_readOrder_135 rfl ?_
        refine zi_icmp_ne (tgt := 145) d_Mo_readOrder_136 rfl (fun c_35 => ?_) (fun c_35 => ?_)
        · rw [if_neg c_35] at h
          refine zi_ldc2 d_Mo_readOrder_145 tw_1857 ?_
          refine zi_lo [(0, .ref a0), (2, .int x2)] [0, 2] rfl ?_
          exact K_Mo_readOrder_b148 n E S a0 x2 486 a0 a0 q_32 M'  h
        · rw [if_pos c_35] at h
          refine zi_ldc2 d_Mo_readOrder_139 tw_1856 ?_
          refine zi_goto (tgt := 148) d_Mo_readOrder_142 rfl ?_
          refine zi_lo [(0, .ref a0), (2, .int x2)] [0, 2] rfl ?_
          exact K_Mo_readOrder_b148 n E S a0 x2 52 a0 a0 q_32 M'  h
  · rw [if_neg c_28] at h
    refine zi_aload_n 0 d_Mo_readOrder_91 rfl ?_
    obtain ⟨b_36, eb_36, h⟩ := zbind h
    refine zo_getR 95 zkd_11 49 d_Mo_readOrder_92 eb_36 rfl tw_1278 rfl ?_
    refine zi_iload_n 2 d_Mo_readOrder_95 rfl ?_
    refine zi_iload_n 3 d_Mo_readOrder_96 rfl ?_
    refine zi_iadd d_Mo_readOrder_97 ?_
    refine zi_iconst 0 d_Mo_readOrder_98 rfl ?_
    obtain ⟨m_37, em_37, h⟩ := zbind h
    refine zo_iast 100 d_Mo_readOrder_99 em_37 rfl ?_
    refine zi_iinc 3 (x3 + 1) [(3, .int (x3 + 1)), (0, .ref a0), (1, .int x1), (2, .int x2)] d_Mo_readOrder_100 rfl rfl (by decide) rfl ?_
    refine zi_goto (tgt := 85) d_Mo_readOrder_103 rfl ?_
    refine zi_lo [(0, .ref a0), (1, .int x1), (2, .int x2), (3, .int (x3 + 1))] [1, 2, 3, 0] rfl ?_
    exact hr85 a0 x1 x2 (x3 + 1) m_37 h
theorem K_Mo_readOrder_b85 (n : Nat) (E : zE) (S : zS) (a0 : Nat) (x1 : Int32) (x2 : Int32) (x3 : Int32) (M : zH) (M' : zH)  (h : F_Mo_readOrder_b85 n E S (a0, x1, x2, x3, M) = some M') : zG E Y_Mo_readOrder (none, S, M') 85 [(0, .ref a0), (1, .int x1), (2, .int x2), (3, .int x3)] [] S M 0 0 := by
  have key : ∀ (k : Nat) (a0 : Nat) (x1 : Int32) (x2 : Int32) (x3 : Int32) (M : zH), zfix (fun r85 s => F_Mo_readOrder_L85 n E S r85 s.1 s.2.1 s.2.2.1 s.2.2.2.1 s.2.2.2.2) k (a0, x1, x2, x3, M) = some M' → zG E Y_Mo_readOrder (none, S, M') 85 [(0, .ref a0), (1, .int x1), (2, .int x2), (3, .int x3)] [] S M 0 0 := by
    intro k
    induction k with
    | zero => intro a0 x1 x2 x3 M h; cases h
    | succ k ih => intro a0 x1 x2 x3 M h; exact K_Mo_readOrder_L85 n E S _ a0 x1 x2 x3 M M'  (fun a0 x1 x2 x3 M h => ih a0 x1 x2 x3 M h) h
  exact key n a0 x1 x2 x3 M h
theorem K_Mo_readOrder_b54 (n : Nat) (E : zE) (S : zS) (a0 : Nat) (x1 : Int32) (s0 : Int32) (u1 : Nat) (M : zH) (M' : zH)  (h : F_Mo_readOrder_b54 n E S a0 x1 s0 u1 M = some M') : zG E Y_Mo_readOrder (none, S, M') 54 [(0, .ref a0), (1, .int x1)] [.int s0, .ref u1] S M 0 0 := by
  unfold F_Mo_readOrder_b54 at h
  obtain ⟨u_38, eu_38, h⟩ := zbind h
  obtain ⟨q_39, eq_39, h⟩ := zbind h
  refine zo_virt (k' := 0) (n' := 0) 57 [.int s0] [] [] zkd_11 (zck_s eu_38) (C_Mo_must n E S u1 s0 M q_39 eq_39) d_Mo_readOrder_54 tw_1599 tw_1596 tw_1598 ts_59 tw_13 dd_Mo_must ⟨Nat.le_of_ble_eq_true rfl, Nat.le_of_ble_eq_true rfl, Nat.le_of_ble_eq_true rfl, Nat.le_of_ble_eq_true rfl⟩ (Nat.le_of_ble_eq_true rfl) rfl rfl rfl rfl ?_
  refine zi_aload_n 0 d_Mo_readOrder_57 rfl ?_
  obtain ⟨v_40, ev_40, h⟩ := zbind h
  refine zo_getI 61 zkd_11 19 d_Mo_readOrder_58 ev_40 rfl tw_1248 rfl ?_
  refine zi_if_eq (tgt := 65) d_Mo_readOrder_61 rfl (fun c_41 => ?_) (fun c_41 => ?_)
  · rw [if_pos c_41] at h
    refine zi_bipush 8 d_Mo_readOrder_65 rfl ?_
    refine zi_aload_n 0 d_Mo_readOrder_67 rfl ?_
    obtain ⟨v_42, ev_42, h⟩ := zbind h
    refine zo_getI 71 zkd_11 21 d_Mo_readOrder_68 ev_42 rfl tw_1250 rfl ?_
    refine zi_imul d_Mo_readOrder_71 ?_
    refine zi_istore_n [(2, .int (8 * v_42)), (0, .ref a0), (1, .int x1)] d_Mo_readOrder_72 (by decide) rfl ?_
    refine zi_aload_n 1 d_Mo_readOrder_73 rfl ?_
    refine zi_dup d_Mo_readOrder_74 rfl ?_
    obtain ⟨v_43, ev_43, h⟩ := zbind h
    refine zo_getI 78 zkd_11 21 d_Mo_readOrder_75 ev_43 rfl tw_1250 rfl ?_
    refine zi_iconst 1 d_Mo_readOrder_78 rfl ?_
    refine zi_iadd d_Mo_readOrder_79 ?_
    obtain ⟨m_44, em_44, h⟩ := zbind h
    refine zo_putI 83 zkd_11 21 d_Mo_readOrder_80 em_44 rfl rfl rfl tw_1250 rfl ?_
    refine zi_iconst 0 d_Mo_readOrder_83 rfl ?_
    refine zi_istore_n [(3, .int 0), (2, .int (8 * v_42)), (0, .ref a0), (1, .int x1)] d_Mo_readOrder_84 (by decide) rfl ?_
    refine zi_lo [(0, .ref a0), (1, .int x1), (2, .int (8 * v_42)), (3, .int 0)] [2, 3, 1, 0] rfl ?_
    exact K_Mo_readOrder_b85 n E S a0 x1 (8 * v_42) 0 m_44 M'  h
  · rw [if_neg c_41] at h
    cases h
    exact zo_ret d_Mo_readOrder_64 (Nat.le_of_ble_eq_true rfl) (Nat.le_of_ble_eq_true rfl) rfl
theorem K_Mo_readOrder_b53 (n : Nat) (E : zE) (S : zS) (a0 : Nat) (x1 : Int32) (u0 : Nat) (M : zH) (M' : zH)  (h : F_Mo_readOrder_b53 n E S a0 x1 u0 M = some M') : zG E Y_Mo_readOrder (none, S, M') 53 [(0, .ref a0), (1, .int x1)] [.ref u0] S M 0 0 := by
  unfold F_Mo_readOrder_b53 at h
  refine zi_iconst 0 d_Mo_readOrder_53 rfl ?_
  refine zi_lo [(0, .ref a0), (1, .int x1)] [0, 1] rfl ?_
  exact K_Mo_readOrder_b54 n E S a0 x1 0 u0 M M'  h
theorem K_Mo_readOrder_L4 (n : Nat) (E : zE) (S : zS) (r4 : Nat × Int32 × Int32 × zH → Option (zH)) (a0 : Nat) (x1 : Int32) (x2 : Int32) (M : zH) (M' : zH) (hr4 : ∀ (a0 : Nat) (x1 : Int32) (x2 : Int32) (M : zH), r4 (a0, x1, x2, M) = some M' → zG E Y_Mo_readOrder (none, S, M') 4 [(0, .ref a0), (1, .int x1), (2, .int x2)] [] S M 0 0) (h : F_Mo_readOrder_L4 n E S r4 a0 x1 x2 M = some M') : zG E Y_Mo_readOrder (none, S, M') 4 [(0, .ref a0), (1, .int x1), (2, .int x2)] [] S M 0 0 := by
  unfold F_Mo_readOrder_L4 at h
  refine zi_iload_n 2 d_Mo_readOrder_4 rfl ?_
  refine zi_iconst 4 d_Mo_readOrder_5 rfl ?_
  refine zi_icmp_ge (tgt := 34) d_Mo_readOrder_6 rfl (fun c_45 => ?_) (fun c_45 => ?_)
  · rw [if_pos c_45] at h
    refine zi_aload_n 0 d_Mo_readOrder_34 rfl ?_
    refine zi_iload_n 1 d_Mo_readOrder_35 rfl ?_
    refine zi_iconst (-1) d_Mo_readOrder_36 rfl ?_
    refine zi_icmp_eq (tgt := 53) d_Mo_readOrder_37 rfl (fun c_46 => ?_) (fun c_46 => ?_)
    · rw [if_pos c_46] at h
      refine zi_lo [(0, .ref a0), (1, .int x1)] [0, 1] rfl ?_
      exact K_Mo_readOrder_b53 n E S a0 x1 a0 M M'  h
    · rw [if_neg c_46] at h
      refine zi_aload_n 0 d_Mo_readOrder_40 rfl ?_
      obtain ⟨v_47, ev_47, h⟩ := zbind h
      refine zo_getI 44 zkd_11 21 d_Mo_readOrder_41 ev_47 rfl tw_1250 rfl ?_
      refine zi_bipush 12 d_Mo_readOrder_44 rfl ?_
      refine zi_icmp_ge (tgt := 53) d_Mo_readOrder_46 rfl (fun c_48 => ?_) (fun c_48 => ?_)
      · rw [if_pos c_48] at h
        refine zi_lo [(0, .ref a0), (1, .int x1)] [0, 1] rfl ?_
        exact K_Mo_readOrder_b53 n E S a0 x1 a0 M M'  h
      · rw [if_neg c_48] at h
        refine zi_iconst 1 d_Mo_readOrder_49 rfl ?_
        refine zi_goto (tgt := 54) d_Mo_readOrder_50 rfl ?_
        refine zi_lo [(0, .ref a0), (1, .int x1)] [0, 1] rfl ?_
        exact K_Mo_readOrder_b54 n E S a0 x1 1 a0 M M'  h
  · rw [if_neg c_45] at h
    refine zi_aload_n 0 d_Mo_readOrder_9 rfl ?_
    refine zi_aload_n 0 d_Mo_readOrder_10 rfl ?_
    obtain ⟨b_49, eb_49, h⟩ := zbind h
    refine zo_getR 14 zkd_11 48 d_Mo_readOrder_11 eb_49 rfl tw_1277 rfl ?_
    refine zi_iload_n 2 d_Mo_readOrder_14 rfl ?_
    obtain ⟨v_50, ev_50, h⟩ := zbind h
    refine zo_lald 16 d_Mo_readOrder_15 ev_50 rfl ?_
    obtain ⟨q_51, eq_51, h⟩ := zbind h
    refine zo_virt (k' := 0) (n' := 0) 19 [.long v_50] [] [.int (bI q_51.1)] zkd_11 (zgR_s eb_49).1 (C_Mo_isWord n E S a0 v_50 M q_51.1 q_51.2 eq_51) d_Mo_readOrder_16 tw_1595 tw_1592 tw_1594 ts_58 tw_13 dd_Mo_isWord ⟨Nat.le_of_ble_eq_true rfl, Nat.le_of_ble_eq_true rfl, Nat.le_of_ble_eq_true rfl, Nat.le_of_ble_eq_true rfl⟩ (Nat.le_of_ble_eq_true rfl) rfl rfl rfl rfl ?_
    refine zo_ifeqB d_Mo_readOrder_19 rfl 22 rfl (fun c_52 => ?_) (fun c_52 => ?_)
    · rw [if_neg c_52] at h
      refine zi_iload_n 1 d_Mo_readOrder_26 rfl ?_
      refine zi_lo [(0, .ref a0), (2, .int x2)] [0, 2] rfl ?_
      exact K_Mo_readOrder_b27 n E S r4 a0 x2 x1 q_51.2 M' hr4 h
    · rw [if_pos c_52] at h
      refine zi_iload_n 2 d_Mo_readOrder_22 rfl ?_
      refine zi_goto (tgt := 27) d_Mo_readOrder_23 rfl ?_
      refine zi_lo [(0, .ref a0), (2, .int x2)] [0, 2] rfl ?_
      exact K_Mo_readOrder_b27 n E S r4 a0 x2 x2 q_51.2 M' hr4 h
theorem K_Mo_readOrder_b4 (n : Nat) (E : zE) (S : zS) (a0 : Nat) (x1 : Int32) (x2 : Int32) (M : zH) (M' : zH)  (h : F_Mo_readOrder_b4 n E S (a0, x1, x2, M) = some M') : zG E Y_Mo_readOrder (none, S, M') 4 [(0, .ref a0), (1, .int x1), (2, .int x2)] [] S M 0 0 := by
  have key : ∀ (k : Nat) (a0 : Nat) (x1 : Int32) (x2 : Int32) (M : zH), zfix (fun r4 s => F_Mo_readOrder_L4 n E S r4 s.1 s.2.1 s.2.2.1 s.2.2.2) k (a0, x1, x2, M) = some M' → zG E Y_Mo_readOrder (none, S, M') 4 [(0, .ref a0), (1, .int x1), (2, .int x2)] [] S M 0 0 := by
    intro k
    induction k with
    | zero => intro a0 x1 x2 M h; cases h
    | succ k ih => intro a0 x1 x2 M h; exact K_Mo_readOrder_L4 n E S _ a0 x1 x2 M M'  (fun a0 x1 x2 M h => ih a0 x1 x2 M h) h
  exact key n a0 x1 x2 M h
theorem K_Mo_readOrder (n : Nat) (E : zE) (S : zS) (a0 : Nat) (M : zH) (M' : zH)  (h : F_Mo_readOrder n E S a0 M = some M') : zG E Y_Mo_readOrder (none, S, M') 0 [(0, .ref a0)] [] S M 0 0 := by
  unfold F_Mo_readOrder at h
  refine zi_iconst (-1) d_Mo_readOrder_0 rfl ?_
  refine zi_istore_n [(1, .int (-1)), (0, .ref a0)] d_Mo_readOrder_1 (by decide) rfl ?_
  refine zi_iconst 0 d_Mo_readOrder_2 rfl ?_
  refine zi_istore_n [(2, .int 0), (1, .int (-1)), (0, .ref a0)] d_Mo_readOrder_3 (by decide) rfl ?_
  refine zi_lo [(0, .ref a0), (1, .int (-1)), (2, .int 0)] [2, 1, 0] rfl ?_
  exact K_Mo_readOrder_b4 n E S a0 (-1) 0 M M'  h
theorem C_Mo_readOrder (n : Nat) (E : zE) (S : zS) (a0 : Nat) (M : zH) (M' : zH) (h : F_Mo_readOrder n E S a0 M = some M') : zC E Y_Mo_readOrder [.ref a0] S M (none, S, M') :=
  zC.of (Or.inl (show plainName "NightColanderModel" = true by decide)) (Nat.le_of_ble_eq_true rfl) (trivial) (K_Mo_readOrder n E S a0 M M' h)
