/-! METHODS (printed by gen/build.py): Mo_act Mo_levels Mo_sumOf Mo_run Mo_orders Mo_stopped Mo_draw Mo_years -/
theorem d_Mo_act_0 : decode (yB Y_Mo_act) 0 = .ok (.iload_n 1, 1) := by decide +kernel
theorem d_Mo_act_1 : decode (yB Y_Mo_act) 1 = .ok (.tableswitch 48 0 2 #[27, 34, 41], 27) := by decide +kernel
theorem d_Mo_act_28 : decode (yB Y_Mo_act) 28 = .ok (.aload_n 0, 1) := by decide +kernel
theorem d_Mo_act_29 : decode (yB Y_Mo_act) 29 = .ok (.iload_n 2, 1) := by decide +kernel
theorem d_Mo_act_30 : decode (yB Y_Mo_act) 30 = .ok (.iload_n 3, 1) := by decide +kernel
theorem d_Mo_act_31 : decode (yB Y_Mo_act) 31 = .ok (.invokevirtual 448, 3) := by decide +kernel
theorem d_Mo_act_34 : decode (yB Y_Mo_act) 34 = .ok (.ireturn, 1) := by decide +kernel
theorem d_Mo_act_35 : decode (yB Y_Mo_act) 35 = .ok (.aload_n 0, 1) := by decide +kernel
theorem d_Mo_act_36 : decode (yB Y_Mo_act) 36 = .ok (.iload_n 2, 1) := by decide +kernel
theorem d_Mo_act_37 : decode (yB Y_Mo_act) 37 = .ok (.iload_n 3, 1) := by decide +kernel
theorem d_Mo_act_38 : decode (yB Y_Mo_act) 38 = .ok (.invokevirtual 451, 3) := by decide +kernel
theorem d_Mo_act_41 : decode (yB Y_Mo_act) 41 = .ok (.ireturn, 1) := by decide +kernel
theorem d_Mo_act_42 : decode (yB Y_Mo_act) 42 = .ok (.aload_n 0, 1) := by decide +kernel
theorem d_Mo_act_43 : decode (yB Y_Mo_act) 43 = .ok (.iload_n 2, 1) := by decide +kernel
theorem d_Mo_act_44 : decode (yB Y_Mo_act) 44 = .ok (.iload_n 3, 1) := by decide +kernel
theorem d_Mo_act_45 : decode (yB Y_Mo_act) 45 = .ok (.invokevirtual 454, 3) := by decide +kernel
theorem d_Mo_act_48 : decode (yB Y_Mo_act) 48 = .ok (.ireturn, 1) := by decide +kernel
theorem d_Mo_act_49 : decode (yB Y_Mo_act) 49 = .ok (.aload_n 0, 1) := by decide +kernel
theorem d_Mo_act_50 : decode (yB Y_Mo_act) 50 = .ok (.invokevirtual 469, 3) := by decide +kernel
theorem d_Mo_act_53 : decode (yB Y_Mo_act) 53 = .ok (.ireturn, 1) := by decide +kernel
def F_Mo_act (n : Nat) (E : zE) (S : zS) (a0 : Nat) (x1 : Int32) (x2 : Int32) (x3 : Int32) (M : zH) : Option (Int32 × zH) :=
  if x1 = 0 then
    (zck S a0 11).bind fun u_2 =>
    (F_Mo_blockNow n E S a0 x2 x3 M).bind fun q_3 =>
    some (q_3.1, q_3.2)
  else
  if x1 = 1 then
    (zck S a0 11).bind fun u_5 =>
    (F_Mo_reamNow n E S a0 x2 x3 M).bind fun q_6 =>
    some (q_6.1, q_6.2)
  else
  if x1 = 2 then
    (zck S a0 11).bind fun u_8 =>
    (F_Mo_setNow n E S a0 x2 x3 M).bind fun q_9 =>
    some (q_9.1, q_9.2)
  else
    (zck S a0 11).bind fun u_10 =>
    (F_Mo_passNow n E S a0 M).bind fun q_11 =>
    some (q_11.1, q_11.2)
theorem K_Mo_act (n : Nat) (E : zE) (S : zS) (a0 : Nat) (x1 : Int32) (x2 : Int32) (x3 : Int32) (M : zH) (r : Int32) (M' : zH)  (h : F_Mo_act n E S a0 x1 x2 x3 M = some (r, M')) : zG E Y_Mo_act (some (.int r), S, M') 0 [(0, .ref a0), (1, .int x1), (2, .int x2), (3, .int x3)] [] S M 0 0 := by
  unfold F_Mo_act at h
  refine zi_iload_n 1 d_Mo_act_0 rfl ?_
  by_cases c_1 : x1 = 0
  · rw [if_pos c_1] at h
    refine zo_tab (tgt := 28) 0 d_Mo_act_1 c_1 (by decide) (by decide) rfl rfl ?_
    refine zi_aload_n 0 d_Mo_act_28 rfl ?_
    refine zi_iload_n 2 d_Mo_act_29 rfl ?_
    refine zi_iload_n 3 d_Mo_act_30 rfl ?_
    obtain ⟨u_2, eu_2, h⟩ := zbind h
    obtain ⟨q_3, eq_3, h⟩ := zbind h
    refine zo_virt (k' := 0) (n' := 0) 34 [.int x2, .int x3] [] [.int q_3.1] zkd_11 (zck_s eu_2) (C_Mo_blockNow n E S a0 x2 x3 M q_3.1 q_3.2 eq_3) d_Mo_act_31 tw_1696 tw_1693 tw_1695 ts_78 tw_13 dd_Mo_blockNow ⟨Nat.le_of_ble_eq_true rfl, Nat.le_of_ble_eq_true rfl, Nat.le_of_ble_eq_true rfl, Nat.le_of_ble_eq_true rfl⟩ (Nat.le_of_ble_eq_true rfl) rfl rfl rfl rfl ?_
    cases h
    exact zo_ret d_Mo_act_34 (Nat.le_of_ble_eq_true rfl) (Nat.le_of_ble_eq_true rfl) rfl
  rw [if_neg c_1] at h
  by_cases c_4 : x1 = 1
  · rw [if_pos c_4] at h
    refine zo_tab (tgt := 35) 1 d_Mo_act_1 c_4 (by decide) (by decide) rfl rfl ?_
    refine zi_aload_n 0 d_Mo_act_35 rfl ?_
    refine zi_iload_n 2 d_Mo_act_36 rfl ?_
    refine zi_iload_n 3 d_Mo_act_37 rfl ?_
    obtain ⟨u_5, eu_5, h⟩ := zbind h
    obtain ⟨q_6, eq_6, h⟩ := zbind h
    refine zo_virt (k' := 0) (n' := 0) 41 [.int x2, .int x3] [] [.int q_6.1] zkd_11 (zck_s eu_5) (C_Mo_reamNow n E S a0 x2 x3 M q_6.1 q_6.2 eq_6) d_Mo_act_38 tw_1712 tw_1709 tw_1711 ts_81 tw_13 dd_Mo_reamNow ⟨Nat.le_of_ble_eq_true rfl, Nat.le_of_ble_eq_true rfl, Nat.le_of_ble_eq_true rfl, Nat.le_of_ble_eq_true rfl⟩ (Nat.le_of_ble_eq_true rfl) rfl rfl rfl rfl ?_
    cases h
    exact zo_ret d_Mo_act_41 (Nat.le_of_ble_eq_true rfl) (Nat.le_of_ble_eq_true rfl) rfl
  rw [if_neg c_4] at h
  by_cases c_7 : x1 = 2
  · rw [if_pos c_7] at h
    refine zo_tab (tgt := 42) 2 d_Mo_act_1 c_7 (by decide) (by decide) rfl rfl ?_
    refine zi_aload_n 0 d_Mo_act_42 rfl ?_
    refine zi_iload_n 2 d_Mo_act_43 rfl ?_
    refine zi_iload_n 3 d_Mo_act_44 rfl ?_
    obtain ⟨u_8, eu_8, h⟩ := zbind h
    obtain ⟨q_9, eq_9, h⟩ := zbind h
    refine zo_virt (k' := 0) (n' := 0) 48 [.int x2, .int x3] [] [.int q_9.1] zkd_11 (zck_s eu_8) (C_Mo_setNow n E S a0 x2 x3 M q_9.1 q_9.2 eq_9) d_Mo_act_45 tw_1720 tw_1717 tw_1719 ts_82 tw_13 dd_Mo_setNow ⟨Nat.le_of_ble_eq_true rfl, Nat.le_of_ble_eq_true rfl, Nat.le_of_ble_eq_true rfl, Nat.le_of_ble_eq_true rfl⟩ (Nat.le_of_ble_eq_true rfl) rfl rfl rfl rfl ?_
    cases h
    exact zo_ret d_Mo_act_48 (Nat.le_of_ble_eq_true rfl) (Nat.le_of_ble_eq_true rfl) rfl
  rw [if_neg c_7] at h
  refine zo_tabP (tgt := 49) 0 3 d_Mo_act_1 rfl rfl (fun j hj => by match j, hj with | 0, _ => exact c_1  | 1, _ => exact c_4  | 2, _ => exact c_7 | j + 3, hj => exact absurd hj (by omega)) rfl ?_
  refine zi_aload_n 0 d_Mo_act_49 rfl ?_
  obtain ⟨u_10, eu_10, h⟩ := zbind h
  obtain ⟨q_11, eq_11, h⟩ := zbind h
  refine zo_virt (k' := 0) (n' := 0) 53 [] [] [.int q_11.1] zkd_11 (zck_s eu_10) (C_Mo_passNow n E S a0 M q_11.1 q_11.2 eq_11) d_Mo_act_50 tw_1728 tw_1725 tw_1727 ts_83 tw_13 dd_Mo_passNow ⟨Nat.le_of_ble_eq_true rfl, Nat.le_of_ble_eq_true rfl, Nat.le_of_ble_eq_true rfl, Nat.le_of_ble_eq_true rfl⟩ (Nat.le_of_ble_eq_true rfl) rfl rfl rfl rfl ?_
  cases h
  exact zo_ret d_Mo_act_53 (Nat.le_of_ble_eq_true rfl) (Nat.le_of_ble_eq_true rfl) rfl
theorem C_Mo_act (n : Nat) (E : zE) (S : zS) (a0 : Nat) (x1 : Int32) (x2 : Int32) (x3 : Int32) (M : zH) (r : Int32) (M' : zH) (h : F_Mo_act n E S a0 x1 x2 x3 M = some (r, M')) : zC E Y_Mo_act [.ref a0, .int x1, .int x2, .int x3] S M (some (.int r), S, M') :=
  zC.of (Or.inl (show plainName "NightColanderModel" = true by decide)) (Nat.le_of_ble_eq_true rfl) (trivial) (K_Mo_act n E S a0 x1 x2 x3 M r M' h)
theorem d_Mo_levels_0 : decode (yB Y_Mo_levels) 0 = .ok (.iconst 0, 1) := by decide +kernel
theorem d_Mo_levels_1 : decode (yB Y_Mo_levels) 1 = .ok (.istore_n 1, 1) := by decide +kernel
theorem d_Mo_levels_2 : decode (yB Y_Mo_levels) 2 = .ok (.iconst 0, 1) := by decide +kernel
theorem d_Mo_levels_3 : decode (yB Y_Mo_levels) 3 = .ok (.istore_n 2, 1) := by decide +kernel
theorem d_Mo_levels_4 : decode (yB Y_Mo_levels) 4 = .ok (.iload_n 2, 1) := by decide +kernel
theorem d_Mo_levels_5 : decode (yB Y_Mo_levels) 5 = .ok (.aload_n 0, 1) := by decide +kernel
theorem d_Mo_levels_6 : decode (yB Y_Mo_levels) 6 = .ok (.getfield 13, 3) := by decide +kernel
theorem d_Mo_levels_9 : decode (yB Y_Mo_levels) 9 = .ok (.iconst 0, 1) := by decide +kernel
theorem d_Mo_levels_10 : decode (yB Y_Mo_levels) 10 = .ok (.iaload, 1) := by decide +kernel
theorem d_Mo_levels_11 : decode (yB Y_Mo_levels) 11 = .ok (.if_icmp .ge 21, 3) := by decide +kernel
theorem d_Mo_levels_14 : decode (yB Y_Mo_levels) 14 = .ok (.iload_n 1, 1) := by decide +kernel
theorem d_Mo_levels_15 : decode (yB Y_Mo_levels) 15 = .ok (.aload_n 0, 1) := by decide +kernel
theorem d_Mo_levels_16 : decode (yB Y_Mo_levels) 16 = .ok (.getfield 13, 3) := by decide +kernel
theorem d_Mo_levels_19 : decode (yB Y_Mo_levels) 19 = .ok (.bipush 48, 2) := by decide +kernel
theorem d_Mo_levels_21 : decode (yB Y_Mo_levels) 21 = .ok (.iload_n 2, 1) := by decide +kernel
theorem d_Mo_levels_22 : decode (yB Y_Mo_levels) 22 = .ok (.iadd, 1) := by decide +kernel
theorem d_Mo_levels_23 : decode (yB Y_Mo_levels) 23 = .ok (.iaload, 1) := by decide +kernel
theorem d_Mo_levels_24 : decode (yB Y_Mo_levels) 24 = .ok (.iadd, 1) := by decide +kernel
theorem d_Mo_levels_25 : decode (yB Y_Mo_levels) 25 = .ok (.istore_n 1, 1) := by decide +kernel
theorem d_Mo_levels_26 : decode (yB Y_Mo_levels) 26 = .ok (.iinc 2 1, 3) := by decide +kernel
theorem d_Mo_levels_29 : decode (yB Y_Mo_levels) 29 = .ok (.goto (-25), 3) := by decide +kernel
theorem d_Mo_levels_32 : decode (yB Y_Mo_levels) 32 = .ok (.iload_n 1, 1) := by decide +kernel
theorem d_Mo_levels_33 : decode (yB Y_Mo_levels) 33 = .ok (.ireturn, 1) := by decide +kernel
def F_Mo_levels_L4 (n : Nat) (E : zE) (S : zS) (r4 : Nat × Int32 × Int32 × zH → Option (Int32 × zH)) (a0 : Nat) (x1 : Int32) (x2 : Int32) (M : zH) : Option (Int32 × zH) :=
  (zgR S a0 11 3).bind fun b_1 =>
  (zldI S M b_1 0).bind fun v_2 =>
  if v_2 ≤ x2 then
    some (x1, M)
  else
    (zldI S M b_1 (48 + x2)).bind fun v_4 =>
    r4 (a0, x1 + v_4, x2 + 1, M)
def F_Mo_levels_b4 (n : Nat) (E : zE) (S : zS) : Nat × Int32 × Int32 × zH → Option (Int32 × zH) := zfix (fun r4 s => F_Mo_levels_L4 n E S r4 s.1 s.2.1 s.2.2.1 s.2.2.2) n
def F_Mo_levels (n : Nat) (E : zE) (S : zS) (a0 : Nat) (M : zH) : Option (Int32 × zH) :=
  F_Mo_levels_b4 n E S (a0, 0, 0, M)
theorem K_Mo_levels_L4 (n : Nat) (E : zE) (S : zS) (r4 : Nat × Int32 × Int32 × zH → Option (Int32 × zH)) (a0 : Nat) (x1 : Int32) (x2 : Int32) (M : zH) (r : Int32) (M' : zH) (hr4 : ∀ (a0 : Nat) (x1 : Int32) (x2 : Int32) (M : zH), r4 (a0, x1, x2, M) = some (r, M') → zG E Y_Mo_levels (some (.int r), S, M') 4 [(0, .ref a0), (1, .int x1), (2, .int x2)] [] S M 0 0) (h : F_Mo_levels_L4 n E S r4 a0 x1 x2 M = some (r, M')) : zG E Y_Mo_levels (some (.int r), S, M') 4 [(0, .ref a0), (1, .int x1), (2, .int x2)] [] S M 0 0 := by
  unfold F_Mo_levels_L4 at h
  refine zi_iload_n 2 d_Mo_levels_4 rfl ?_
  refine zi_aload_n 0 d_Mo_levels_5 rfl ?_
  obtain ⟨b_1, eb_1, h⟩ := zbind h
  refine zo_getR 9 zkd_11 3 d_Mo_levels_6 eb_1 rfl tw_1232 rfl ?_
  refine zi_iconst 0 d_Mo_levels_9 rfl ?_
  obtain ⟨v_2, ev_2, h⟩ := zbind h
  refine zo_iald 11 d_Mo_levels_10 ev_2 rfl ?_
  refine zi_icmp_ge (tgt := 32) d_Mo_levels_11 rfl (fun c_3 => ?_) (fun c_3 => ?_)
  · rw [if_pos c_3] at h
    refine zi_iload_n 1 d_Mo_levels_32 rfl ?_
    cases h
    exact zo_ret d_Mo_levels_33 (Nat.le_of_ble_eq_true rfl) (Nat.le_of_ble_eq_true rfl) rfl
  · rw [if_neg c_3] at h
    refine zi_iload_n 1 d_Mo_levels_14 rfl ?_
    refine zi_aload_n 0 d_Mo_levels_15 rfl ?_
    refine zo_getR 19 zkd_11 3 d_Mo_levels_16 eb_1 rfl tw_1232 rfl ?_
    refine zi_bipush 48 d_Mo_levels_19 rfl ?_
    refine zi_iload_n 2 d_Mo_levels_21 rfl ?_
    refine zi_iadd d_Mo_levels_22 ?_
    obtain ⟨v_4, ev_4, h⟩ := zbind h
    refine zo_iald 24 d_Mo_levels_23 ev_4 rfl ?_
    refine zi_iadd d_Mo_levels_24 ?_
    refine zi_istore_n [(1, .int (x1 + v_4)), (0, .ref a0), (2, .int x2)] d_Mo_levels_25 (by decide) rfl ?_
    refine zi_iinc 2 (x2 + 1) [(2, .int (x2 + 1)), (1, .int (x1 + v_4)), (0, .ref a0)] d_Mo_levels_26 rfl rfl (by decide) rfl ?_
    refine zi_goto (tgt := 4) d_Mo_levels_29 rfl ?_
    refine zi_lo [(0, .ref a0), (1, .int (x1 + v_4)), (2, .int (x2 + 1))] [2, 1, 0] rfl ?_
    exact hr4 a0 (x1 + v_4) (x2 + 1) M h
theorem K_Mo_levels_b4 (n : Nat) (E : zE) (S : zS) (a0 : Nat) (x1 : Int32) (x2 : Int32) (M : zH) (r : Int32) (M' : zH)  (h : F_Mo_levels_b4 n E S (a0, x1, x2, M) = some (r, M')) : zG E Y_Mo_levels (some (.int r), S, M') 4 [(0, .ref a0), (1, .int x1), (2, .int x2)] [] S M 0 0 := by
  have key : ∀ (k : Nat) (a0 : Nat) (x1 : Int32) (x2 : Int32) (M : zH), zfix (fun r4 s => F_Mo_levels_L4 n E S r4 s.1 s.2.1 s.2.2.1 s.2.2.2) k (a0, x1, x2, M) = some (r, M') → zG E Y_Mo_levels (some (.int r), S, M') 4 [(0, .ref a0), (1, .int x1), (2, .int x2)] [] S M 0 0 := by
    intro k
    induction k with
    | zero => intro a0 x1 x2 M h; cases h
    | succ k ih => intro a0 x1 x2 M h; exact K_Mo_levels_L4 n E S _ a0 x1 x2 M r M'  (fun a0 x1 x2 M h => ih a0 x1 x2 M h) h
  exact key n a0 x1 x2 M h
theorem K_Mo_levels (n : Nat) (E : zE) (S : zS) (a0 : Nat) (M : zH) (r : Int32) (M' : zH)  (h : F_Mo_levels n E S a0 M = some (r, M')) : zG E Y_Mo_levels (some (.int r), S, M') 0 [(0, .ref a0)] [] S M 0 0 := by
  unfold F_Mo_levels at h
  refine zi_iconst 0 d_Mo_levels_0 rfl ?_
  refine zi_istore_n [(1, .int 0), (0, .ref a0)] d_Mo_levels_1 (by decide) rfl ?_
  refine zi_iconst 0 d_Mo_levels_2 rfl ?_
  refine zi_istore_n [(2, .int 0), (1, .int 0), (0, .ref a0)] d_Mo_levels_3 (by decide) rfl ?_
  refine zi_lo [(0, .ref a0), (1, .int 0), (2, .int 0)] [2, 1, 0] rfl ?_
  exact K_Mo_levels_b4 n E S a0 0 0 M r M'  h
theorem C_Mo_levels (n : Nat) (E : zE) (S : zS) (a0 : Nat) (M : zH) (r : Int32) (M' : zH) (h : F_Mo_levels n E S a0 M = some (r, M')) : zC E Y_Mo_levels [.ref a0] S M (some (.int r), S, M') :=
  zC.of (Or.inl (show plainName "NightColanderModel" = true by decide)) (Nat.le_of_ble_eq_true rfl) (trivial) (K_Mo_levels n E S a0 M r M' h)
theorem d_Mo_sumOf_0 : decode (yB Y_Mo_sumOf) 0 = .ok (.aload_n 0, 1) := by decide +kernel
theorem d_Mo_sumOf_1 : decode (yB Y_Mo_sumOf) 1 = .ok (.getfield 514, 3) := by decide +kernel
theorem d_Mo_sumOf_4 : decode (yB Y_Mo_sumOf) 4 = .ok (.ifCond .ne 20, 3) := by decide +kernel
theorem d_Mo_sumOf_7 : decode (yB Y_Mo_sumOf) 7 = .ok (.aload_n 0, 1) := by decide +kernel
theorem d_Mo_sumOf_8 : decode (yB Y_Mo_sumOf) 8 = .ok (.getfield 144, 3) := by decide +kernel
theorem d_Mo_sumOf_11 : decode (yB Y_Mo_sumOf) 11 = .ok (.iload_n 1, 1) := by decide +kernel
theorem d_Mo_sumOf_12 : decode (yB Y_Mo_sumOf) 12 = .ok (.iaload, 1) := by decide +kernel
theorem d_Mo_sumOf_13 : decode (yB Y_Mo_sumOf) 13 = .ok (.aload_n 0, 1) := by decide +kernel
theorem d_Mo_sumOf_14 : decode (yB Y_Mo_sumOf) 14 = .ok (.getfield 144, 3) := by decide +kernel
theorem d_Mo_sumOf_17 : decode (yB Y_Mo_sumOf) 17 = .ok (.iload_n 1, 1) := by decide +kernel
theorem d_Mo_sumOf_18 : decode (yB Y_Mo_sumOf) 18 = .ok (.iconst 1, 1) := by decide +kernel
theorem d_Mo_sumOf_19 : decode (yB Y_Mo_sumOf) 19 = .ok (.iadd, 1) := by decide +kernel
theorem d_Mo_sumOf_20 : decode (yB Y_Mo_sumOf) 20 = .ok (.iaload, 1) := by decide +kernel
theorem d_Mo_sumOf_21 : decode (yB Y_Mo_sumOf) 21 = .ok (.if_icmp .ne 5, 3) := by decide +kernel
theorem d_Mo_sumOf_24 : decode (yB Y_Mo_sumOf) 24 = .ok (.iconst (-1), 1) := by decide +kernel
theorem d_Mo_sumOf_25 : decode (yB Y_Mo_sumOf) 25 = .ok (.ireturn, 1) := by decide +kernel
theorem d_Mo_sumOf_26 : decode (yB Y_Mo_sumOf) 26 = .ok (.aload_n 0, 1) := by decide +kernel
theorem d_Mo_sumOf_27 : decode (yB Y_Mo_sumOf) 27 = .ok (.iconst 1, 1) := by decide +kernel
theorem d_Mo_sumOf_28 : decode (yB Y_Mo_sumOf) 28 = .ok (.putfield 331, 3) := by decide +kernel
theorem d_Mo_sumOf_31 : decode (yB Y_Mo_sumOf) 31 = .ok (.aload_n 0, 1) := by decide +kernel
theorem d_Mo_sumOf_32 : decode (yB Y_Mo_sumOf) 32 = .ok (.aload_n 0, 1) := by decide +kernel
theorem d_Mo_sumOf_33 : decode (yB Y_Mo_sumOf) 33 = .ok (.getfield 144, 3) := by decide +kernel
theorem d_Mo_sumOf_36 : decode (yB Y_Mo_sumOf) 36 = .ok (.iload_n 1, 1) := by decide +kernel
theorem d_Mo_sumOf_37 : decode (yB Y_Mo_sumOf) 37 = .ok (.iaload, 1) := by decide +kernel
theorem d_Mo_sumOf_38 : decode (yB Y_Mo_sumOf) 38 = .ok (.aload_n 0, 1) := by decide +kernel
theorem d_Mo_sumOf_39 : decode (yB Y_Mo_sumOf) 39 = .ok (.getfield 144, 3) := by decide +kernel
theorem d_Mo_sumOf_42 : decode (yB Y_Mo_sumOf) 42 = .ok (.iload_n 1, 1) := by decide +kernel
theorem d_Mo_sumOf_43 : decode (yB Y_Mo_sumOf) 43 = .ok (.iconst 1, 1) := by decide +kernel
theorem d_Mo_sumOf_44 : decode (yB Y_Mo_sumOf) 44 = .ok (.iadd, 1) := by decide +kernel
theorem d_Mo_sumOf_45 : decode (yB Y_Mo_sumOf) 45 = .ok (.iaload, 1) := by decide +kernel
theorem d_Mo_sumOf_46 : decode (yB Y_Mo_sumOf) 46 = .ok (.invokevirtual 422, 3) := by decide +kernel
theorem d_Mo_sumOf_49 : decode (yB Y_Mo_sumOf) 49 = .ok (.aload_n 0, 1) := by decide +kernel
theorem d_Mo_sumOf_50 : decode (yB Y_Mo_sumOf) 50 = .ok (.iconst 0, 1) := by decide +kernel
theorem d_Mo_sumOf_51 : decode (yB Y_Mo_sumOf) 51 = .ok (.putfield 331, 3) := by decide +kernel
theorem d_Mo_sumOf_54 : decode (yB Y_Mo_sumOf) 54 = .ok (.aload_n 0, 1) := by decide +kernel
theorem d_Mo_sumOf_55 : decode (yB Y_Mo_sumOf) 55 = .ok (.aload_n 0, 1) := by decide +kernel
theorem d_Mo_sumOf_56 : decode (yB Y_Mo_sumOf) 56 = .ok (.getfield 405, 3) := by decide +kernel
theorem d_Mo_sumOf_59 : decode (yB Y_Mo_sumOf) 59 = .ok (.putfield 514, 3) := by decide +kernel
theorem d_Mo_sumOf_62 : decode (yB Y_Mo_sumOf) 62 = .ok (.aload_n 0, 1) := by decide +kernel
theorem d_Mo_sumOf_63 : decode (yB Y_Mo_sumOf) 63 = .ok (.getfield 419, 3) := by decide +kernel
theorem d_Mo_sumOf_66 : decode (yB Y_Mo_sumOf) 66 = .ok (.l2i, 1) := by decide +kernel
theorem d_Mo_sumOf_67 : decode (yB Y_Mo_sumOf) 67 = .ok (.ireturn, 1) := by decide +kernel
def F_Mo_sumOf (n : Nat) (E : zE) (S : zS) (a0 : Nat) (x1 : Int32) (M : zH) : Option (Int32 × zH) :=
  (zgI S M a0 11 53).bind fun v_1 =>
  if v_1 = 0 then
    (zgR S a0 11 49).bind fun b_3 =>
    (zldI S M b_3 x1).bind fun v_4 =>
    (zldI S M b_3 (x1 + 1)).bind fun v_5 =>
    if v_4 = v_5 then
      some ((-1), M)
    else
      (zpZ S M a0 11 20 1).bind fun m_7 =>
      (zldI S m_7 b_3 x1).bind fun v_8 =>
      (zldI S m_7 b_3 (x1 + 1)).bind fun v_9 =>
      (F_Mo_reckonAll n E S a0 v_8 v_9 m_7).bind fun q_10 =>
      (zpZ S q_10 a0 11 20 0).bind fun m_11 =>
      (zgI S m_11 a0 11 38).bind fun v_12 =>
      (zpZ S m_11 a0 11 53 v_12).bind fun m_13 =>
      (zgJ S m_13 a0 11 39).bind fun v_14 =>
      some (v_14.toInt32, m_13)
  else
    some ((-1), M)
theorem K_Mo_sumOf (n : Nat) (E : zE) (S : zS) (a0 : Nat) (x1 : Int32) (M : zH) (r : Int32) (M' : zH)  (h : F_Mo_sumOf n E S a0 x1 M = some (r, M')) : zG E Y_Mo_sumOf (some (.int r), S, M') 0 [(0, .ref a0), (1, .int x1)] [] S M 0 0 := by
  unfold F_Mo_sumOf at h
  refine zi_aload_n 0 d_Mo_sumOf_0 rfl ?_
  obtain ⟨v_1, ev_1, h⟩ := zbind h
  refine zo_getI 4 zkd_11 53 d_Mo_sumOf_1 ev_1 rfl tw_1282 rfl ?_
  refine zi_if_ne (tgt := 24) d_Mo_sumOf_4 rfl (fun c_2 => ?_) (fun c_2 => ?_)
  · rw [if_neg c_2] at h
    refine zi_iconst (-1) d_Mo_sumOf_24 rfl ?_
    cases h
    exact zo_ret d_Mo_sumOf_25 (Nat.le_of_ble_eq_true rfl) (Nat.le_of_ble_eq_true rfl) rfl
  · rw [if_pos c_2] at h
    refine zi_aload_n 0 d_Mo_sumOf_7 rfl ?_
    obtain ⟨b_3, eb_3, h⟩ := zbind h
    refine zo_getR 11 zkd_11 49 d_Mo_sumOf_8 eb_3 rfl tw_1278 rfl ?_
    refine zi_iload_n 1 d_Mo_sumOf_11 rfl ?_
    obtain ⟨v_4, ev_4, h⟩ := zbind h
    refine zo_iald 13 d_Mo_sumOf_12 ev_4 rfl ?_
    refine zi_aload_n 0 d_Mo_sumOf_13 rfl ?_
    refine zo_getR 17 zkd_11 49 d_Mo_sumOf_14 eb_3 rfl tw_1278 rfl ?_
    refine zi_iload_n 1 d_Mo_sumOf_17 rfl ?_
    refine zi_iconst 1 d_Mo_sumOf_18 rfl ?_
    refine zi_iadd d_Mo_sumOf_19 ?_
    obtain ⟨v_5, ev_5, h⟩ := zbind h
    refine zo_iald 21 d_Mo_sumOf_20 ev_5 rfl ?_
    refine zi_icmp_ne (tgt := 26) d_Mo_sumOf_21 rfl (fun c_6 => ?_) (fun c_6 => ?_)
    · rw [if_neg c_6] at h
      refine zi_aload_n 0 d_Mo_sumOf_26 rfl ?_
      refine zi_iconst 1 d_Mo_sumOf_27 rfl ?_
      obtain ⟨m_7, em_7, h⟩ := zbind h
      refine zo_putZ 31 zkd_11 20 d_Mo_sumOf_28 em_7 rfl rfl rfl tw_1249 rfl ?_
      refine zi_aload_n 0 d_Mo_sumOf_31 rfl ?_
      refine zi_aload_n 0 d_Mo_sumOf_32 rfl ?_
      refine zo_getR 36 zkd_11 49 d_Mo_sumOf_33 eb_3 rfl tw_1278 rfl ?_
      refine zi_iload_n 1 d_Mo_sumOf_36 rfl ?_
      obtain ⟨v_8, ev_8, h⟩ := zbind h
      refine zo_iald 38 d_Mo_sumOf_37 ev_8 rfl ?_
      refine zi_aload_n 0 d_Mo_sumOf_38 rfl ?_
      refine zo_getR 42 zkd_11 49 d_Mo_sumOf_39 eb_3 rfl tw_1278 rfl ?_
      refine zi_iload_n 1 d_Mo_sumOf_42 rfl ?_
      refine zi_iconst 1 d_Mo_sumOf_43 rfl ?_
      refine zi_iadd d_Mo_sumOf_44 ?_
      obtain ⟨v_9, ev_9, h⟩ := zbind h
      refine zo_iald 46 d_Mo_sumOf_45 ev_9 rfl ?_
      obtain ⟨q_10, eq_10, h⟩ := zbind h
      refine zo_virt (k' := 0) (n' := 0) 49 [.int v_8, .int v_9] [] [] zkd_11 (zgI_s ev_1).1 (C_Mo_reckonAll n E S a0 v_8 v_9 m_7 q_10 eq_10) d_Mo_sumOf_46 tw_1459 tw_1456 tw_1458 ts_42 tw_13 dd_Mo_reckonAll ⟨Nat.le_of_ble_eq_true rfl, Nat.le_of_ble_eq_true rfl, Nat.le_of_ble_eq_true rfl, Nat.le_of_ble_eq_true rfl⟩ (Nat.le_of_ble_eq_true rfl) rfl rfl rfl rfl ?_
      refine zi_aload_n 0 d_Mo_sumOf_49 rfl ?_
      refine zi_iconst 0 d_Mo_sumOf_50 rfl ?_
      obtain ⟨m_11, em_11, h⟩ := zbind h
      refine zo_putZ 54 zkd_11 20 d_Mo_sumOf_51 em_11 rfl rfl rfl tw_1249 rfl ?_
      refine zi_aload_n 0 d_Mo_sumOf_54 rfl ?_
      refine zi_aload_n 0 d_Mo_sumOf_55 rfl ?_
      obtain ⟨v_12, ev_12, h⟩ := zbind h
      refine zo_getI 59 zkd_11 38 d_Mo_sumOf_56 ev_12 rfl tw_1267 rfl ?_
      obtain ⟨m_13, em_13, h⟩ := zbind h
      refine zo_putZ 62 zkd_11 53 d_Mo_sumOf_59 em_13 rfl rfl rfl tw_1282 rfl ?_
      refine zi_aload_n 0 d_Mo_sumOf_62 rfl ?_
      obtain ⟨v_14, ev_14, h⟩ := zbind h
      refine zo_getJ 66 zkd_11 39 d_Mo_sumOf_63 ev_14 rfl tw_1268 rfl ?_
      refine zi_l2i d_Mo_sumOf_66 ?_
      cases h
      exact zo_ret d_Mo_sumOf_67 (Nat.le_of_ble_eq_true rfl) (Nat.le_of_ble_eq_true rfl) rfl
    · rw [if_pos c_6] at h
      refine zi_iconst (-1) d_Mo_sumOf_24 rfl ?_
      cases h
      exact zo_ret d_Mo_sumOf_25 (Nat.le_of_ble_eq_true rfl) (Nat.le_of_ble_eq_true rfl) rfl
theorem C_Mo_sumOf (n : Nat) (E : zE) (S : zS) (a0 : Nat) (x1 : Int32) (M : zH) (r : Int32) (M' : zH) (h : F_Mo_sumOf n E S a0 x1 M = some (r, M')) : zC E Y_Mo_sumOf [.ref a0, .int x1] S M (some (.int r), S, M') :=
  zC.of (Or.inl (show plainName "NightColanderModel" = true by decide)) (Nat.le_of_ble_eq_true rfl) (trivial) (K_Mo_sumOf n E S a0 x1 M r M' h)
theorem d_Mo_run_0 : decode (yB Y_Mo_run) 0 = .ok (.aload_n 0, 1) := by decide +kernel
theorem d_Mo_run_1 : decode (yB Y_Mo_run) 1 = .ok (.getfield 106, 3) := by decide +kernel
theorem d_Mo_run_4 : decode (yB Y_Mo_run) 4 = .ok (.iconst 1, 1) := by decide +kernel
theorem d_Mo_run_5 : decode (yB Y_Mo_run) 5 = .ok (.aload_n 0, 1) := by decide +kernel
theorem d_Mo_run_6 : decode (yB Y_Mo_run) 6 = .ok (.getfield 13, 3) := by decide +kernel
theorem d_Mo_run_9 : decode (yB Y_Mo_run) 9 = .ok (.iconst 4, 1) := by decide +kernel
theorem d_Mo_run_10 : decode (yB Y_Mo_run) 10 = .ok (.iaload, 1) := by decide +kernel
theorem d_Mo_run_11 : decode (yB Y_Mo_run) 11 = .ok (.i2l, 1) := by decide +kernel
theorem d_Mo_run_12 : decode (yB Y_Mo_run) 12 = .ok (.lastore, 1) := by decide +kernel
theorem d_Mo_run_13 : decode (yB Y_Mo_run) 13 = .ok (.aload_n 0, 1) := by decide +kernel
theorem d_Mo_run_14 : decode (yB Y_Mo_run) 14 = .ok (.getfield 106, 3) := by decide +kernel
theorem d_Mo_run_17 : decode (yB Y_Mo_run) 17 = .ok (.iconst 2, 1) := by decide +kernel
theorem d_Mo_run_18 : decode (yB Y_Mo_run) 18 = .ok (.aload_n 0, 1) := by decide +kernel
theorem d_Mo_run_19 : decode (yB Y_Mo_run) 19 = .ok (.getfield 517, 3) := by decide +kernel
theorem d_Mo_run_22 : decode (yB Y_Mo_run) 22 = .ok (.i2l, 1) := by decide +kernel
theorem d_Mo_run_23 : decode (yB Y_Mo_run) 23 = .ok (.lastore, 1) := by decide +kernel
theorem d_Mo_run_24 : decode (yB Y_Mo_run) 24 = .ok (.aload_n 0, 1) := by decide +kernel
theorem d_Mo_run_25 : decode (yB Y_Mo_run) 25 = .ok (.getfield 106, 3) := by decide +kernel
theorem d_Mo_run_28 : decode (yB Y_Mo_run) 28 = .ok (.iconst 3, 1) := by decide +kernel
theorem d_Mo_run_29 : decode (yB Y_Mo_run) 29 = .ok (.aload_n 0, 1) := by decide +kernel
theorem d_Mo_run_30 : decode (yB Y_Mo_run) 30 = .ok (.getfield 520, 3) := by decide +kernel
theorem d_Mo_run_33 : decode (yB Y_Mo_run) 33 = .ok (.i2l, 1) := by decide +kernel
theorem d_Mo_run_34 : decode (yB Y_Mo_run) 34 = .ok (.lastore, 1) := by decide +kernel
theorem d_Mo_run_35 : decode (yB Y_Mo_run) 35 = .ok (.aload_n 0, 1) := by decide +kernel
theorem d_Mo_run_36 : decode (yB Y_Mo_run) 36 = .ok (.getfield 106, 3) := by decide +kernel
theorem d_Mo_run_39 : decode (yB Y_Mo_run) 39 = .ok (.iconst 4, 1) := by decide +kernel
theorem d_Mo_run_40 : decode (yB Y_Mo_run) 40 = .ok (.aload_n 0, 1) := by decide +kernel
theorem d_Mo_run_41 : decode (yB Y_Mo_run) 41 = .ok (.invokevirtual 523, 3) := by decide +kernel
theorem d_Mo_run_44 : decode (yB Y_Mo_run) 44 = .ok (.i2l, 1) := by decide +kernel
theorem d_Mo_run_45 : decode (yB Y_Mo_run) 45 = .ok (.lastore, 1) := by decide +kernel
theorem d_Mo_run_46 : decode (yB Y_Mo_run) 46 = .ok (.aload_n 0, 1) := by decide +kernel
theorem d_Mo_run_47 : decode (yB Y_Mo_run) 47 = .ok (.invokevirtual 457, 3) := by decide +kernel
theorem d_Mo_run_50 : decode (yB Y_Mo_run) 50 = .ok (.aload_n 0, 1) := by decide +kernel
theorem d_Mo_run_51 : decode (yB Y_Mo_run) 51 = .ok (.iconst 0, 1) := by decide +kernel
theorem d_Mo_run_52 : decode (yB Y_Mo_run) 52 = .ok (.putfield 514, 3) := by decide +kernel
theorem d_Mo_run_55 : decode (yB Y_Mo_run) 55 = .ok (.aload_n 0, 1) := by decide +kernel
theorem d_Mo_run_56 : decode (yB Y_Mo_run) 56 = .ok (.getfield 144, 3) := by decide +kernel
theorem d_Mo_run_59 : decode (yB Y_Mo_run) 59 = .ok (.iload_n 1, 1) := by decide +kernel
theorem d_Mo_run_60 : decode (yB Y_Mo_run) 60 = .ok (.iconst 5, 1) := by decide +kernel
theorem d_Mo_run_61 : decode (yB Y_Mo_run) 61 = .ok (.iadd, 1) := by decide +kernel
theorem d_Mo_run_62 : decode (yB Y_Mo_run) 62 = .ok (.iaload, 1) := by decide +kernel
theorem d_Mo_run_63 : decode (yB Y_Mo_run) 63 = .ok (.aload_n 0, 1) := by decide +kernel
theorem d_Mo_run_64 : decode (yB Y_Mo_run) 64 = .ok (.getfield 144, 3) := by decide +kernel
theorem d_Mo_run_67 : decode (yB Y_Mo_run) 67 = .ok (.iload_n 1, 1) := by decide +kernel
theorem d_Mo_run_68 : decode (yB Y_Mo_run) 68 = .ok (.bipush 6, 2) := by decide +kernel
theorem d_Mo_run_70 : decode (yB Y_Mo_run) 70 = .ok (.iadd, 1) := by decide +kernel
theorem d_Mo_run_71 : decode (yB Y_Mo_run) 71 = .ok (.iaload, 1) := by decide +kernel
theorem d_Mo_run_72 : decode (yB Y_Mo_run) 72 = .ok (.if_icmp .ge 24, 3) := by decide +kernel
theorem d_Mo_run_75 : decode (yB Y_Mo_run) 75 = .ok (.aload_n 0, 1) := by decide +kernel
theorem d_Mo_run_76 : decode (yB Y_Mo_run) 76 = .ok (.iload_n 1, 1) := by decide +kernel
theorem d_Mo_run_77 : decode (yB Y_Mo_run) 77 = .ok (.iconst 5, 1) := by decide +kernel
theorem d_Mo_run_78 : decode (yB Y_Mo_run) 78 = .ok (.iadd, 1) := by decide +kernel
theorem d_Mo_run_79 : decode (yB Y_Mo_run) 79 = .ok (.invokevirtual 526, 3) := by decide +kernel
theorem d_Mo_run_82 : decode (yB Y_Mo_run) 82 = .ok (.istore_n 2, 1) := by decide +kernel
theorem d_Mo_run_83 : decode (yB Y_Mo_run) 83 = .ok (.aload_n 0, 1) := by decide +kernel
theorem d_Mo_run_84 : decode (yB Y_Mo_run) 84 = .ok (.getfield 514, 3) := by decide +kernel
theorem d_Mo_run_87 : decode (yB Y_Mo_run) 87 = .ok (.ifCond .ne 7, 3) := by decide +kernel
theorem d_Mo_run_90 : decode (yB Y_Mo_run) 90 = .ok (.iload_n 2, 1) := by decide +kernel
theorem d_Mo_run_91 : decode (yB Y_Mo_run) 91 = .ok (.ifCond .ne 5, 3) := by decide +kernel
theorem d_Mo_run_94 : decode (yB Y_Mo_run) 94 = .ok (.iconst 0, 1) := by decide +kernel
theorem d_Mo_run_95 : decode (yB Y_Mo_run) 95 = .ok (.ireturn, 1) := by decide +kernel
theorem d_Mo_run_96 : decode (yB Y_Mo_run) 96 = .ok (.aload_n 0, 1) := by decide +kernel
theorem d_Mo_run_97 : decode (yB Y_Mo_run) 97 = .ok (.iload_n 1, 1) := by decide +kernel
theorem d_Mo_run_98 : decode (yB Y_Mo_run) 98 = .ok (.iconst 1, 1) := by decide +kernel
theorem d_Mo_run_99 : decode (yB Y_Mo_run) 99 = .ok (.iadd, 1) := by decide +kernel
theorem d_Mo_run_100 : decode (yB Y_Mo_run) 100 = .ok (.invokevirtual 526, 3) := by decide +kernel
theorem d_Mo_run_103 : decode (yB Y_Mo_run) 103 = .ok (.istore_n 2, 1) := by decide +kernel
theorem d_Mo_run_104 : decode (yB Y_Mo_run) 104 = .ok (.aload_n 0, 1) := by decide +kernel
theorem d_Mo_run_105 : decode (yB Y_Mo_run) 105 = .ok (.iload_n 1, 1) := by decide +kernel
theorem d_Mo_run_106 : decode (yB Y_Mo_run) 106 = .ok (.iconst 3, 1) := by decide +kernel
theorem d_Mo_run_107 : decode (yB Y_Mo_run) 107 = .ok (.iadd, 1) := by decide +kernel
theorem d_Mo_run_108 : decode (yB Y_Mo_run) 108 = .ok (.invokevirtual 526, 3) := by decide +kernel
theorem d_Mo_run_111 : decode (yB Y_Mo_run) 111 = .ok (.istore_n 3, 1) := by decide +kernel
theorem d_Mo_run_112 : decode (yB Y_Mo_run) 112 = .ok (.aload_n 0, 1) := by decide +kernel
theorem d_Mo_run_113 : decode (yB Y_Mo_run) 113 = .ok (.getfield 514, 3) := by decide +kernel
theorem d_Mo_run_116 : decode (yB Y_Mo_run) 116 = .ok (.ifCond .eq 6, 3) := by decide +kernel
theorem d_Mo_run_119 : decode (yB Y_Mo_run) 119 = .ok (.bipush (-3), 2) := by decide +kernel
theorem d_Mo_run_121 : decode (yB Y_Mo_run) 121 = .ok (.ireturn, 1) := by decide +kernel
theorem d_Mo_run_122 : decode (yB Y_Mo_run) 122 = .ok (.aload_n 0, 1) := by decide +kernel
theorem d_Mo_run_123 : decode (yB Y_Mo_run) 123 = .ok (.aload_n 0, 1) := by decide +kernel
theorem d_Mo_run_124 : decode (yB Y_Mo_run) 124 = .ok (.getfield 144, 3) := by decide +kernel
theorem d_Mo_run_127 : decode (yB Y_Mo_run) 127 = .ok (.iload_n 1, 1) := by decide +kernel
theorem d_Mo_run_128 : decode (yB Y_Mo_run) 128 = .ok (.iaload, 1) := by decide +kernel
theorem d_Mo_run_129 : decode (yB Y_Mo_run) 129 = .ok (.iload_n 2, 1) := by decide +kernel
theorem d_Mo_run_130 : decode (yB Y_Mo_run) 130 = .ok (.iload_n 3, 1) := by decide +kernel
theorem d_Mo_run_131 : decode (yB Y_Mo_run) 131 = .ok (.invokevirtual 529, 3) := by decide +kernel
theorem d_Mo_run_134 : decode (yB Y_Mo_run) 134 = .ok (.istore 4, 2) := by decide +kernel
theorem d_Mo_run_136 : decode (yB Y_Mo_run) 136 = .ok (.iload 4, 2) := by decide +kernel
theorem d_Mo_run_138 : decode (yB Y_Mo_run) 138 = .ok (.ifCond .ge 6, 3) := by decide +kernel
theorem d_Mo_run_141 : decode (yB Y_Mo_run) 141 = .ok (.bipush (-3), 2) := by decide +kernel
theorem d_Mo_run_143 : decode (yB Y_Mo_run) 143 = .ok (.ireturn, 1) := by decide +kernel
theorem d_Mo_run_144 : decode (yB Y_Mo_run) 144 = .ok (.aload_n 0, 1) := by decide +kernel
theorem d_Mo_run_145 : decode (yB Y_Mo_run) 145 = .ok (.aload_n 0, 1) := by decide +kernel
theorem d_Mo_run_146 : decode (yB Y_Mo_run) 146 = .ok (.getfield 144, 3) := by decide +kernel
theorem d_Mo_run_149 : decode (yB Y_Mo_run) 149 = .ok (.iload_n 1, 1) := by decide +kernel
theorem d_Mo_run_150 : decode (yB Y_Mo_run) 150 = .ok (.iaload, 1) := by decide +kernel
theorem d_Mo_run_151 : decode (yB Y_Mo_run) 151 = .ok (.iconst 3, 1) := by decide +kernel
theorem d_Mo_run_152 : decode (yB Y_Mo_run) 152 = .ok (.if_icmp .ne 8, 3) := by decide +kernel
theorem d_Mo_run_155 : decode (yB Y_Mo_run) 155 = .ok (.iload 4, 2) := by decide +kernel
theorem d_Mo_run_157 : decode (yB Y_Mo_run) 157 = .ok (.goto 7, 3) := by decide +kernel
theorem d_Mo_run_160 : decode (yB Y_Mo_run) 160 = .ok (.aload_n 0, 1) := by decide +kernel
theorem d_Mo_run_161 : decode (yB Y_Mo_run) 161 = .ok (.getfield 520, 3) := by decide +kernel
theorem d_Mo_run_164 : decode (yB Y_Mo_run) 164 = .ok (.putfield 520, 3) := by decide +kernel
theorem d_Mo_run_167 : decode (yB Y_Mo_run) 167 = .ok (.aload_n 0, 1) := by decide +kernel
theorem d_Mo_run_168 : decode (yB Y_Mo_run) 168 = .ok (.dup, 1) := by decide +kernel
theorem d_Mo_run_169 : decode (yB Y_Mo_run) 169 = .ok (.getfield 517, 3) := by decide +kernel
theorem d_Mo_run_172 : decode (yB Y_Mo_run) 172 = .ok (.iconst 1, 1) := by decide +kernel
theorem d_Mo_run_173 : decode (yB Y_Mo_run) 173 = .ok (.iadd, 1) := by decide +kernel
theorem d_Mo_run_174 : decode (yB Y_Mo_run) 174 = .ok (.putfield 517, 3) := by decide +kernel
theorem d_Mo_run_177 : decode (yB Y_Mo_run) 177 = .ok (.iconst 0, 1) := by decide +kernel
theorem d_Mo_run_178 : decode (yB Y_Mo_run) 178 = .ok (.ireturn, 1) := by decide +kernel
def F_Mo_run_b164 (n : Nat) (E : zE) (S : zS) (a0 : Nat) (s0 : Int32) (u1 : Nat) (M : zH) : Option (Int32 × zH) :=
  (zpI S M u1 11 51 s0).bind fun m_1 =>
  (zgI S m_1 a0 11 50).bind fun v_2 =>
  (zpI S m_1 a0 11 50 (v_2 + 1)).bind fun m_3 =>
  some (0, m_3)
def F_Mo_run_b96 (n : Nat) (E : zE) (S : zS) (a0 : Nat) (x1 : Int32) (M : zH) : Option (Int32 × zH) :=
  (zck S a0 11).bind fun u_4 =>
  (F_Mo_sumOf n E S a0 (x1 + 1) M).bind fun q_5 =>
  (F_Mo_sumOf n E S a0 (x1 + 3) q_5.2).bind fun q_6 =>
  (zgI S q_6.2 a0 11 53).bind fun v_7 =>
  if v_7 = 0 then
    (zgR S a0 11 49).bind fun b_9 =>
    (zldI S q_6.2 b_9 x1).bind fun v_10 =>
    (F_Mo_act n E S a0 v_10 q_5.1 q_6.1 q_6.2).bind fun q_11 =>
    if 0 ≤ q_11.1 then
      (zldI S q_11.2 b_9 x1).bind fun v_13 =>
      if v_13 = 3 then
        F_Mo_run_b164 n E S a0 q_11.1 a0 q_11.2
      else
        (zgI S q_11.2 a0 11 51).bind fun v_15 =>
        F_Mo_run_b164 n E S a0 v_15 a0 q_11.2
    else
      some ((-3), q_11.2)
  else
    some ((-3), q_6.2)
def F_Mo_run (n : Nat) (E : zE) (S : zS) (a0 : Nat) (x1 : Int32) (M : zH) : Option (Int32 × zH) :=
  (zgR S a0 11 36).bind fun b_16 =>
  (zgR S a0 11 3).bind fun b_17 =>
  (zldI S M b_17 4).bind fun v_18 =>
  (zstJ S M b_16 1 v_18.toInt64).bind fun m_19 =>
  (zgI S m_19 a0 11 50).bind fun v_20 =>
  (zstJ S m_19 b_16 2 v_20.toInt64).bind fun m_21 =>
  (zgI S m_21 a0 11 51).bind fun v_22 =>
  (zstJ S m_21 b_16 3 v_22.toInt64).bind fun m_23 =>
  (F_Mo_levels n E S a0 m_23).bind fun q_24 =>
  (zstJ S q_24.2 b_16 4 q_24.1.toInt64).bind fun m_25 =>
  (F_Mo_layFlow n E S a0 m_25).bind fun q_26 =>
  (zpZ S q_26 a0 11 53 0).bind fun m_27 =>
  (zgR S a0 11 49).bind fun b_28 =>
  (zldI S m_27 b_28 (x1 + 5)).bind fun v_29 =>
  (zldI S m_27 b_28 (x1 + 6)).bind fun v_30 =>
  if v_30 ≤ v_29 then
    F_Mo_run_b96 n E S a0 x1 m_27
  else
    (F_Mo_sumOf n E S a0 (x1 + 5) m_27).bind fun q_32 =>
    (zgI S q_32.2 a0 11 53).bind fun v_33 =>
    if v_33 = 0 then
      if q_32.1 = 0 then
        some (0, q_32.2)
      else
        F_Mo_run_b96 n E S a0 x1 q_32.2
    else
      some (0, q_32.2)
theorem K_Mo_run_b164 (n : Nat) (E : zE) (S : zS) (a0 : Nat) (s0 : Int32) (u1 : Nat) (M : zH) (r : Int32) (M' : zH)  (h : F_Mo_run_b164 n E S a0 s0 u1 M = some (r, M')) : zG E Y_Mo_run (some (.int r), S, M') 164 [(0, .ref a0)] [.int s0, .ref u1] S M 0 0 := by
  unfold F_Mo_run_b164 at h
  obtain ⟨m_1, em_1, h⟩ := zbind h
  refine zo_putI 167 zkd_11 51 d_Mo_run_164 em_1 rfl rfl rfl tw_1280 rfl ?_
  refine zi_aload_n 0 d_Mo_run_167 rfl ?_
  refine zi_dup d_Mo_run_168 rfl ?_
  obtain ⟨v_2, ev_2, h⟩ := zbind h
  refine zo_getI 172 zkd_11 50 d_Mo_run_169 ev_2 rfl tw_1279 rfl ?_
  refine zi_iconst 1 d_Mo_run_172 rfl ?_
  refine zi_iadd d_Mo_run_173 ?_
  obtain ⟨m_3, em_3, h⟩ := zbind h
  refine zo_putI 177 zkd_11 50 d_Mo_run_174 em_3 rfl rfl rfl tw_1279 rfl ?_
  refine zi_iconst 0 d_Mo_run_177 rfl ?_
  cases h
  exact zo_ret d_Mo_run_178 (Nat.le_of_ble_eq_true rfl) (Nat.le_of_ble_eq_true rfl) rfl
theorem K_Mo_run_b96 (n : Nat) (E : zE) (S : zS) (a0 : Nat) (x1 : Int32) (M : zH) (r : Int32) (M' : zH)  (h : F_Mo_run_b96 n E S a0 x1 M = some (r, M')) : zG E Y_Mo_run (some (.int r), S, M') 96 [(0, .ref a0), (1, .int x1)] [] S M 0 0 := by
  unfold F_Mo_run_b96 at h
  refine zi_aload_n 0 d_Mo_run_96 rfl ?_
  refine zi_iload_n 1 d_Mo_run_97 rfl ?_
  refine zi_iconst 1 d_Mo_run_98 rfl ?_
  refine zi_iadd d_Mo_run_99 ?_
  obtain ⟨u_4, eu_4, h⟩ := zbind h
  obtain ⟨q_5, eq_5, h⟩ := zbind h
  refine zo_virt (k' := 0) (n' := 0) 103 [.int (x1 + 1)] [] [.int q_5.1] zkd_11 (zck_s eu_4) (C_Mo_sumOf n E S a0 (x1 + 1) M q_5.1 q_5.2 eq_5) d_Mo_run_100 tw_1870 tw_1867 tw_1869 ts_100 tw_13 dd_Mo_sumOf ⟨Nat.le_of_ble_eq_true rfl, Nat.le_of_ble_eq_true rfl, Nat.le_of_ble_eq_true rfl, Nat.le_of_ble_eq_true rfl⟩ (Nat.le_of_ble_eq_true rfl) rfl rfl rfl rfl ?_
  refine zi_istore_n [(2, .int q_5.1), (0, .ref a0), (1, .int x1)] d_Mo_run_103 (by decide) rfl ?_
  refine zi_aload_n 1 d_Mo_run_104 rfl ?_
  refine zi_iload_n 2 d_Mo_run_105 rfl ?_
  refine zi_iconst 3 d_Mo_run_106 rfl ?_
  refine zi_iadd d_Mo_run_107 ?_
  obtain ⟨q_6, eq_6, h⟩ := zbind h
  refine zo_virt (k' := 0) (n' := 0) 111 [.int (x1 + 3)] [] [.int q_6.1] zkd_11 (zck_s eu_4) (C_Mo_sumOf n E S a0 (x1 + 3) q_5.2 q_6.1 q_6.2 eq_6) d_Mo_run_108 tw_1870 tw_1867 tw_1869 ts_100 tw_13 dd_Mo_sumOf ⟨Nat.le_of_ble_eq_true rfl, Nat.le_of_ble_eq_true rfl, Nat.le_of_ble_eq_true rfl, Nat.le_of_ble_eq_true rfl⟩ (Nat.le_of_ble_eq_true rfl) rfl rfl rfl rfl ?_
  refine zi_istore_n [(3, .int q_6.1), (2, .int q_5.1), (0, .ref a0), (1, .int x1)] d_Mo_run_111 (by decide) rfl ?_
  refine zi_aload_n 2 d_Mo_run_112 rfl ?_
  obtain ⟨v_7, ev_7, h⟩ := zbind h
  refine zo_getI 116 zkd_11 53 d_Mo_run_113 ev_7 rfl tw_1282 rfl ?_
  refine zi_if_eq (tgt := 122) d_Mo_run_116 rfl (fun c_8 => ?_) (fun c_8 => ?_)
  · rw [if_pos c_8] at h
    refine zi_aload_n 2 d_Mo_run_122 rfl ?_
    refine zi_aload_n 2 d_Mo_run_123 rfl ?_
    obtain ⟨b_9, eb_9, h⟩ := zbind h
    refine zo_getR 127 zkd_11 49 d_Mo_run_124 eb_9 rfl tw_1278 rfl ?_
    refine zi_iload_n 3 d_Mo_run_127 rfl ?_
    obtain ⟨v_10, ev_10, h⟩ := zbind h
    refine zo_iald 129 d_Mo_run_128 ev_10 rfl ?_
    refine zi_iload_n 1 d_Mo_run_129 rfl ?_
    refine zi_iload_n 0 d_Mo_run_130 rfl ?_
    obtain ⟨q_11, eq_11, h⟩ := zbind h
    refine zo_virt (k' := 0) (n' := 0) 134 [.int v_10, .int q_5.1, .int q_6.1] [] [.int q_11.1] zkd_11 (zck_s eu_4) (C_Mo_act n E S a0 v_10 q_5.1 q_6.1 q_6.2 q_11.1 q_11.2 eq_11) d_Mo_run_131 tw_1874 tw_1871 tw_1873 ts_101 tw_13 dd_Mo_act ⟨Nat.le_of_ble_eq_true rfl, Nat.le_of_ble_eq_true rfl, Nat.le_of_ble_eq_true rfl, Nat.le_of_ble_eq_true rfl⟩ (Nat.le_of_ble_eq_true rfl) rfl rfl rfl rfl ?_
    refine zi_istore [(4, .int q_11.1), (3, .int q_6.1), (2, .int q_5.1), (0, .ref a0), (1, .int x1)] d_Mo_run_134 (by decide) rfl ?_
    refine zi_iload 0 d_Mo_run_136 rfl ?_
    refine zi_if_ge (tgt := 144) d_Mo_run_138 rfl (fun c_12 => ?_) (fun c_12 => ?_)
    · rw [if_pos c_12] at h
      refine zi_aload_n 3 d_Mo_run_144 rfl ?_
      refine zi_aload_n 3 d_Mo_run_145 rfl ?_
      refine zo_getR 149 zkd_11 49 d_Mo_run_146 eb_9 rfl tw_1278 rfl ?_
      refine zi_iload_n 4 d_Mo_run_149 rfl ?_
      obtain ⟨v_13, ev_13, h⟩ := zbind h
      refine zo_iald 151 d_Mo_run_150 ev_13 rfl ?_
      refine zi_iconst 3 d_Mo_run_151 rfl ?_
      refine zi_icmp_ne (tgt := 160) d_Mo_run_152 rfl (fun c_14 => ?_) (fun c_14 => ?_)
      · rw [if_neg c_14] at h
        refine zi_aload_n 3 d_Mo_run_160 rfl ?_
        obtain ⟨v_15, ev_15, h⟩ := zbind h
        refine zo_getI 164 zkd_11 51 d_Mo_run_161 ev_15 rfl tw_1280 rfl ?_
        refine zi_lo [(0, .ref a0)] [3] rfl ?_
        exact K_Mo_run_b164 n E S a0 v_15 a0 q_11.2 r M'  h
      · rw [if_pos c_14] at h
        refine zi_iload 0 d_Mo_run_155 rfl ?_
        refine zi_goto (tgt := 164) d_Mo_run_157 rfl ?_
        refine zi_lo [(0, .ref a0)] [3] rfl ?_
        exact K_Mo_run_b164 n E S a0 q_11.1 a0 q_11.2 r M'  h
    · rw [if_neg c_12] at h
      refine zi_bipush (-3) d_Mo_run_141 rfl ?_
      cases h
      exact zo_ret d_Mo_run_143 (Nat.le_of_ble_eq_true rfl) (Nat.le_of_ble_eq_true rfl) rfl
  · rw [if_neg c_8] at h
    refine zi_bipush (-3) d_Mo_run_119 rfl ?_
    cases h
    exact zo_ret d_Mo_run_121 (Nat.le_of_ble_eq_true rfl) (Nat.le_of_ble_eq_true rfl) rfl
theorem K_Mo_run (n : Nat) (E : zE) (S : zS) (a0 : Nat) (x1 : Int32) (M : zH) (r : Int32) (M' : zH)  (h : F_Mo_run n E S a0 x1 M = some (r, M')) : zG E Y_Mo_run (some (.int r), S, M') 0 [(0, .ref a0), (1, .int x1)] [] S M 0 0 := by
  unfold F_Mo_run at h
  refine zi_aload_n 0 d_Mo_run_0 rfl ?_
  obtain ⟨b_16, eb_16, h⟩ := zbind h
  refine zo_getR 4 zkd_11 36 d_Mo_run_1 eb_16 rfl tw_1265 rfl ?_
  refine zi_iconst 1 d_Mo_run_4 rfl ?_
  refine zi_aload_n 0 d_Mo_run_5 rfl ?_
  obtain ⟨b_17, eb_17, h⟩ := zbind h
  refine zo_getR 9 zkd_11 3 d_Mo_run_6 eb_17 rfl tw_1232 rfl ?_
  refine zi_iconst 4 d_Mo_run_9 rfl ?_
  obtain ⟨v_18, ev_18, h⟩ := zbind h
  refine zo_iald 11 d_Mo_run_10 ev_18 rfl ?_
  refine zi_i2l d_Mo_run_11 ?_
  obtain ⟨m_19, em_19, h⟩ := zbind h
  refine zo_last 13 d_Mo_run_12 em_19 rfl ?_
  refine zi_aload_n 0 d_Mo_run_13 rfl ?_
  refine zo_getR 17 zkd_11 36 d_Mo_run_14 eb_16 rfl tw_1265 rfl ?_
  refine zi_iconst 2 d_Mo_run_17 rfl ?_
  refine zi_aload_n 0 d_Mo_run_18 rfl ?_
  obtain ⟨v_20, ev_20, h⟩ := zbind h
  refine zo_getI 22 zkd_11 50 d_Mo_run_19 ev_20 rfl tw_1279 rfl ?_
  refine zi_i2l d_Mo_run_22 ?_
  obtain ⟨m_21, em_21, h⟩ := zbind h
  refine zo_last 24 d_Mo_run_23 em_21 rfl ?_
  refine zi_aload_n 0 d_Mo_run_24 rfl ?_
  refine zo_getR 28 zkd_11 36 d_Mo_run_25 eb_16 rfl tw_1265 rfl ?_
  refine zi_iconst 3 d_Mo_run_28 rfl ?_
  refine zi_aload_n 0 d_Mo_run_29 rfl ?_
  obtain ⟨v_22, ev_22, h⟩ := zbind h
  refine zo_getI 33 zkd_11 51 d_Mo_run_30 ev_22 rfl tw_1280 rfl ?_
  refine zi_i2l d_Mo_run_33 ?_
  obtain ⟨m_23, em_23, h⟩ := zbind h
  refine zo_last 35 d_Mo_run_34 em_23 rfl ?_
  refine zi_aload_n 0 d_Mo_run_35 rfl ?_
  refine zo_getR 39 zkd_11 36 d_Mo_run_36 eb_16 rfl tw_1265 rfl ?_
  refine zi_iconst 4 d_Mo_run_39 rfl ?_
  refine zi_aload_n 0 d_Mo_run_40 rfl ?_
  obtain ⟨q_24, eq_24, h⟩ := zbind h
  refine zo_virt (k' := 0) (n' := 0) 44 [] [.int 4, .ref b_16] [.int q_24.1, .int 4, .ref b_16] zkd_11 (zgR_s eb_16).1 (C_Mo_levels n E S a0 m_23 q_24.1 q_24.2 eq_24) d_Mo_run_41 tw_1866 tw_1863 tw_1865 ts_99 tw_13 dd_Mo_levels ⟨Nat.le_of_ble_eq_true rfl, Nat.le_of_ble_eq_true rfl, Nat.le_of_ble_eq_true rfl, Nat.le_of_ble_eq_true rfl⟩ (Nat.le_of_ble_eq_true rfl) rfl rfl rfl rfl ?_
  refine zi_i2l d_Mo_run_44 ?_
  obtain ⟨m_25, em_25, h⟩ := zbind h
  refine zo_last 46 d_Mo_run_45 em_25 rfl ?_
  refine zi_aload_n 0 d_Mo_run_46 rfl ?_
  obtain ⟨q_26, eq_26, h⟩ := zbind h
  refine zo_virt (k' := 0) (n' := 0) 50 [] [] [] zkd_11 (zgR_s eb_16).1 (C_Mo_layFlow n E S a0 m_25 q_26 eq_26) d_Mo_run_47 tw_1736 tw_1733 tw_1735 ts_85 tw_13 dd_Mo_layFlow ⟨Nat.le_of_ble_eq_true rfl, Nat.le_of_ble_eq_true rfl, Nat.le_of_ble_eq_true rfl, Nat.le_of_ble_eq_true rfl⟩ (Nat.le_of_ble_eq_true rfl) rfl rfl rfl rfl ?_
  refine zi_aload_n 0 d_Mo_run_50 rfl ?_
  refine zi_iconst 0 d_Mo_run_51 rfl ?_
  obtain ⟨m_27, em_27, h⟩ := zbind h
  refine zo_putZ 55 zkd_11 53 d_Mo_run_52 em_27 rfl rfl rfl tw_1282 rfl ?_
  refine zi_aload_n 0 d_Mo_run_55 rfl ?_
  obtain ⟨b_28, eb_28, h⟩ := zbind h
  refine zo_getR 59 zkd_11 49 d_Mo_run_56 eb_28 rfl tw_1278 rfl ?_
  refine zi_iload_n 1 d_Mo_run_59 rfl ?_
  refine zi_iconst 5 d_Mo_run_60 rfl ?_
  refine zi_iadd d_Mo_run_61 ?_
  obtain ⟨v_29, ev_29, h⟩ := zbind h
  refine zo_iald 63 d_Mo_run_62 ev_29 rfl ?_
  refine zi_aload_n 0 d_Mo_run_63 rfl ?_
  refine zo_getR 67 zkd_11 49 d_Mo_run_64 eb_28 rfl tw_1278 rfl ?_
  refine zi_iload_n 1 d_Mo_run_67 rfl ?_
  refine zi_bipush 6 d_Mo_run_68 rfl ?_
  refine zi_iadd d_Mo_run_70 ?_
  obtain ⟨v_30, ev_30, h⟩ := zbind h
  refine zo_iald 72 d_Mo_run_71 ev_30 rfl ?_
  refine zi_icmp_ge (tgt := 96) d_Mo_run_72 rfl (fun c_31 => ?_) (fun c_31 => ?_)
  · rw [if_pos c_31] at h
    refine zi_lo [(0, .ref a0), (1, .int x1)] [0, 1] rfl ?_
    exact K_Mo_run_b96 n E S a0 x1 m_27 r M'  h
  · rw [if_neg c_31] at h
    refine zi_aload_n 0 d_Mo_run_75 rfl ?_
    refine zi_iload_n 1 d_Mo_run_76 rfl ?_
    refine zi_iconst 5 d_Mo_run_77 rfl ?_
    refine zi_iadd d_Mo_run_78 ?_
    obtain ⟨q_32, eq_32, h⟩ := zbind h
    refine zo_virt (k' := 0) (n' := 0) 82 [.int (x1 + 5)] [] [.int q_32.1] zkd_11 (zgR_s eb_16).1 (C_Mo_sumOf n E S a0 (x1 + 5) m_27 q_32.1 q_32.2 eq_32) d_Mo_run_79 tw_1870 tw_1867 tw_1869 ts_100 tw_13 dd_Mo_sumOf ⟨Nat.le_of_ble_eq_true rfl, Nat.le_of_ble_eq_true rfl, Nat.le_of_ble_eq_true rfl, Nat.le_of_ble_eq_true rfl⟩ (Nat.le_of_ble_eq_true rfl) rfl rfl rfl rfl ?_
    refine zi_istore_n [(2, .int q_32.1), (0, .ref a0), (1, .int x1)] d_Mo_run_82 (by decide) rfl ?_
    refine zi_aload_n 1 d_Mo_run_83 rfl ?_
    obtain ⟨v_33, ev_33, h⟩ := zbind h
    refine zo_getI 87 zkd_11 53 d_Mo_run_84 ev_33 rfl tw_1282 rfl ?_
    refine zi_if_ne (tgt := 94) d_Mo_run_87 rfl (fun c_34 => ?_) (fun c_34 => ?_)
    · rw [if_neg c_34] at h
      refine zi_iconst 0 d_Mo_run_94 rfl ?_
      cases h
      exact zo_ret d_Mo_run_95 (Nat.le_of_ble_eq_true rfl) (Nat.le_of_ble_eq_true rfl) rfl
    · rw [if_pos c_34] at h
      refine zi_iload_n 0 d_Mo_run_90 rfl ?_
      refine zi_if_ne (tgt := 96) d_Mo_run_91 rfl (fun c_35 => ?_) (fun c_35 => ?_)
      · rw [if_neg c_35] at h
        refine zi_lo [(0, .ref a0), (1, .int x1)] [1, 2] rfl ?_
        exact K_Mo_run_b96 n E S a0 x1 q_32.2 r M'  h
      · rw [if_pos c_35] at h
        refine zi_iconst 0 d_Mo_run_94 rfl ?_
        cases h
        exact zo_ret d_Mo_run_95 (Nat.le_of_ble_eq_true rfl) (Nat.le_of_ble_eq_true rfl) rfl
theorem C_Mo_run (n : Nat) (E : zE) (S : zS) (a0 : Nat) (x1 : Int32) (M : zH) (r : Int32) (M' : zH) (h : F_Mo_run n E S a0 x1 M = some (r, M')) : zC E Y_Mo_run [.ref a0, .int x1] S M (some (.int r), S, M') :=
  zC.of (Or.inl (show plainName "NightColanderModel" = true by decide)) (Nat.le_of_ble_eq_true rfl) (trivial) (K_Mo_run n E S a0 x1 M r M' h)
theorem d_Mo_orders_0 : decode (yB Y_Mo_orders) 0 = .ok (.aload_n 0, 1) := by decide +kernel
theorem d_Mo_orders_1 : decode (yB Y_Mo_orders) 1 = .ok (.iconst 0, 1) := by decide +kernel
theorem d_Mo_orders_2 : decode (yB Y_Mo_orders) 2 = .ok (.putfield 156, 3) := by decide +kernel
theorem d_Mo_orders_5 : decode (yB Y_Mo_orders) 5 = .ok (.aload_n 0, 1) := by decide +kernel
theorem d_Mo_orders_6 : decode (yB Y_Mo_orders) 6 = .ok (.iconst (-1), 1) := by decide +kernel
theorem d_Mo_orders_7 : decode (yB Y_Mo_orders) 7 = .ok (.putfield 147, 3) := by decide +kernel
theorem d_Mo_orders_10 : decode (yB Y_Mo_orders) 10 = .ok (.aload_n 0, 1) := by decide +kernel
theorem d_Mo_orders_11 : decode (yB Y_Mo_orders) 11 = .ok (.iconst 1, 1) := by decide +kernel
theorem d_Mo_orders_12 : decode (yB Y_Mo_orders) 12 = .ok (.invokevirtual 393, 3) := by decide +kernel
theorem d_Mo_orders_15 : decode (yB Y_Mo_orders) 15 = .ok (.aload_n 0, 1) := by decide +kernel
theorem d_Mo_orders_16 : decode (yB Y_Mo_orders) 16 = .ok (.invokevirtual 532, 3) := by decide +kernel
theorem d_Mo_orders_19 : decode (yB Y_Mo_orders) 19 = .ok (.aload_n 0, 1) := by decide +kernel
theorem d_Mo_orders_20 : decode (yB Y_Mo_orders) 20 = .ok (.getfield 256, 3) := by decide +kernel
theorem d_Mo_orders_23 : decode (yB Y_Mo_orders) 23 = .ok (.ifCond .ne 23, 3) := by decide +kernel
theorem d_Mo_orders_26 : decode (yB Y_Mo_orders) 26 = .ok (.aload_n 0, 1) := by decide +kernel
theorem d_Mo_orders_27 : decode (yB Y_Mo_orders) 27 = .ok (.bipush 59, 2) := by decide +kernel
theorem d_Mo_orders_29 : decode (yB Y_Mo_orders) 29 = .ok (.invokevirtual 325, 3) := by decide +kernel
theorem d_Mo_orders_32 : decode (yB Y_Mo_orders) 32 = .ok (.ifCond .eq 14, 3) := by decide +kernel
theorem d_Mo_orders_35 : decode (yB Y_Mo_orders) 35 = .ok (.aload_n 0, 1) := by decide +kernel
theorem d_Mo_orders_36 : decode (yB Y_Mo_orders) 36 = .ok (.invokevirtual 260, 3) := by decide +kernel
theorem d_Mo_orders_39 : decode (yB Y_Mo_orders) 39 = .ok (.aload_n 0, 1) := by decide +kernel
theorem d_Mo_orders_40 : decode (yB Y_Mo_orders) 40 = .ok (.invokevirtual 532, 3) := by decide +kernel
theorem d_Mo_orders_43 : decode (yB Y_Mo_orders) 43 = .ok (.goto (-24), 3) := by decide +kernel
theorem d_Mo_orders_46 : decode (yB Y_Mo_orders) 46 = .ok (.aload_n 0, 1) := by decide +kernel
theorem d_Mo_orders_47 : decode (yB Y_Mo_orders) 47 = .ok (.invokevirtual 399, 3) := by decide +kernel
theorem d_Mo_orders_50 : decode (yB Y_Mo_orders) 50 = .ok (.aload_n 0, 1) := by decide +kernel
theorem d_Mo_orders_51 : decode (yB Y_Mo_orders) 51 = .ok (.getfield 256, 3) := by decide +kernel
theorem d_Mo_orders_54 : decode (yB Y_Mo_orders) 54 = .ok (.ifCond .eq 10, 3) := by decide +kernel
theorem d_Mo_orders_57 : decode (yB Y_Mo_orders) 57 = .ok (.aload_n 0, 1) := by decide +kernel
theorem d_Mo_orders_58 : decode (yB Y_Mo_orders) 58 = .ok (.bipush (-6), 2) := by decide +kernel
theorem d_Mo_orders_60 : decode (yB Y_Mo_orders) 60 = .ok (.invokevirtual 165, 3) := by decide +kernel
theorem d_Mo_orders_63 : decode (yB Y_Mo_orders) 63 = .ok (.ireturn, 1) := by decide +kernel
theorem d_Mo_orders_64 : decode (yB Y_Mo_orders) 64 = .ok (.aload_n 0, 1) := by decide +kernel
theorem d_Mo_orders_65 : decode (yB Y_Mo_orders) 65 = .ok (.bipush 17, 2) := by decide +kernel
theorem d_Mo_orders_67 : decode (yB Y_Mo_orders) 67 = .ok (.invokevirtual 169, 3) := by decide +kernel
theorem d_Mo_orders_70 : decode (yB Y_Mo_orders) 70 = .ok (.aload_n 0, 1) := by decide +kernel
theorem d_Mo_orders_71 : decode (yB Y_Mo_orders) 71 = .ok (.getfield 162, 3) := by decide +kernel
theorem d_Mo_orders_74 : decode (yB Y_Mo_orders) 74 = .ok (.istore_n 1, 1) := by decide +kernel
theorem d_Mo_orders_75 : decode (yB Y_Mo_orders) 75 = .ok (.iconst 0, 1) := by decide +kernel
theorem d_Mo_orders_76 : decode (yB Y_Mo_orders) 76 = .ok (.istore_n 2, 1) := by decide +kernel
theorem d_Mo_orders_77 : decode (yB Y_Mo_orders) 77 = .ok (.iload_n 2, 1) := by decide +kernel
theorem d_Mo_orders_78 : decode (yB Y_Mo_orders) 78 = .ok (.sipush 800, 3) := by decide +kernel
theorem d_Mo_orders_81 : decode (yB Y_Mo_orders) 81 = .ok (.if_icmp .ge 21, 3) := by decide +kernel
theorem d_Mo_orders_84 : decode (yB Y_Mo_orders) 84 = .ok (.aload_n 0, 1) := by decide +kernel
theorem d_Mo_orders_85 : decode (yB Y_Mo_orders) 85 = .ok (.getfield 29, 3) := by decide +kernel
theorem d_Mo_orders_88 : decode (yB Y_Mo_orders) 88 = .ok (.iload_n 2, 1) := by decide +kernel
theorem d_Mo_orders_89 : decode (yB Y_Mo_orders) 89 = .ok (.aload_n 0, 1) := by decide +kernel
theorem d_Mo_orders_90 : decode (yB Y_Mo_orders) 90 = .ok (.getfield 23, 3) := by decide +kernel
theorem d_Mo_orders_93 : decode (yB Y_Mo_orders) 93 = .ok (.iload_n 2, 1) := by decide +kernel
theorem d_Mo_orders_94 : decode (yB Y_Mo_orders) 94 = .ok (.iaload, 1) := by decide +kernel
theorem d_Mo_orders_95 : decode (yB Y_Mo_orders) 95 = .ok (.iastore, 1) := by decide +kernel
theorem d_Mo_orders_96 : decode (yB Y_Mo_orders) 96 = .ok (.iinc 2 1, 3) := by decide +kernel
theorem d_Mo_orders_99 : decode (yB Y_Mo_orders) 99 = .ok (.goto (-22), 3) := by decide +kernel
theorem d_Mo_orders_102 : decode (yB Y_Mo_orders) 102 = .ok (.iconst 0, 1) := by decide +kernel
theorem d_Mo_orders_103 : decode (yB Y_Mo_orders) 103 = .ok (.istore_n 2, 1) := by decide +kernel
theorem d_Mo_orders_104 : decode (yB Y_Mo_orders) 104 = .ok (.iload_n 2, 1) := by decide +kernel
theorem d_Mo_orders_105 : decode (yB Y_Mo_orders) 105 = .ok (.bipush 16, 2) := by decide +kernel
theorem d_Mo_orders_107 : decode (yB Y_Mo_orders) 107 = .ok (.if_icmp .ge 21, 3) := by decide +kernel
theorem d_Mo_orders_110 : decode (yB Y_Mo_orders) 110 = .ok (.aload_n 0, 1) := by decide +kernel
theorem d_Mo_orders_111 : decode (yB Y_Mo_orders) 111 = .ok (.getfield 32, 3) := by decide +kernel
theorem d_Mo_orders_114 : decode (yB Y_Mo_orders) 114 = .ok (.iload_n 2, 1) := by decide +kernel
theorem d_Mo_orders_115 : decode (yB Y_Mo_orders) 115 = .ok (.aload_n 0, 1) := by decide +kernel
theorem d_Mo_orders_116 : decode (yB Y_Mo_orders) 116 = .ok (.getfield 26, 3) := by decide +kernel
theorem d_Mo_orders_119 : decode (yB Y_Mo_orders) 119 = .ok (.iload_n 2, 1) := by decide +kernel
theorem d_Mo_orders_120 : decode (yB Y_Mo_orders) 120 = .ok (.iaload, 1) := by decide +kernel
theorem d_Mo_orders_121 : decode (yB Y_Mo_orders) 121 = .ok (.iastore, 1) := by decide +kernel
theorem d_Mo_orders_122 : decode (yB Y_Mo_orders) 122 = .ok (.iinc 2 1, 3) := by decide +kernel
theorem d_Mo_orders_125 : decode (yB Y_Mo_orders) 125 = .ok (.goto (-21), 3) := by decide +kernel
theorem d_Mo_orders_128 : decode (yB Y_Mo_orders) 128 = .ok (.aload_n 0, 1) := by decide +kernel
theorem d_Mo_orders_129 : decode (yB Y_Mo_orders) 129 = .ok (.iconst 0, 1) := by decide +kernel
theorem d_Mo_orders_130 : decode (yB Y_Mo_orders) 130 = .ok (.putfield 517, 3) := by decide +kernel
theorem d_Mo_orders_133 : decode (yB Y_Mo_orders) 133 = .ok (.aload_n 0, 1) := by decide +kernel
theorem d_Mo_orders_134 : decode (yB Y_Mo_orders) 134 = .ok (.iconst (-1), 1) := by decide +kernel
theorem d_Mo_orders_135 : decode (yB Y_Mo_orders) 135 = .ok (.putfield 520, 3) := by decide +kernel
theorem d_Mo_orders_138 : decode (yB Y_Mo_orders) 138 = .ok (.iconst 0, 1) := by decide +kernel
theorem d_Mo_orders_139 : decode (yB Y_Mo_orders) 139 = .ok (.istore_n 2, 1) := by decide +kernel
theorem d_Mo_orders_140 : decode (yB Y_Mo_orders) 140 = .ok (.iload_n 2, 1) := by decide +kernel
theorem d_Mo_orders_141 : decode (yB Y_Mo_orders) 141 = .ok (.aload_n 0, 1) := by decide +kernel
theorem d_Mo_orders_142 : decode (yB Y_Mo_orders) 142 = .ok (.getfield 385, 3) := by decide +kernel
theorem d_Mo_orders_145 : decode (yB Y_Mo_orders) 145 = .ok (.if_icmp .ge 61, 3) := by decide +kernel
theorem d_Mo_orders_148 : decode (yB Y_Mo_orders) 148 = .ok (.iconst 0, 1) := by decide +kernel
theorem d_Mo_orders_149 : decode (yB Y_Mo_orders) 149 = .ok (.istore_n 3, 1) := by decide +kernel
theorem d_Mo_orders_150 : decode (yB Y_Mo_orders) 150 = .ok (.iload_n 3, 1) := by decide +kernel
theorem d_Mo_orders_151 : decode (yB Y_Mo_orders) 151 = .ok (.aload_n 0, 1) := by decide +kernel
theorem d_Mo_orders_152 : decode (yB Y_Mo_orders) 152 = .ok (.getfield 144, 3) := by decide +kernel
theorem d_Mo_orders_155 : decode (yB Y_Mo_orders) 155 = .ok (.bipush 8, 2) := by decide +kernel
theorem d_Mo_orders_157 : decode (yB Y_Mo_orders) 157 = .ok (.iload_n 2, 1) := by decide +kernel
theorem d_Mo_orders_158 : decode (yB Y_Mo_orders) 158 = .ok (.imul, 1) := by decide +kernel
theorem d_Mo_orders_159 : decode (yB Y_Mo_orders) 159 = .ok (.bipush 7, 2) := by decide +kernel
theorem d_Mo_orders_161 : decode (yB Y_Mo_orders) 161 = .ok (.iadd, 1) := by decide +kernel
theorem d_Mo_orders_162 : decode (yB Y_Mo_orders) 162 = .ok (.iaload, 1) := by decide +kernel
theorem d_Mo_orders_163 : decode (yB Y_Mo_orders) 163 = .ok (.if_icmp .ge 37, 3) := by decide +kernel
theorem d_Mo_orders_166 : decode (yB Y_Mo_orders) 166 = .ok (.aload_n 0, 1) := by decide +kernel
theorem d_Mo_orders_167 : decode (yB Y_Mo_orders) 167 = .ok (.bipush 8, 2) := by decide +kernel
theorem d_Mo_orders_169 : decode (yB Y_Mo_orders) 169 = .ok (.iload_n 2, 1) := by decide +kernel
theorem d_Mo_orders_170 : decode (yB Y_Mo_orders) 170 = .ok (.imul, 1) := by decide +kernel
theorem d_Mo_orders_171 : decode (yB Y_Mo_orders) 171 = .ok (.invokevirtual 535, 3) := by decide +kernel
theorem d_Mo_orders_174 : decode (yB Y_Mo_orders) 174 = .ok (.ifCond .ge 20, 3) := by decide +kernel
theorem d_Mo_orders_177 : decode (yB Y_Mo_orders) 177 = .ok (.aload_n 0, 1) := by decide +kernel
theorem d_Mo_orders_178 : decode (yB Y_Mo_orders) 178 = .ok (.iload_n 1, 1) := by decide +kernel
theorem d_Mo_orders_179 : decode (yB Y_Mo_orders) 179 = .ok (.invokevirtual 538, 3) := by decide +kernel
theorem d_Mo_orders_182 : decode (yB Y_Mo_orders) 182 = .ok (.aload_n 0, 1) := by decide +kernel
theorem d_Mo_orders_183 : decode (yB Y_Mo_orders) 183 = .ok (.iload_n 2, 1) := by decide +kernel
theorem d_Mo_orders_184 : decode (yB Y_Mo_orders) 184 = .ok (.putfield 147, 3) := by decide +kernel
theorem d_Mo_orders_187 : decode (yB Y_Mo_orders) 187 = .ok (.aload_n 0, 1) := by decide +kernel
theorem d_Mo_orders_188 : decode (yB Y_Mo_orders) 188 = .ok (.bipush (-3), 2) := by decide +kernel
theorem d_Mo_orders_190 : decode (yB Y_Mo_orders) 190 = .ok (.invokevirtual 165, 3) := by decide +kernel
theorem d_Mo_orders_193 : decode (yB Y_Mo_orders) 193 = .ok (.ireturn, 1) := by decide +kernel
theorem d_Mo_orders_194 : decode (yB Y_Mo_orders) 194 = .ok (.iinc 3 1, 3) := by decide +kernel
theorem d_Mo_orders_197 : decode (yB Y_Mo_orders) 197 = .ok (.goto (-47), 3) := by decide +kernel
theorem d_Mo_orders_200 : decode (yB Y_Mo_orders) 200 = .ok (.iinc 2 1, 3) := by decide +kernel
theorem d_Mo_orders_203 : decode (yB Y_Mo_orders) 203 = .ok (.goto (-63), 3) := by decide +kernel
theorem d_Mo_orders_206 : decode (yB Y_Mo_orders) 206 = .ok (.aload_n 0, 1) := by decide +kernel
theorem d_Mo_orders_207 : decode (yB Y_Mo_orders) 207 = .ok (.aload_n 0, 1) := by decide +kernel
theorem d_Mo_orders_208 : decode (yB Y_Mo_orders) 208 = .ok (.getfield 517, 3) := by decide +kernel
theorem d_Mo_orders_211 : decode (yB Y_Mo_orders) 211 = .ok (.invokevirtual 165, 3) := by decide +kernel
theorem d_Mo_orders_214 : decode (yB Y_Mo_orders) 214 = .ok (.ireturn, 1) := by decide +kernel
def F_Mo_orders_L150 (n : Nat) (E : zE) (S : zS) (r140 : Nat × Int32 × Int32 × zH → Option (Int32 × zH)) (r150 : Nat × Int32 × Int32 × Int32 × zH → Option (Int32 × zH)) (a0 : Nat) (x1 : Int32) (x2 : Int32) (x3 : Int32) (M : zH) : Option (Int32 × zH) :=
  (zgR S a0 11 49).bind fun b_1 =>
  (zldI S M b_1 ((8 * x2) + 7)).bind fun v_2 =>
  if v_2 ≤ x3 then
    r140 (a0, x1, x2 + 1, M)
  else
    (F_Mo_run n E S a0 (8 * x2) M).bind fun q_4 =>
    if 0 ≤ q_4.1 then
      r150 (a0, x1, x2, x3 + 1, q_4.2)
    else
      (F_Mo_giveBack n E S a0 x1 q_4.2).bind fun q_6 =>
      (zpI S q_6 a0 11 52 x2).bind fun m_7 =>
      (F_Mo_tell n E S a0 (-3) m_7).bind fun q_8 =>
      some (q_8.1, q_8.2)
def F_Mo_orders_b150 (n : Nat) (E : zE) (S : zS) (r140 : Nat × Int32 × Int32 × zH → Option (Int32 × zH)) : Nat × Int32 × Int32 × Int32 × zH → Option (Int32 × zH) := zfix (fun r150 s => F_Mo_orders_L150 n E S r140 r150 s.1 s.2.1 s.2.2.1 s.2.2.2.1 s.2.2.2.2) n
def F_Mo_orders_L140 (n : Nat) (E : zE) (S : zS) (r140 : Nat × Int32 × Int32 × zH → Option (Int32 × zH)) (a0 : Nat) (x1 : Int32) (x2 : Int32) (M : zH) : Option (Int32 × zH) :=
  (zgI S M a0 11 21).bind fun v_9 =>
  if v_9 ≤ x2 then
    (zgI S M a0 11 50).bind fun v_11 =>
    (F_Mo_tell n E S a0 v_11 M).bind fun q_12 =>
    some (q_12.1, q_12.2)
  else
    F_Mo_orders_b150 n E S r140 (a0, x1, x2, 0, M)
def F_Mo_orders_b140 (n : Nat) (E : zE) (S : zS) : Nat × Int32 × Int32 × zH → Option (Int32 × zH) := zfix (fun r140 s => F_Mo_orders_L140 n E S r140 s.1 s.2.1 s.2.2.1 s.2.2.2) n
def F_Mo_orders_L104 (n : Nat) (E : zE) (S : zS) (r104 : Nat × Int32 × Int32 × zH → Option (Int32 × zH)) (a0 : Nat) (x1 : Int32) (x2 : Int32) (M : zH) : Option (Int32 × zH) :=
  if 16 ≤ x2 then
    (zpI S M a0 11 50 0).bind fun m_14 =>
    (zpI S m_14 a0 11 51 (-1)).bind fun m_15 =>
    F_Mo_orders_b140 n E S (a0, x1, 0, m_15)
  else
    (zgR S a0 11 10).bind fun b_16 =>
    (zgR S a0 11 7).bind fun b_17 =>
    (zldI S M b_17 x2).bind fun v_18 =>
    (zstI S M b_16 x2 v_18).bind fun m_19 =>
    r104 (a0, x1, x2 + 1, m_19)
def F_Mo_orders_b104 (n : Nat) (E : zE) (S : zS) : Nat × Int32 × Int32 × zH → Option (Int32 × zH) := zfix (fun r104 s => F_Mo_orders_L104 n E S r104 s.1 s.2.1 s.2.2.1 s.2.2.2) n
def F_Mo_orders_L77 (n : Nat) (E : zE) (S : zS) (r77 : Nat × Int32 × Int32 × zH → Option (Int32 × zH)) (a0 : Nat) (x1 : Int32) (x2 : Int32) (M : zH) : Option (Int32 × zH) :=
  if 800 ≤ x2 then
    F_Mo_orders_b104 n E S (a0, x1, 0, M)
  else
    (zgR S a0 11 9).bind fun b_21 =>
    (zgR S a0 11 6).bind fun b_22 =>
    (zldI S M b_22 x2).bind fun v_23 =>
    (zstI S M b_21 x2 v_23).bind fun m_24 =>
    r77 (a0, x1, x2 + 1, m_24)
def F_Mo_orders_b77 (n : Nat) (E : zE) (S : zS) : Nat × Int32 × Int32 × zH → Option (Int32 × zH) := zfix (fun r77 s => F_Mo_orders_L77 n E S r77 s.1 s.2.1 s.2.2.1 s.2.2.2) n
def F_Mo_orders_b46 (n : Nat) (E : zE) (S : zS) (a0 : Nat) (M : zH) : Option (Int32 × zH) :=
  (zck S a0 11).bind fun u_25 =>
  (F_Mo_endText n E S a0 M).bind fun q_26 =>
  (zgI S q_26 a0 11 19).bind fun v_27 =>
  if v_27 = 0 then
    (F_Mo_keepAll n E S a0 17 q_26).bind fun q_29 =>
    (zgI S q_29 a0 11 8).bind fun v_30 =>
    F_Mo_orders_b77 n E S (a0, v_30, 0, q_29)
  else
    (F_Mo_tell n E S a0 (-6) q_26).bind fun q_31 =>
    some (q_31.1, q_31.2)
def F_Mo_orders_L19 (n : Nat) (E : zE) (S : zS) (r19 : Nat × zH → Option (Int32 × zH)) (a0 : Nat) (M : zH) : Option (Int32 × zH) :=
  (zgI S M a0 11 19).bind fun v_32 =>
  if v_32 = 0 then
    (F_Mo_isSign n E S a0 59 M).bind fun q_34 =>
    if q_34.1 = true then
      (F_Mo_next n E S a0 q_34.2).bind fun q_36 =>
      (F_Mo_readOrder n E S a0 q_36).bind fun q_37 =>
      r19 (a0, q_37)
    else
      F_Mo_orders_b46 n E S a0 q_34.2
  else
    F_Mo_orders_b46 n E S a0 M
def F_Mo_orders_b19 (n : Nat) (E : zE) (S : zS) : Nat × zH → Option (Int32 × zH) := zfix (fun r19 s => F_Mo_orders_L19 n E S r19 s.1 s.2) n
def F_Mo_orders (n : Nat) (E : zE) (S : zS) (a0 : Nat) (M : zH) : Option (Int32 × zH) :=
  (zpI S M a0 11 0 0).bind fun m_38 =>
  (zpI S m_38 a0 11 52 (-1)).bind fun m_39 =>
  (zck S a0 11).bind fun u_40 =>
  (F_Mo_beginText n E S a0 1 m_39).bind fun q_41 =>
  (F_Mo_readOrder n E S a0 q_41).bind fun q_42 =>
  F_Mo_orders_b19 n E S (a0, q_42)
theorem K_Mo_orders_L150 (n : Nat) (E : zE) (S : zS) (r140 : Nat × Int32 × Int32 × zH → Option (Int32 × zH)) (r150 : Nat × Int32 × Int32 × Int32 × zH → Option (Int32 × zH)) (a0 : Nat) (x1 : Int32) (x2 : Int32) (x3 : Int32) (M : zH) (r : Int32) (M' : zH) (hr140 : ∀ (a0 : Nat) (x1 : Int32) (x2 : Int32) (M : zH), r140 (a0, x1, x2, M) = some (r, M') → zG E Y_Mo_orders (some (.int r), S, M') 140 [(0, .ref a0), (1, .int x1), (2, .int x2)] [] S M 0 0) (hr150 : ∀ (a0 : Nat) (x1 : Int32) (x2 : Int32) (x3 : Int32) (M : zH), r150 (a0, x1, x2, x3, M) = some (r, M') → zG E Y_Mo_orders (some (.int r), S, M') 150 [(0, .ref a0), (1, .int x1), (2, .int x2), (3, .int x3)] [] S M 0 0) (h : F_Mo_orders_L150 n E S r140 r150 a0 x1 x2 x3 M = some (r, M')) : zG E Y_Mo_orders (some (.int r), S, M') 150 [(0, .ref a0), (1, .int x1), (2, .int x2), (3, .int x3)] [] S M 0 0 := by
  unfold F_Mo_orders_L150 at h
  refine zi_iload_n 3 d_Mo_orders_150 rfl ?_
  refine zi_aload_n 0 d_Mo_orders_151 rfl ?_
  obtain ⟨b_1, eb_1, h⟩ := zbind h
  refine zo_getR 155 zkd_11 49 d_Mo_orders_152 eb_1 rfl tw_1278 rfl ?_
  refine zi_bipush 8 d_Mo_orders_155 rfl ?_
  refine zi_iload_n 2 d_Mo_orders_157 rfl ?_
  refine zi_imul d_Mo_orders_158 ?_
  refine zi_bipush 7 d_Mo_orders_159 rfl ?_
  refine zi_iadd d_Mo_orders_161 ?_
  obtain ⟨v_2, ev_2, h⟩ := zbind h
  refine zo_iald 163 d_Mo_orders_162 ev_2 rfl ?_
  refine zi_icmp_ge (tgt := 200) d_Mo_orders_163 rfl (fun c_3 => ?_) (fun c_3 => ?_)
  · rw [if_pos c_3] at h
    refine zi_iinc 2 (x2 + 1) [(2, .int (x2 + 1)), (0, .ref a0), (1, .int x1), (3, .int x3)] d_Mo_orders_200 rfl rfl (by decide) rfl ?_
    refine zi_goto (tgt := 140) d_Mo_orders_203 rfl ?_
    refine zi_lo [(0, .ref a0), (1, .int x1), (2, .int (x2 + 1))] [1, 2, 0] rfl ?_
    exact hr140 a0 x1 (x2 + 1) M h
  · rw [if_neg c_3] at h
    refine zi_aload_n 0 d_Mo_orders_166 rfl ?_
    refine zi_bipush 8 d_Mo_orders_167 rfl ?_
    refine zi_iload_n 2 d_Mo_orders_169 rfl ?_
    refine zi_imul d_Mo_orders_170 ?_
    obtain ⟨q_4, eq_4, h⟩ := zbind h
    refine zo_virt (k' := 0) (n' := 0) 174 [.int (8 * x2)] [] [.int q_4.1] zkd_11 (zgR_s eb_1).1 (C_Mo_run n E S a0 (8 * x2) M q_4.1 q_4.2 eq_4) d_Mo_orders_171 tw_1862 tw_1859 tw_1861 ts_98 tw_13 dd_Mo_run ⟨Nat.le_of_ble_eq_true rfl, Nat.le_of_ble_eq_true rfl, Nat.le_of_ble_eq_true rfl, Nat.le_of_ble_eq_true rfl⟩ (Nat.le_of_ble_eq_true rfl) rfl rfl rfl rfl ?_
    refine zi_if_ge (tgt := 194) d_Mo_orders_174 rfl (fun c_5 => ?_) (fun c_5 => ?_)
    · rw [if_pos c_5] at h
      refine zi_iinc 3 (x3 + 1) [(3, .int (x3 + 1)), (0, .ref a0), (1, .int x1), (2, .int x2)] d_Mo_orders_194 rfl rfl (by decide) rfl ?_
      refine zi_goto (tgt := 150) d_Mo_orders_197 rfl ?_
      refine zi_lo [(0, .ref a0), (1, .int x1), (2, .int x2), (3, .int (x3 + 1))] [1, 2, 3, 0] rfl ?_
      exact hr150 a0 x1 x2 (x3 + 1) q_4.2 h
    · rw [if_neg c_5] at h
      refine zi_aload_n 0 d_Mo_orders_177 rfl ?_
      refine zi_iload_n 1 d_Mo_orders_178 rfl ?_
      obtain ⟨q_6, eq_6, h⟩ := zbind h
      refine zo_virt (k' := 0) (n' := 0) 182 [.int x1] [] [] zkd_11 (zgR_s eb_1).1 (C_Mo_giveBack n E S a0 x1 q_4.2 q_6 eq_6) d_Mo_orders_179 tw_1878 tw_1875 tw_1877 ts_102 tw_13 dd_Mo_giveBack ⟨Nat.le_of_ble_eq_true rfl, Nat.le_of_ble_eq_true rfl, Nat.le_of_ble_eq_true rfl, Nat.le_of_ble_eq_true rfl⟩ (Nat.le_of_ble_eq_true rfl) rfl rfl rfl rfl ?_
      refine zi_aload_n 0 d_Mo_orders_182 rfl ?_
      refine zi_iload_n 2 d_Mo_orders_183 rfl ?_
      obtain ⟨m_7, em_7, h⟩ := zbind h
      refine zo_putI 187 zkd_11 52 d_Mo_orders_184 em_7 rfl rfl rfl tw_1281 rfl ?_
      refine zi_aload_n 0 d_Mo_orders_187 rfl ?_
      refine zi_bipush (-3) d_Mo_orders_188 rfl ?_
      obtain ⟨q_8, eq_8, h⟩ := zbind h
      refine zo_virt (k' := 0) (n' := 0) 193 [.int (-3)] [] [.int q_8.1] zkd_11 (zgR_s eb_1).1 (C_Mo_tell n E S a0 (-3) m_7 q_8.1 q_8.2 eq_8) d_Mo_orders_190 tw_1408 tw_1405 tw_1407 ts_36 tw_13 dd_Mo_tell ⟨Nat.le_of_ble_eq_true rfl, Nat.le_of_ble_eq_true rfl, Nat.le_of_ble_eq_true rfl, Nat.le_of_ble_eq_true rfl⟩ (Nat.le_of_ble_eq_true rfl) rfl rfl rfl rfl ?_
      cases h
      exact zo_ret d_Mo_orders_193 (Nat.le_of_ble_eq_true rfl) (Nat.le_of_ble_eq_true rfl) rfl
theorem K_Mo_orders_b150 (n : Nat) (E : zE) (S : zS) (r140 : Nat × Int32 × Int32 × zH → Option (Int32 × zH)) (a0 : Nat) (x1 : Int32) (x2 : Int32) (x3 : Int32) (M : zH) (r : Int32) (M' : zH) (hr140 : ∀ (a0 : Nat) (x1 : Int32) (x2 : Int32) (M : zH), r140 (a0, x1, x2, M) = some (r, M') → zG E Y_Mo_orders (some (.int r), S, M') 140 [(0, .ref a0), (1, .int x1), (2, .int x2)] [] S M 0 0) (h : F_Mo_orders_b150 n E S r140 (a0, x1, x2, x3, M) = some (r, M')) : zG E Y_Mo_orders (some (.int r), S, M') 150 [(0, .ref a0), (1, .int x1), (2, .int x2), (3, .int x3)] [] S M 0 0 := by
  have key : ∀ (k : Nat) (a0 : Nat) (x1 : Int32) (x2 : Int32) (x3 : Int32) (M : zH), zfix (fun r150 s => F_Mo_orders_L150 n E S r140 r150 s.1 s.2.1 s.2.2.1 s.2.2.2.1 s.2.2.2.2) k (a0, x1, x2, x3, M) = some (r, M') → zG E Y_Mo_orders (some (.int r), S, M') 150 [(0, .ref a0), (1, .int x1), (2, .int x2), (3, .int x3)] [] S M 0 0 := by
    intro k
    induction k with
    | zero => intro a0 x1 x2 x3 M h; cases h
    | succ k ih => intro a0 x1 x2 x3 M h; exact K_Mo_orders_L150 n E S r140 _ a0 x1 x2 x3 M r M' hr140 (fun a0 x1 x2 x3 M h => ih a0 x1 x2 x3 M h) h
  exact key n a0 x1 x2 x3 M h
theorem K_Mo_orders_L140 (n : Nat) (E : zE) (S : zS) (r140 : Nat × Int32 × Int32 × zH → Option (Int32 × zH)) (a0 : Nat) (x1 : Int32) (x2 : Int32) (M : zH) (r : Int32) (M' : zH) (hr140 : ∀ (a0 : Nat) (x1 : Int32) (x2 : Int32) (M : zH), r140 (a0, x1, x2, M) = some (r, M') → zG E Y_Mo_orders (some (.int r), S, M') 140 [(0, .ref a0), (1, .int x1), (2, .int x2)] [] S M 0 0) (h : F_Mo_orders_L140 n E S r140 a0 x1 x2 M = some (r, M')) : zG E Y_Mo_orders (some (.int r), S, M') 140 [(0, .ref a0), (1, .int x1), (2, .int x2)] [] S M 0 0 := by
  unfold F_Mo_orders_L140 at h
  refine zi_iload_n 2 d_Mo_orders_140 rfl ?_
  refine zi_aload_n 0 d_Mo_orders_141 rfl ?_
  obtain ⟨v_9, ev_9, h⟩ := zbind h
  refine zo_getI 145 zkd_11 21 d_Mo_orders_142 ev_9 rfl tw_1250 rfl ?_
  refine zi_icmp_ge (tgt := 206) d_Mo_orders_145 rfl (fun c_10 => ?_) (fun c_10 => ?_)
  · rw [if_pos c_10] at h
    refine zi_aload_n 0 d_Mo_orders_206 rfl ?_
    refine zi_aload_n 0 d_Mo_orders_207 rfl ?_
    obtain ⟨v_11, ev_11, h⟩ := zbind h
    refine zo_getI 211 zkd_11 50 d_Mo_orders_208 ev_11 rfl tw_1279 rfl ?_
    obtain ⟨q_12, eq_12, h⟩ := zbind h
    refine zo_virt (k' := 0) (n' := 0) 214 [.int v_11] [] [.int q_12.1] zkd_11 (zgI_s ev_9).1 (C_Mo_tell n E S a0 v_11 M q_12.1 q_12.2 eq_12) d_Mo_orders_211 tw_1408 tw_1405 tw_1407 ts_36 tw_13 dd_Mo_tell ⟨Nat.le_of_ble_eq_true rfl, Nat.le_of_ble_eq_true rfl, Nat.le_of_ble_eq_true rfl, Nat.le_of_ble_eq_true rfl⟩ (Nat.le_of_ble_eq_true rfl) rfl rfl rfl rfl ?_
    cases h
    exact zo_ret d_Mo_orders_214 (Nat.le_of_ble_eq_true rfl) (Nat.le_of_ble_eq_true rfl) rfl
  · rw [if_neg c_10] at h
    refine zi_iconst 0 d_Mo_orders_148 rfl ?_
    refine zi_istore_n [(3, .int 0), (0, .ref a0), (1, .int x1), (2, .int x2)] d_Mo_orders_149 (by decide) rfl ?_
    refine zi_lo [(0, .ref a0), (1, .int x1), (2, .int x2), (3, .int 0)] [1, 2, 3, 0] rfl ?_
    exact K_Mo_orders_b150 n E S r140 a0 x1 x2 0 M r M' hr140 h
theorem K_Mo_orders_b140 (n : Nat) (E : zE) (S : zS) (a0 : Nat) (x1 : Int32) (x2 : Int32) (M : zH) (r : Int32) (M' : zH)  (h : F_Mo_orders_b140 n E S (a0, x1, x2, M) = some (r, M')) : zG E Y_Mo_orders (some (.int r), S, M') 140 [(0, .ref a0), (1, .int x1), (2, .int x2)] [] S M 0 0 := by
  have key : ∀ (k : Nat) (a0 : Nat) (x1 : Int32) (x2 : Int32) (M : zH), zfix (fun r140 s => F_Mo_orders_L140 n E S r140 s.1 s.2.1 s.2.2.1 s.2.2.2) k (a0, x1, x2, M) = some (r, M') → zG E Y_Mo_orders (some (.int r), S, M') 140 [(0, .ref a0), (1, .int x1), (2, .int x2)] [] S M 0 0 := by
    intro k
    induction k with
    | zero => intro a0 x1 x2 M h; cases h
    | succ k ih => intro a0 x1 x2 M h; exact K_Mo_orders_L140 n E S _ a0 x1 x2 M r M'  (fun a0 x1 x2 M h => ih a0 x1 x2 M h) h
  exact key n a0 x1 x2 M h
theorem K_Mo_orders_L104 (n : Nat) (E : zE) (S : zS) (r104 : Nat × Int32 × Int32 × zH → Option (Int32 × zH)) (a0 : Nat) (x1 : Int32) (x2 : Int32) (M : zH) (r : Int32) (M' : zH) (hr104 : ∀ (a0 : Nat) (x1 : Int32) (x2 : Int32) (M : zH), r104 (a0, x1, x2, M) = some (r, M') → zG E Y_Mo_orders (some (.int r), S, M') 104 [(0, .ref a0), (1, .int x1), (2, .int x2)] [] S M 0 0) (h : F_Mo_orders_L104 n E S r104 a0 x1 x2 M = some (r, M')) : zG E Y_Mo_orders (some (.int r), S, M') 104 [(0, .ref a0), (1, .int x1), (2, .int x2)] [] S M 0 0 := by
  unfold F_Mo_orders_L104 at h
  refine zi_iload_n 2 d_Mo_orders_104 rfl ?_
  refine zi_bipush 16 d_Mo_orders_105 rfl ?_
  refine zi_icmp_ge (tgt := 128) d_Mo_orders_107 rfl (fun c_13 => ?_) (fun c_13 => ?_)
  · rw [if_pos c_13] at h
    refine zi_aload_n 0 d_Mo_orders_128 rfl ?_
    refine zi_iconst 0 d_Mo_orders_129 rfl ?_
    obtain ⟨m_14, em_14, h⟩ := zbind h
    refine zo_putI 133 zkd_11 50 d_Mo_orders_130 em_14 rfl rfl rfl tw_1279 rfl ?_
    refine zi_aload_n 0 d_Mo_orders_133 rfl ?_
    refine zi_iconst (-1) d_Mo_orders_134 rfl ?_
    obtain ⟨m_15, em_15, h⟩ := zbind h
    refine zo_putI 138 zkd_11 51 d_Mo_orders_135 em_15 rfl rfl rfl tw_1280 rfl ?_
    refine zi_iconst 0 d_Mo_orders_138 rfl ?_
    refine zi_istore_n [(2, .int 0), (0, .ref a0), (1, .int x1)] d_Mo_orders_139 (by decide) rfl ?_
    refine zi_lo [(0, .ref a0), (1, .int x1), (2, .int 0)] [1, 2, 0] rfl ?_
    exact K_Mo_orders_b140 n E S a0 x1 0 m_15 r M'  h
  · rw [if_neg c_13] at h
    refine zi_aload_n 0 d_Mo_orders_110 rfl ?_
    obtain ⟨b_16, eb_16, h⟩ := zbind h
    refine zo_getR 114 zkd_11 10 d_Mo_orders_111 eb_16 rfl tw_1239 rfl ?_
    refine zi_iload_n 2 d_Mo_orders_114 rfl ?_
    refine zi_aload_n 0 d_Mo_orders_115 rfl ?_
    obtain ⟨b_17, eb_17, h⟩ := zbind h
    refine zo_getR 119 zkd_11 7 d_Mo_orders_116 eb_17 rfl tw_1236 rfl ?_
    refine zi_iload_n 2 d_Mo_orders_119 rfl ?_
    obtain ⟨v_18, ev_18, h⟩ := zbind h
    refine zo_iald 121 d_Mo_orders_120 ev_18 rfl ?_
    obtain ⟨m_19, em_19, h⟩ := zbind h
    refine zo_iast 122 d_Mo_orders_121 em_19 rfl ?_
    refine zi_iinc 2 (x2 + 1) [(2, .int (x2 + 1)), (0, .ref a0), (1, .int x1)] d_Mo_orders_122 rfl rfl (by decide) rfl ?_
    refine zi_goto (tgt := 104) d_Mo_orders_125 rfl ?_
    refine zi_lo [(0, .ref a0), (1, .int x1), (2, .int (x2 + 1))] [1, 2, 0] rfl ?_
    exact hr104 a0 x1 (x2 + 1) m_19 h
theorem K_Mo_orders_b104 (n : Nat) (E : zE) (S : zS) (a0 : Nat) (x1 : Int32) (x2 : Int32) (M : zH) (r : Int32) (M' : zH)  (h : F_Mo_orders_b104 n E S (a0, x1, x2, M) = some (r, M')) : zG E Y_Mo_orders (some (.int r), S, M') 104 [(0, .ref a0), (1, .int x1), (2, .int x2)] [] S M 0 0 := by
  have key : ∀ (k : Nat) (a0 : Nat) (x1 : Int32) (x2 : Int32) (M : zH), zfix (fun r104 s => F_Mo_orders_L104 n E S r104 s.1 s.2.1 s.2.2.1 s.2.2.2) k (a0, x1, x2, M) = some (r, M') → zG E Y_Mo_orders (some (.int r), S, M') 104 [(0, .ref a0), (1, .int x1), (2, .int x2)] [] S M 0 0 := by
    intro k
    induction k with
    | zero => intro a0 x1 x2 M h; cases h
    | succ k ih => intro a0 x1 x2 M h; exact K_Mo_orders_L104 n E S _ a0 x1 x2 M r M'  (fun a0 x1 x2 M h => ih a0 x1 x2 M h) h
  exact key n a0 x1 x2 M h
theorem K_Mo_orders_L77 (n : Nat) (E : zE) (S : zS) (r77 : Nat × Int32 × Int32 × zH → Option (Int32 × zH)) (a0 : Nat) (x1 : Int32) (x2 : Int32) (M : zH) (r : Int32) (M' : zH) (hr77 : ∀ (a0 : Nat) (x1 : Int32) (x2 : Int32) (M : zH), r77 (a0, x1, x2, M) = some (r, M') → zG E Y_Mo_orders (some (.int r), S, M') 77 [(0, .ref a0), (1, .int x1), (2, .int x2)] [] S M 0 0) (h : F_Mo_orders_L77 n E S r77 a0 x1 x2 M = some (r, M')) : zG E Y_Mo_orders (some (.int r), S, M') 77 [(0, .ref a0), (1, .int x1), (2, .int x2)] [] S M 0 0 := by
  unfold F_Mo_orders_L77 at h
  refine zi_iload_n 2 d_Mo_orders_77 rfl ?_
  refine zi_sipush 800 d_Mo_orders_78 rfl ?_
  refine zi_icmp_ge (tgt := 102) d_Mo_orders_81 rfl (fun c_20 => ?_) (fun c_20 => ?_)
  · rw [if_pos c_20] at h
    refine zi_iconst 0 d_Mo_orders_102 rfl ?_
    refine zi_istore_n [(2, .int 0), (0, .ref a0), (1, .int x1)] d_Mo_orders_103 (by decide) rfl ?_
    refine zi_lo [(0, .ref a0), (1, .int x1), (2, .int 0)] [1, 2, 0] rfl ?_
    exact K_Mo_orders_b104 n E S a0 x1 0 M r M'  h
  · rw [if_neg c_20] at h
    refine zi_aload_n 0 d_Mo_orders_84 rfl ?_
    obtain ⟨b_21, eb_21, h⟩ := zbind h
    refine zo_getR 88 zkd_11 9 d_Mo_orders_85 eb_21 rfl tw_1238 rfl ?_
    refine zi_iload_n 2 d_Mo_orders_88 rfl ?_
    refine zi_aload_n 0 d_Mo_orders_89 rfl ?_
    obtain ⟨b_22, eb_22, h⟩ := zbind h
    refine zo_getR 93 zkd_11 6 d_Mo_orders_90 eb_22 rfl tw_1235 rfl ?_
    refine zi_iload_n 2 d_Mo_orders_93 rfl ?_
    obtain ⟨v_23, ev_23, h⟩ := zbind h
    refine zo_iald 95 d_Mo_orders_94 ev_23 rfl ?_
    obtain ⟨m_24, em_24, h⟩ := zbind h
    refine zo_iast 96 d_Mo_orders_95 em_24 rfl ?_
    refine zi_iinc 2 (x2 + 1) [(2, .int (x2 + 1)), (0, .ref a0), (1, .int x1)] d_Mo_orders_96 rfl rfl (by decide) rfl ?_
    refine zi_goto (tgt := 77) d_Mo_orders_99 rfl ?_
    refine zi_lo [(0, .ref a0), (1, .int x1), (2, .int (x2 + 1))] [1, 2, 0] rfl ?_
    exact hr77 a0 x1 (x2 + 1) m_24 h
theorem K_Mo_orders_b77 (n : Nat) (E : zE) (S : zS) (a0 : Nat) (x1 : Int32) (x2 : Int32) (M : zH) (r : Int32) (M' : zH)  (h : F_Mo_orders_b77 n E S (a0, x1, x2, M) = some (r, M')) : zG E Y_Mo_orders (some (.int r), S, M') 77 [(0, .ref a0), (1, .int x1), (2, .int x2)] [] S M 0 0 := by
  have key : ∀ (k : Nat) (a0 : Nat) (x1 : Int32) (x2 : Int32) (M : zH), zfix (fun r77 s => F_Mo_orders_L77 n E S r77 s.1 s.2.1 s.2.2.1 s.2.2.2) k (a0, x1, x2, M) = some (r, M') → zG E Y_Mo_orders (some (.int r), S, M') 77 [(0, .ref a0), (1, .int x1), (2, .int x2)] [] S M 0 0 := by
    intro k
    induction k with
    | zero => intro a0 x1 x2 M h; cases h
    | succ k ih => intro a0 x1 x2 M h; exact K_Mo_orders_L77 n E S _ a0 x1 x2 M r M'  (fun a0 x1 x2 M h => ih a0 x1 x2 M h) h
  exact key n a0 x1 x2 M h
theorem K_Mo_orders_b46 (n : Nat) (E : zE) (S : zS) (a0 : Nat) (M : zH) (r : Int32) (M' : zH)  (h : F_Mo_orders_b46 n E S a0 M = some (r, M')) : zG E Y_Mo_orders (some (.int r), S, M') 46 [(0, .ref a0)] [] S M 0 0 := by
  unfold F_Mo_orders_b46 at h
  refine zi_aload_n 0 d_Mo_orders_46 rfl ?_
  obtain ⟨u_25, eu_25, h⟩ := zbind h
  obtain ⟨q_26, eq_26, h⟩ := zbind h
  refine zo_virt (k' := 0) (n' := 0) 50 [] [] [] zkd_11 (zck_s eu_25) (C_Mo_endText n E S a0 M q_26 eq_26) d_Mo_orders_47 tw_1680 tw_1677 tw_1679 ts_76 tw_13 dd_Mo_endText ⟨Nat.le_of_ble_eq_true rfl, Nat.le_of_ble_eq_true rfl, Nat.le_of_ble_eq_true rfl, Nat.le_of_ble_eq_true rfl⟩ (Nat.le_of_ble_eq_true rfl) rfl rfl rfl rfl ?_
  refine zi_aload_n 0 d_Mo_orders_50 rfl ?_
  obtain ⟨v_27, ev_27, h⟩ := zbind h
  refine zo_getI 54 zkd_11 19 d_Mo_orders_51 ev_27 rfl tw_1248 rfl ?_
  refine zi_if_eq (tgt := 64) d_Mo_orders_54 rfl (fun c_28 => ?_) (fun c_28 => ?_)
  · rw [if_pos c_28] at h
    refine zi_aload_n 0 d_Mo_orders_64 rfl ?_
    refine zi_bipush 17 d_Mo_orders_65 rfl ?_
    obtain ⟨q_29, eq_29, h⟩ := zbind h
    refine zo_virt (k' := 0) (n' := 0) 70 [.int 17] [] [] zkd_11 (zck_s eu_25) (C_Mo_keepAll n E S a0 17 q_26 q_29 eq_29) d_Mo_orders_67 tw_1704 tw_1701 tw_1703 ts_80 tw_13 dd_Mo_keepAll ⟨Nat.le_of_ble_eq_true rfl, Nat.le_of_ble_eq_true rfl, Nat.le_of_ble_eq_true rfl, Nat.le_of_ble_eq_true rfl⟩ (Nat.le_of_ble_eq_true rfl) rfl rfl rfl rfl ?_
    refine zi_aload_n 0 d_Mo_orders_70 rfl ?_
    obtain ⟨v_30, ev_30, h⟩ := zbind h
    refine zo_getI 74 zkd_11 8 d_Mo_orders_71 ev_30 rfl tw_1237 rfl ?_
    refine zi_istore_n [(1, .int v_30), (0, .ref a0)] d_Mo_orders_74 (by decide) rfl ?_
    refine zi_iconst 0 d_Mo_orders_75 rfl ?_
    refine zi_istore_n [(2, .int 0), (1, .int v_30), (0, .ref a0)] d_Mo_orders_76 (by decide) rfl ?_
    refine zi_lo [(0, .ref a0), (1, .int v_30), (2, .int 0)] [2, 1, 0] rfl ?_
    exact K_Mo_orders_b77 n E S a0 v_30 0 q_29 r M'  h
  · rw [if_neg c_28] at h
    refine zi_aload_n 0 d_Mo_orders_57 rfl ?_
    refine zi_bipush (-6) d_Mo_orders_58 rfl ?_
    obtain ⟨q_31, eq_31, h⟩ := zbind h
    refine zo_virt (k' := 0) (n' := 0) 63 [.int (-6)] [] [.int q_31.1] zkd_11 (zck_s eu_25) (C_Mo_tell n E S a0 (-6) q_26 q_31.1 q_31.2 eq_31) d_Mo_orders_60 tw_1408 tw_1405 tw_1407 ts_36 tw_13 dd_Mo_tell ⟨Nat.le_of_ble_eq_true rfl, Nat.le_of_ble_eq_true rfl, Nat.le_of_ble_eq_true rfl, Nat.le_of_ble_eq_true rfl⟩ (Nat.le_of_ble_eq_true rfl) rfl rfl rfl rfl ?_
    cases h
    exact zo_ret d_Mo_orders_63 (Nat.le_of_ble_eq_true rfl) (Nat.le_of_ble_eq_true rfl) rfl
theorem K_Mo_orders_L19 (n : Nat) (E : zE) (S : zS) (r19 : Nat × zH → Option (Int32 × zH)) (a0 : Nat) (M : zH) (r : Int32) (M' : zH) (hr19 : ∀ (a0 : Nat) (M : zH), r19 (a0, M) = some (r, M') → zG E Y_Mo_orders (some (.int r), S, M') 19 [(0, .ref a0)] [] S M 0 0) (h : F_Mo_orders_L19 n E S r19 a0 M = some (r, M')) : zG E Y_Mo_orders (some (.int r), S, M') 19 [(0, .ref a0)] [] S M 0 0 := by
  unfold F_Mo_orders_L19 at h
  refine zi_aload_n 0 d_Mo_orders_19 rfl ?_
  obtain ⟨v_32, ev_32, h⟩ := zbind h
  refine zo_getI 23 zkd_11 19 d_Mo_orders_20 ev_32 rfl tw_1248 rfl ?_
  refine zi_if_ne (tgt := 46) d_Mo_orders_23 rfl (fun c_33 => ?_) (fun c_33 => ?_)
  · rw [if_neg c_33] at h
    refine zi_lo [(0, .ref a0)] [0] rfl ?_
    exact K_Mo_orders_b46 n E S a0 M r M'  h
  · rw [if_pos c_33] at h
    refine zi_aload_n 0 d_Mo_orders_26 rfl ?_
    refine zi_bipush 59 d_Mo_orders_27 rfl ?_
    obtain ⟨q_34, eq_34, h⟩ := zbind h
    refine zo_virt (k' := 0) (n' := 0) 32 [.int 59] [] [.int (bI q_34.1)] zkd_11 (zgI_s ev_32).1 (C_Mo_isSign n E S a0 59 M q_34.1 q_34.2 eq_34) d_Mo_orders_29 tw_1616 tw_1613 tw_1615 ts_63 tw_13 dd_Mo_isSign ⟨Nat.le_of_ble_eq_true rfl, Nat.le_of_ble_eq_true rfl, Nat.le_of_ble_eq_true rfl, Nat.le_of_ble_eq_true rfl⟩ (Nat.le_of_ble_eq_true rfl) rfl rfl rfl rfl ?_
    refine zo_ifeqB d_Mo_orders_32 rfl 35 rfl (fun c_35 => ?_) (fun c_35 => ?_)
    · rw [if_neg c_35] at h
      refine zi_lo [(0, .ref a0)] [0] rfl ?_
      exact K_Mo_orders_b46 n E S a0 q_34.2 r M'  h
    · rw [if_pos c_35] at h
      refine zi_aload_n 0 d_Mo_orders_35 rfl ?_
      obtain ⟨q_36, eq_36, h⟩ := zbind h
      refine zo_virt (k' := 0) (n' := 0) 39 [] [] [] zkd_11 (zgI_s ev_32).1 (C_Mo_next n E S a0 q_34.2 q_36 eq_36) d_Mo_orders_36 tw_1577 tw_1574 tw_1576 ts_56 tw_13 dd_Mo_next ⟨Nat.le_of_ble_eq_true rfl, Nat.le_of_ble_eq_true rfl, Nat.le_of_ble_eq_true rfl, Nat.le_of_ble_eq_true rfl⟩ (Nat.le_of_ble_eq_true rfl) rfl rfl rfl rfl ?_
      refine zi_aload_n 0 d_Mo_orders_39 rfl ?_
      obtain ⟨q_37, eq_37, h⟩ := zbind h
      refine zo_virt (k' := 0) (n' := 0) 43 [] [] [] zkd_11 (zgI_s ev_32).1 (C_Mo_readOrder n E S a0 q_36 q_37 eq_37) d_Mo_orders_40 tw_1851 tw_1848 tw_1850 ts_96 tw_13 dd_Mo_readOrder ⟨Nat.le_of_ble_eq_true rfl, Nat.le_of_ble_eq_true rfl, Nat.le_of_ble_eq_true rfl, Nat.le_of_ble_eq_true rfl⟩ (Nat.le_of_ble_eq_true rfl) rfl rfl rfl rfl ?_
      refine zi_goto (tgt := 19) d_Mo_orders_43 rfl ?_
      refine zi_lo [(0, .ref a0)] [0] rfl ?_
      exact hr19 a0 q_37 h
theorem K_Mo_orders_b19 (n : Nat) (E : zE) (S : zS) (a0 : Nat) (M : zH) (r : Int32) (M' : zH)  (h : F_Mo_orders_b19 n E S (a0, M) = some (r, M')) : zG E Y_Mo_orders (some (.int r), S, M') 19 [(0, .ref a0)] [] S M 0 0 := by
  have key : ∀ (k : Nat) (a0 : Nat) (M : zH), zfix (fun r19 s => F_Mo_orders_L19 n E S r19 s.1 s.2) k (a0, M) = some (r, M') → zG E Y_Mo_orders (some (.int r), S, M') 19 [(0, .ref a0)] [] S M 0 0 := by
    intro k
    induction k with
    | zero => intro a0 M h; cases h
    | succ k ih => intro a0 M h; exact K_Mo_orders_L19 n E S _ a0 M r M'  (fun a0 M h => ih a0 M h) h
  exact key n a0 M h
theorem K_Mo_orders (n : Nat) (E : zE) (S : zS) (a0 : Nat) (M : zH) (r : Int32) (M' : zH)  (h : F_Mo_orders n E S a0 M = some (r, M')) : zG E Y_Mo_orders (some (.int r), S, M') 0 [(0, .ref a0)] [] S M 0 0 := by
  unfold F_Mo_orders at h
  refine zi_aload_n 0 d_Mo_orders_0 rfl ?_
  refine zi_iconst 0 d_Mo_orders_1 rfl ?_
  obtain ⟨m_38, em_38, h⟩ := zbind h
  refine zo_putI 5 zkd_11 0 d_Mo_orders_2 em_38 rfl rfl rfl tw_1229 rfl ?_
  refine zi_aload_n 0 d_Mo_orders_5 rfl ?_
  refine zi_iconst (-1) d_Mo_orders_6 rfl ?_
  obtain ⟨m_39, em_39, h⟩ := zbind h
  refine zo_putI 10 zkd_11 52 d_Mo_orders_7 em_39 rfl rfl rfl tw_1281 rfl ?_
  refine zi_aload_n 0 d_Mo_orders_10 rfl ?_
  refine zi_iconst 1 d_Mo_orders_11 rfl ?_
  obtain ⟨u_40, eu_40, h⟩ := zbind h
  obtain ⟨q_41, eq_41, h⟩ := zbind h
  refine zo_virt (k' := 0) (n' := 0) 15 [.int 1] [] [] zkd_11 (zck_s eu_40) (C_Mo_beginText n E S a0 1 m_39 q_41 eq_41) d_Mo_orders_12 tw_1569 tw_1566 tw_1568 ts_54 tw_13 dd_Mo_beginText ⟨Nat.le_of_ble_eq_true rfl, Nat.le_of_ble_eq_true rfl, Nat.le_of_ble_eq_true rfl, Nat.le_of_ble_eq_true rfl⟩ (Nat.le_of_ble_eq_true rfl) rfl rfl rfl rfl ?_
  refine zi_aload_n 0 d_Mo_orders_15 rfl ?_
  obtain ⟨q_42, eq_42, h⟩ := zbind h
  refine zo_virt (k' := 0) (n' := 0) 19 [] [] [] zkd_11 (zck_s eu_40) (C_Mo_readOrder n E S a0 q_41 q_42 eq_42) d_Mo_orders_16 tw_1851 tw_1848 tw_1850 ts_96 tw_13 dd_Mo_readOrder ⟨Nat.le_of_ble_eq_true rfl, Nat.le_of_ble_eq_true rfl, Nat.le_of_ble_eq_true rfl, Nat.le_of_ble_eq_true rfl⟩ (Nat.le_of_ble_eq_true rfl) rfl rfl rfl rfl ?_
  refine zi_lo [(0, .ref a0)] [0] rfl ?_
  exact K_Mo_orders_b19 n E S a0 q_42 r M'  h
theorem C_Mo_orders (n : Nat) (E : zE) (S : zS) (a0 : Nat) (M : zH) (r : Int32) (M' : zH) (h : F_Mo_orders n E S a0 M = some (r, M')) : zC E Y_Mo_orders [.ref a0] S M (some (.int r), S, M') :=
  zC.of (Or.inl (show plainName "NightColanderModel" = true by decide)) (Nat.le_of_ble_eq_true rfl) (trivial) (K_Mo_orders n E S a0 M r M' h)
theorem d_Mo_stopped_0 : decode (yB Y_Mo_stopped) 0 = .ok (.aload_n 0, 1) := by decide +kernel
theorem d_Mo_stopped_1 : decode (yB Y_Mo_stopped) 1 = .ok (.iconst 0, 1) := by decide +kernel
theorem d_Mo_stopped_2 : decode (yB Y_Mo_stopped) 2 = .ok (.putfield 156, 3) := by decide +kernel
theorem d_Mo_stopped_5 : decode (yB Y_Mo_stopped) 5 = .ok (.aload_n 0, 1) := by decide +kernel
theorem d_Mo_stopped_6 : decode (yB Y_Mo_stopped) 6 = .ok (.getfield 147, 3) := by decide +kernel
theorem d_Mo_stopped_9 : decode (yB Y_Mo_stopped) 9 = .ok (.ireturn, 1) := by decide +kernel
def F_Mo_stopped (n : Nat) (E : zE) (S : zS) (a0 : Nat) (M : zH) : Option (Int32 × zH) :=
  (zpI S M a0 11 0 0).bind fun m_1 =>
  (zgI S m_1 a0 11 52).bind fun v_2 =>
  some (v_2, m_1)
theorem K_Mo_stopped (n : Nat) (E : zE) (S : zS) (a0 : Nat) (M : zH) (r : Int32) (M' : zH)  (h : F_Mo_stopped n E S a0 M = some (r, M')) : zG E Y_Mo_stopped (some (.int r), S, M') 0 [(0, .ref a0)] [] S M 0 0 := by
  unfold F_Mo_stopped at h
  refine zi_aload_n 0 d_Mo_stopped_0 rfl ?_
  refine zi_iconst 0 d_Mo_stopped_1 rfl ?_
  obtain ⟨m_1, em_1, h⟩ := zbind h
  refine zo_putI 5 zkd_11 0 d_Mo_stopped_2 em_1 rfl rfl rfl tw_1229 rfl ?_
  refine zi_aload_n 0 d_Mo_stopped_5 rfl ?_
  obtain ⟨v_2, ev_2, h⟩ := zbind h
  refine zo_getI 9 zkd_11 52 d_Mo_stopped_6 ev_2 rfl tw_1281 rfl ?_
  cases h
  exact zo_ret d_Mo_stopped_9 (Nat.le_of_ble_eq_true rfl) (Nat.le_of_ble_eq_true rfl) rfl
theorem C_Mo_stopped (n : Nat) (E : zE) (S : zS) (a0 : Nat) (M : zH) (r : Int32) (M' : zH) (h : F_Mo_stopped n E S a0 M = some (r, M')) : zC E Y_Mo_stopped [.ref a0] S M (some (.int r), S, M') :=
  zC.of (Or.inl (show plainName "NightColanderModel" = true by decide)) (Nat.le_of_ble_eq_true rfl) (trivial) (K_Mo_stopped n E S a0 M r M' h)
theorem d_Mo_draw_0 : decode (yB Y_Mo_draw) 0 = .ok (.aload_n 0, 1) := by decide +kernel
theorem d_Mo_draw_1 : decode (yB Y_Mo_draw) 1 = .ok (.aload_n 0, 1) := by decide +kernel
theorem d_Mo_draw_2 : decode (yB Y_Mo_draw) 2 = .ok (.getfield 541, 3) := by decide +kernel
theorem d_Mo_draw_5 : decode (yB Y_Mo_draw) 5 = .ok (.ldc2_w 544, 3) := by decide +kernel
theorem d_Mo_draw_8 : decode (yB Y_Mo_draw) 8 = .ok (.lmul, 1) := by decide +kernel
theorem d_Mo_draw_9 : decode (yB Y_Mo_draw) 9 = .ok (.ldc2_w 546, 3) := by decide +kernel
theorem d_Mo_draw_12 : decode (yB Y_Mo_draw) 12 = .ok (.ladd, 1) := by decide +kernel
theorem d_Mo_draw_13 : decode (yB Y_Mo_draw) 13 = .ok (.ldc2_w 548, 3) := by decide +kernel
theorem d_Mo_draw_16 : decode (yB Y_Mo_draw) 16 = .ok (.lrem, 1) := by decide +kernel
theorem d_Mo_draw_17 : decode (yB Y_Mo_draw) 17 = .ok (.putfield 541, 3) := by decide +kernel
theorem d_Mo_draw_20 : decode (yB Y_Mo_draw) 20 = .ok (.aload_n 0, 1) := by decide +kernel
theorem d_Mo_draw_21 : decode (yB Y_Mo_draw) 21 = .ok (.getfield 541, 3) := by decide +kernel
theorem d_Mo_draw_24 : decode (yB Y_Mo_draw) 24 = .ok (.iload_n 1, 1) := by decide +kernel
theorem d_Mo_draw_25 : decode (yB Y_Mo_draw) 25 = .ok (.i2l, 1) := by decide +kernel
theorem d_Mo_draw_26 : decode (yB Y_Mo_draw) 26 = .ok (.lrem, 1) := by decide +kernel
theorem d_Mo_draw_27 : decode (yB Y_Mo_draw) 27 = .ok (.l2i, 1) := by decide +kernel
theorem d_Mo_draw_28 : decode (yB Y_Mo_draw) 28 = .ok (.ireturn, 1) := by decide +kernel
def F_Mo_draw (n : Nat) (E : zE) (S : zS) (a0 : Nat) (x1 : Int32) (M : zH) : Option (Int32 × zH) :=
  (zgJ S M a0 11 54).bind fun v_1 =>
  (zremJ ((v_1 * 1103) + 12345) 1000003).bind fun v_2 =>
  (zpJ S M a0 11 54 v_2).bind fun m_3 =>
  (zgJ S m_3 a0 11 54).bind fun v_4 =>
  (zremJ v_4 x1.toInt64).bind fun v_5 =>
  some (v_5.toInt32, m_3)
theorem K_Mo_draw (n : Nat) (E : zE) (S : zS) (a0 : Nat) (x1 : Int32) (M : zH) (r : Int32) (M' : zH)  (h : F_Mo_draw n E S a0 x1 M = some (r, M')) : zG E Y_Mo_draw (some (.int r), S, M') 0 [(0, .ref a0), (1, .int x1)] [] S M 0 0 := by
  unfold F_Mo_draw at h
  refine zi_aload_n 0 d_Mo_draw_0 rfl ?_
  refine zi_aload_n 0 d_Mo_draw_1 rfl ?_
  obtain ⟨v_1, ev_1, h⟩ := zbind h
  refine zo_getJ 5 zkd_11 54 d_Mo_draw_2 ev_1 rfl tw_1283 rfl ?_
  refine zi_ldc2 d_Mo_draw_5 tw_1892 ?_
  refine zi_lmul d_Mo_draw_8 ?_
  refine zi_ldc2 d_Mo_draw_9 tw_1893 ?_
  refine zi_ladd d_Mo_draw_12 ?_
  refine zi_ldc2 d_Mo_draw_13 tw_1894 ?_
  obtain ⟨v_2, ev_2, h⟩ := zbind h
  refine zo_lrem 17 d_Mo_draw_16 ev_2 rfl ?_
  obtain ⟨m_3, em_3, h⟩ := zbind h
  refine zo_putJ 20 zkd_11 54 d_Mo_draw_17 em_3 rfl rfl rfl tw_1283 rfl ?_
  refine zi_aload_n 0 d_Mo_draw_20 rfl ?_
  obtain ⟨v_4, ev_4, h⟩ := zbind h
  refine zo_getJ 24 zkd_11 54 d_Mo_draw_21 ev_4 rfl tw_1283 rfl ?_
  refine zi_iload_n 1 d_Mo_draw_24 rfl ?_
  refine zi_i2l d_Mo_draw_25 ?_
  obtain ⟨v_5, ev_5, h⟩ := zbind h
  refine zo_lrem 27 d_Mo_draw_26 ev_5 rfl ?_
  refine zi_l2i d_Mo_draw_27 ?_
  cases h
  exact zo_ret d_Mo_draw_28 (Nat.le_of_ble_eq_true rfl) (Nat.le_of_ble_eq_true rfl) rfl
theorem C_Mo_draw (n : Nat) (E : zE) (S : zS) (a0 : Nat) (x1 : Int32) (M : zH) (r : Int32) (M' : zH) (h : F_Mo_draw n E S a0 x1 M = some (r, M')) : zC E Y_Mo_draw [.ref a0, .int x1] S M (some (.int r), S, M') :=
  zC.of (Or.inl (show plainName "NightColanderModel" = true by decide)) (Nat.le_of_ble_eq_true rfl) (trivial) (K_Mo_draw n E S a0 x1 M r M' h)
theorem d_Mo_years_0 : decode (yB Y_Mo_years) 0 = .ok (.aload_n 0, 1) := by decide +kernel
theorem d_Mo_years_1 : decode (yB Y_Mo_years) 1 = .ok (.iconst 0, 1) := by decide +kernel
theorem d_Mo_years_2 : decode (yB Y_Mo_years) 2 = .ok (.putfield 156, 3) := by decide +kernel
theorem d_Mo_years_5 : decode (yB Y_Mo_years) 5 = .ok (.iload_n 1, 1) := by decide +kernel
theorem d_Mo_years_6 : decode (yB Y_Mo_years) 6 = .ok (.i2l, 1) := by decide +kernel
theorem d_Mo_years_7 : decode (yB Y_Mo_years) 7 = .ok (.lconst 0, 1) := by decide +kernel
theorem d_Mo_years_8 : decode (yB Y_Mo_years) 8 = .ok (.ldc2_w 283, 3) := by decide +kernel
theorem d_Mo_years_11 : decode (yB Y_Mo_years) 11 = .ok (.invokestatic 176, 3) := by decide +kernel
theorem d_Mo_years_14 : decode (yB Y_Mo_years) 14 = .ok (.ifCond .eq 15, 3) := by decide +kernel
theorem d_Mo_years_17 : decode (yB Y_Mo_years) 17 = .ok (.iload_n 2, 1) := by decide +kernel
theorem d_Mo_years_18 : decode (yB Y_Mo_years) 18 = .ok (.i2l, 1) := by decide +kernel
theorem d_Mo_years_19 : decode (yB Y_Mo_years) 19 = .ok (.lconst 1, 1) := by decide +kernel
theorem d_Mo_years_20 : decode (yB Y_Mo_years) 20 = .ok (.ldc2_w 550, 3) := by decide +kernel
theorem d_Mo_years_23 : decode (yB Y_Mo_years) 23 = .ok (.invokestatic 176, 3) := by decide +kernel
theorem d_Mo_years_26 : decode (yB Y_Mo_years) 26 = .ok (.ifCond .ne 9, 3) := by decide +kernel
theorem d_Mo_years_29 : decode (yB Y_Mo_years) 29 = .ok (.aload_n 0, 1) := by decide +kernel
theorem d_Mo_years_30 : decode (yB Y_Mo_years) 30 = .ok (.iconst (-1), 1) := by decide +kernel
theorem d_Mo_years_31 : decode (yB Y_Mo_years) 31 = .ok (.invokevirtual 165, 3) := by decide +kernel
theorem d_Mo_years_34 : decode (yB Y_Mo_years) 34 = .ok (.ireturn, 1) := by decide +kernel
theorem d_Mo_years_35 : decode (yB Y_Mo_years) 35 = .ok (.aload_n 0, 1) := by decide +kernel
theorem d_Mo_years_36 : decode (yB Y_Mo_years) 36 = .ok (.bipush 16, 2) := by decide +kernel
theorem d_Mo_years_38 : decode (yB Y_Mo_years) 38 = .ok (.invokevirtual 169, 3) := by decide +kernel
theorem d_Mo_years_41 : decode (yB Y_Mo_years) 41 = .ok (.aload_n 0, 1) := by decide +kernel
theorem d_Mo_years_42 : decode (yB Y_Mo_years) 42 = .ok (.iload_n 1, 1) := by decide +kernel
theorem d_Mo_years_43 : decode (yB Y_Mo_years) 43 = .ok (.i2l, 1) := by decide +kernel
theorem d_Mo_years_44 : decode (yB Y_Mo_years) 44 = .ok (.putfield 541, 3) := by decide +kernel
theorem d_Mo_years_47 : decode (yB Y_Mo_years) 47 = .ok (.iconst 0, 1) := by decide +kernel
theorem d_Mo_years_48 : decode (yB Y_Mo_years) 48 = .ok (.istore_n 3, 1) := by decide +kernel
theorem d_Mo_years_49 : decode (yB Y_Mo_years) 49 = .ok (.iconst 0, 1) := by decide +kernel
theorem d_Mo_years_50 : decode (yB Y_Mo_years) 50 = .ok (.istore 4, 2) := by decide +kernel
theorem d_Mo_years_52 : decode (yB Y_Mo_years) 52 = .ok (.iload 4, 2) := by decide +kernel
theorem d_Mo_years_54 : decode (yB Y_Mo_years) 54 = .ok (.iload_n 2, 1) := by decide +kernel
theorem d_Mo_years_55 : decode (yB Y_Mo_years) 55 = .ok (.if_icmp .ge 127, 3) := by decide +kernel
theorem d_Mo_years_58 : decode (yB Y_Mo_years) 58 = .ok (.aload_n 0, 1) := by decide +kernel
theorem d_Mo_years_59 : decode (yB Y_Mo_years) 59 = .ok (.getfield 13, 3) := by decide +kernel
theorem d_Mo_years_62 : decode (yB Y_Mo_years) 62 = .ok (.iconst 4, 1) := by decide +kernel
theorem d_Mo_years_63 : decode (yB Y_Mo_years) 63 = .ok (.iaload, 1) := by decide +kernel
theorem d_Mo_years_64 : decode (yB Y_Mo_years) 64 = .ok (.sipush 999, 3) := by decide +kernel
theorem d_Mo_years_67 : decode (yB Y_Mo_years) 67 = .ok (.if_icmp .ge 115, 3) := by decide +kernel
theorem d_Mo_years_70 : decode (yB Y_Mo_years) 70 = .ok (.aload_n 0, 1) := by decide +kernel
theorem d_Mo_years_71 : decode (yB Y_Mo_years) 71 = .ok (.iconst 4, 1) := by decide +kernel
theorem d_Mo_years_72 : decode (yB Y_Mo_years) 72 = .ok (.invokevirtual 552, 3) := by decide +kernel
theorem d_Mo_years_75 : decode (yB Y_Mo_years) 75 = .ok (.istore 5, 2) := by decide +kernel
theorem d_Mo_years_77 : decode (yB Y_Mo_years) 77 = .ok (.aload_n 0, 1) := by decide +kernel
theorem d_Mo_years_78 : decode (yB Y_Mo_years) 78 = .ok (.bipush 8, 2) := by decide +kernel
theorem d_Mo_years_80 : decode (yB Y_Mo_years) 80 = .ok (.invokevirtual 552, 3) := by decide +kernel
theorem d_Mo_years_83 : decode (yB Y_Mo_years) 83 = .ok (.istore 6, 2) := by decide +kernel
theorem d_Mo_years_85 : decode (yB Y_Mo_years) 85 = .ok (.aload_n 0, 1) := by decide +kernel
theorem d_Mo_years_86 : decode (yB Y_Mo_years) 86 = .ok (.iconst 3, 1) := by decide +kernel
theorem d_Mo_years_87 : decode (yB Y_Mo_years) 87 = .ok (.invokevirtual 552, 3) := by decide +kernel
theorem d_Mo_years_90 : decode (yB Y_Mo_years) 90 = .ok (.istore 7, 2) := by decide +kernel
theorem d_Mo_years_92 : decode (yB Y_Mo_years) 92 = .ok (.aload_n 0, 1) := by decide +kernel
theorem d_Mo_years_93 : decode (yB Y_Mo_years) 93 = .ok (.getfield 13, 3) := by decide +kernel
theorem d_Mo_years_96 : decode (yB Y_Mo_years) 96 = .ok (.bipush 44, 2) := by decide +kernel
theorem d_Mo_years_98 : decode (yB Y_Mo_years) 98 = .ok (.iload 5, 2) := by decide +kernel
theorem d_Mo_years_100 : decode (yB Y_Mo_years) 100 = .ok (.iadd, 1) := by decide +kernel
theorem d_Mo_years_101 : decode (yB Y_Mo_years) 101 = .ok (.dup2, 1) := by decide +kernel
theorem d_Mo_years_102 : decode (yB Y_Mo_years) 102 = .ok (.iaload, 1) := by decide +kernel
theorem d_Mo_years_103 : decode (yB Y_Mo_years) 103 = .ok (.iload 7, 2) := by decide +kernel
theorem d_Mo_years_105 : decode (yB Y_Mo_years) 105 = .ok (.ifCond .ne 10, 3) := by decide +kernel
theorem d_Mo_years_108 : decode (yB Y_Mo_years) 108 = .ok (.iconst 1, 1) := by decide +kernel
theorem d_Mo_years_109 : decode (yB Y_Mo_years) 109 = .ok (.iload 6, 2) := by decide +kernel
theorem d_Mo_years_111 : decode (yB Y_Mo_years) 111 = .ok (.ishl, 1) := by decide +kernel
theorem d_Mo_years_112 : decode (yB Y_Mo_years) 112 = .ok (.goto 4, 3) := by decide +kernel
theorem d_Mo_years_115 : decode (yB Y_Mo_years) 115 = .ok (.iconst 0, 1) := by decide +kernel
theorem d_Mo_years_116 : decode (yB Y_Mo_years) 116 = .ok (.ixor, 1) := by decide +kernel
theorem d_Mo_years_117 : decode (yB Y_Mo_years) 117 = .ok (.iastore, 1) := by decide +kernel
theorem d_Mo_years_118 : decode (yB Y_Mo_years) 118 = .ok (.aload_n 0, 1) := by decide +kernel
theorem d_Mo_years_119 : decode (yB Y_Mo_years) 119 = .ok (.getfield 13, 3) := by decide +kernel
theorem d_Mo_years_122 : decode (yB Y_Mo_years) 122 = .ok (.bipush 12, 2) := by decide +kernel
theorem d_Mo_years_124 : decode (yB Y_Mo_years) 124 = .ok (.bipush 8, 2) := by decide +kernel
theorem d_Mo_years_126 : decode (yB Y_Mo_years) 126 = .ok (.iload 5, 2) := by decide +kernel
theorem d_Mo_years_128 : decode (yB Y_Mo_years) 128 = .ok (.imul, 1) := by decide +kernel
theorem d_Mo_years_129 : decode (yB Y_Mo_years) 129 = .ok (.iadd, 1) := by decide +kernel
theorem d_Mo_years_130 : decode (yB Y_Mo_years) 130 = .ok (.iload 6, 2) := by decide +kernel
theorem d_Mo_years_132 : decode (yB Y_Mo_years) 132 = .ok (.iadd, 1) := by decide +kernel
theorem d_Mo_years_133 : decode (yB Y_Mo_years) 133 = .ok (.dup2, 1) := by decide +kernel
theorem d_Mo_years_134 : decode (yB Y_Mo_years) 134 = .ok (.iaload, 1) := by decide +kernel
theorem d_Mo_years_135 : decode (yB Y_Mo_years) 135 = .ok (.iload 7, 2) := by decide +kernel
theorem d_Mo_years_137 : decode (yB Y_Mo_years) 137 = .ok (.iconst 1, 1) := by decide +kernel
theorem d_Mo_years_138 : decode (yB Y_Mo_years) 138 = .ok (.if_icmp .ne 28, 3) := by decide +kernel
theorem d_Mo_years_141 : decode (yB Y_Mo_years) 141 = .ok (.aload_n 0, 1) := by decide +kernel
theorem d_Mo_years_142 : decode (yB Y_Mo_years) 142 = .ok (.getfield 13, 3) := by decide +kernel
theorem d_Mo_years_145 : decode (yB Y_Mo_years) 145 = .ok (.bipush 12, 2) := by decide +kernel
theorem d_Mo_years_147 : decode (yB Y_Mo_years) 147 = .ok (.bipush 8, 2) := by decide +kernel
theorem d_Mo_years_149 : decode (yB Y_Mo_years) 149 = .ok (.iload 5, 2) := by decide +kernel
theorem d_Mo_years_151 : decode (yB Y_Mo_years) 151 = .ok (.imul, 1) := by decide +kernel
theorem d_Mo_years_152 : decode (yB Y_Mo_years) 152 = .ok (.iadd, 1) := by decide +kernel
theorem d_Mo_years_153 : decode (yB Y_Mo_years) 153 = .ok (.iload 6, 2) := by decide +kernel
theorem d_Mo_years_155 : decode (yB Y_Mo_years) 155 = .ok (.iadd, 1) := by decide +kernel
theorem d_Mo_years_156 : decode (yB Y_Mo_years) 156 = .ok (.iaload, 1) := by decide +kernel
theorem d_Mo_years_157 : decode (yB Y_Mo_years) 157 = .ok (.bipush 9, 2) := by decide +kernel
theorem d_Mo_years_159 : decode (yB Y_Mo_years) 159 = .ok (.if_icmp .ge 7, 3) := by decide +kernel
theorem d_Mo_years_162 : decode (yB Y_Mo_years) 162 = .ok (.iconst 1, 1) := by decide +kernel
theorem d_Mo_years_163 : decode (yB Y_Mo_years) 163 = .ok (.goto 4, 3) := by decide +kernel
theorem d_Mo_years_166 : decode (yB Y_Mo_years) 166 = .ok (.iconst 0, 1) := by decide +kernel
theorem d_Mo_years_167 : decode (yB Y_Mo_years) 167 = .ok (.iadd, 1) := by decide +kernel
theorem d_Mo_years_168 : decode (yB Y_Mo_years) 168 = .ok (.iastore, 1) := by decide +kernel
theorem d_Mo_years_169 : decode (yB Y_Mo_years) 169 = .ok (.iload_n 3, 1) := by decide +kernel
theorem d_Mo_years_170 : decode (yB Y_Mo_years) 170 = .ok (.aload_n 0, 1) := by decide +kernel
theorem d_Mo_years_171 : decode (yB Y_Mo_years) 171 = .ok (.invokevirtual 466, 3) := by decide +kernel
theorem d_Mo_years_174 : decode (yB Y_Mo_years) 174 = .ok (.iadd, 1) := by decide +kernel
theorem d_Mo_years_175 : decode (yB Y_Mo_years) 175 = .ok (.istore_n 3, 1) := by decide +kernel
theorem d_Mo_years_176 : decode (yB Y_Mo_years) 176 = .ok (.iinc 4 1, 3) := by decide +kernel
theorem d_Mo_years_179 : decode (yB Y_Mo_years) 179 = .ok (.goto (-127), 3) := by decide +kernel
theorem d_Mo_years_182 : decode (yB Y_Mo_years) 182 = .ok (.iconst 0, 1) := by decide +kernel
theorem d_Mo_years_183 : decode (yB Y_Mo_years) 183 = .ok (.istore 4, 2) := by decide +kernel
theorem d_Mo_years_185 : decode (yB Y_Mo_years) 185 = .ok (.iload 4, 2) := by decide +kernel
theorem d_Mo_years_187 : decode (yB Y_Mo_years) 187 = .ok (.iconst 4, 1) := by decide +kernel
theorem d_Mo_years_188 : decode (yB Y_Mo_years) 188 = .ok (.if_icmp .ge 78, 3) := by decide +kernel
theorem d_Mo_years_191 : decode (yB Y_Mo_years) 191 = .ok (.aload_n 0, 1) := by decide +kernel
theorem d_Mo_years_192 : decode (yB Y_Mo_years) 192 = .ok (.getfield 150, 3) := by decide +kernel
theorem d_Mo_years_195 : decode (yB Y_Mo_years) 195 = .ok (.iload 4, 2) := by decide +kernel
theorem d_Mo_years_197 : decode (yB Y_Mo_years) 197 = .ok (.iconst 0, 1) := by decide +kernel
theorem d_Mo_years_198 : decode (yB Y_Mo_years) 198 = .ok (.iastore, 1) := by decide +kernel
theorem d_Mo_years_199 : decode (yB Y_Mo_years) 199 = .ok (.iconst 0, 1) := by decide +kernel
theorem d_Mo_years_200 : decode (yB Y_Mo_years) 200 = .ok (.istore 5, 2) := by decide +kernel
theorem d_Mo_years_202 : decode (yB Y_Mo_years) 202 = .ok (.iload 5, 2) := by decide +kernel
theorem d_Mo_years_204 : decode (yB Y_Mo_years) 204 = .ok (.bipush 8, 2) := by decide +kernel
theorem d_Mo_years_206 : decode (yB Y_Mo_years) 206 = .ok (.if_icmp .ge 35, 3) := by decide +kernel
theorem d_Mo_years_209 : decode (yB Y_Mo_years) 209 = .ok (.aload_n 0, 1) := by decide +kernel
theorem d_Mo_years_210 : decode (yB Y_Mo_years) 210 = .ok (.getfield 150, 3) := by decide +kernel
theorem d_Mo_years_213 : decode (yB Y_Mo_years) 213 = .ok (.iload 4, 2) := by decide +kernel
theorem d_Mo_years_215 : decode (yB Y_Mo_years) 215 = .ok (.dup2, 1) := by decide +kernel
theorem d_Mo_years_216 : decode (yB Y_Mo_years) 216 = .ok (.iaload, 1) := by decide +kernel
theorem d_Mo_years_217 : decode (yB Y_Mo_years) 217 = .ok (.aload_n 0, 1) := by decide +kernel
theorem d_Mo_years_218 : decode (yB Y_Mo_years) 218 = .ok (.getfield 13, 3) := by decide +kernel
theorem d_Mo_years_221 : decode (yB Y_Mo_years) 221 = .ok (.bipush 12, 2) := by decide +kernel
theorem d_Mo_years_223 : decode (yB Y_Mo_years) 223 = .ok (.bipush 8, 2) := by decide +kernel
theorem d_Mo_years_225 : decode (yB Y_Mo_years) 225 = .ok (.iload 4, 2) := by decide +kernel
theorem d_Mo_years_227 : decode (yB Y_Mo_years) 227 = .ok (.imul, 1) := by decide +kernel
theorem d_Mo_years_228 : decode (yB Y_Mo_years) 228 = .ok (.iadd, 1) := by decide +kernel
theorem d_Mo_years_229 : decode (yB Y_Mo_years) 229 = .ok (.iload 5, 2) := by decide +kernel
theorem d_Mo_years_231 : decode (yB Y_Mo_years) 231 = .ok (.iadd, 1) := by decide +kernel
theorem d_Mo_years_232 : decode (yB Y_Mo_years) 232 = .ok (.iaload, 1) := by decide +kernel
theorem d_Mo_years_233 : decode (yB Y_Mo_years) 233 = .ok (.iadd, 1) := by decide +kernel
theorem d_Mo_years_234 : decode (yB Y_Mo_years) 234 = .ok (.iastore, 1) := by decide +kernel
theorem d_Mo_years_235 : decode (yB Y_Mo_years) 235 = .ok (.iinc 5 1, 3) := by decide +kernel
theorem d_Mo_years_238 : decode (yB Y_Mo_years) 238 = .ok (.goto (-36), 3) := by decide +kernel
theorem d_Mo_years_241 : decode (yB Y_Mo_years) 241 = .ok (.aload_n 0, 1) := by decide +kernel
theorem d_Mo_years_242 : decode (yB Y_Mo_years) 242 = .ok (.getfield 150, 3) := by decide +kernel
theorem d_Mo_years_245 : decode (yB Y_Mo_years) 245 = .ok (.iconst 4, 1) := by decide +kernel
theorem d_Mo_years_246 : decode (yB Y_Mo_years) 246 = .ok (.iload 4, 2) := by decide +kernel
theorem d_Mo_years_248 : decode (yB Y_Mo_years) 248 = .ok (.iadd, 1) := by decide +kernel
theorem d_Mo_years_249 : decode (yB Y_Mo_years) 249 = .ok (.aload_n 0, 1) := by decide +kernel
theorem d_Mo_years_250 : decode (yB Y_Mo_years) 250 = .ok (.getfield 13, 3) := by decide +kernel
theorem d_Mo_years_253 : decode (yB Y_Mo_years) 253 = .ok (.bipush 8, 2) := by decide +kernel
theorem d_Mo_years_255 : decode (yB Y_Mo_years) 255 = .ok (.iload 4, 2) := by decide +kernel
theorem d_Mo_years_257 : decode (yB Y_Mo_years) 257 = .ok (.iadd, 1) := by decide +kernel
theorem d_Mo_years_258 : decode (yB Y_Mo_years) 258 = .ok (.iaload, 1) := by decide +kernel
theorem d_Mo_years_259 : decode (yB Y_Mo_years) 259 = .ok (.iastore, 1) := by decide +kernel
theorem d_Mo_years_260 : decode (yB Y_Mo_years) 260 = .ok (.iinc 4 1, 3) := by decide +kernel
theorem d_Mo_years_263 : decode (yB Y_Mo_years) 263 = .ok (.goto (-78), 3) := by decide +kernel
theorem d_Mo_years_266 : decode (yB Y_Mo_years) 266 = .ok (.aload_n 0, 1) := by decide +kernel
theorem d_Mo_years_267 : decode (yB Y_Mo_years) 267 = .ok (.aload_n 0, 1) := by decide +kernel
theorem d_Mo_years_268 : decode (yB Y_Mo_years) 268 = .ok (.getfield 13, 3) := by decide +kernel
theorem d_Mo_years_271 : decode (yB Y_Mo_years) 271 = .ok (.iconst 0, 1) := by decide +kernel
theorem d_Mo_years_272 : decode (yB Y_Mo_years) 272 = .ok (.iaload, 1) := by decide +kernel
theorem d_Mo_years_273 : decode (yB Y_Mo_years) 273 = .ok (.putfield 153, 3) := by decide +kernel
theorem d_Mo_years_276 : decode (yB Y_Mo_years) 276 = .ok (.iconst 0, 1) := by decide +kernel
theorem d_Mo_years_277 : decode (yB Y_Mo_years) 277 = .ok (.istore 4, 2) := by decide +kernel
theorem d_Mo_years_279 : decode (yB Y_Mo_years) 279 = .ok (.iload 4, 2) := by decide +kernel
theorem d_Mo_years_281 : decode (yB Y_Mo_years) 281 = .ok (.aload_n 0, 1) := by decide +kernel
theorem d_Mo_years_282 : decode (yB Y_Mo_years) 282 = .ok (.getfield 153, 3) := by decide +kernel
theorem d_Mo_years_285 : decode (yB Y_Mo_years) 285 = .ok (.if_icmp .ge 29, 3) := by decide +kernel
theorem d_Mo_years_288 : decode (yB Y_Mo_years) 288 = .ok (.aload_n 0, 1) := by decide +kernel
theorem d_Mo_years_289 : decode (yB Y_Mo_years) 289 = .ok (.getfield 150, 3) := by decide +kernel
theorem d_Mo_years_292 : decode (yB Y_Mo_years) 292 = .ok (.bipush 8, 2) := by decide +kernel
theorem d_Mo_years_294 : decode (yB Y_Mo_years) 294 = .ok (.iload 4, 2) := by decide +kernel
theorem d_Mo_years_296 : decode (yB Y_Mo_years) 296 = .ok (.iadd, 1) := by decide +kernel
theorem d_Mo_years_297 : decode (yB Y_Mo_years) 297 = .ok (.aload_n 0, 1) := by decide +kernel
theorem d_Mo_years_298 : decode (yB Y_Mo_years) 298 = .ok (.getfield 13, 3) := by decide +kernel
theorem d_Mo_years_301 : decode (yB Y_Mo_years) 301 = .ok (.bipush 48, 2) := by decide +kernel
theorem d_Mo_years_303 : decode (yB Y_Mo_years) 303 = .ok (.iload 4, 2) := by decide +kernel
theorem d_Mo_years_305 : decode (yB Y_Mo_years) 305 = .ok (.iadd, 1) := by decide +kernel
theorem d_Mo_years_306 : decode (yB Y_Mo_years) 306 = .ok (.iaload, 1) := by decide +kernel
theorem d_Mo_years_307 : decode (yB Y_Mo_years) 307 = .ok (.iastore, 1) := by decide +kernel
theorem d_Mo_years_308 : decode (yB Y_Mo_years) 308 = .ok (.iinc 4 1, 3) := by decide +kernel
theorem d_Mo_years_311 : decode (yB Y_Mo_years) 311 = .ok (.goto (-32), 3) := by decide +kernel
theorem d_Mo_years_314 : decode (yB Y_Mo_years) 314 = .ok (.aload_n 0, 1) := by decide +kernel
theorem d_Mo_years_315 : decode (yB Y_Mo_years) 315 = .ok (.bipush 16, 2) := by decide +kernel
theorem d_Mo_years_317 : decode (yB Y_Mo_years) 317 = .ok (.invokevirtual 173, 3) := by decide +kernel
theorem d_Mo_years_320 : decode (yB Y_Mo_years) 320 = .ok (.aload_n 0, 1) := by decide +kernel
theorem d_Mo_years_321 : decode (yB Y_Mo_years) 321 = .ok (.iload_n 3, 1) := by decide +kernel
theorem d_Mo_years_322 : decode (yB Y_Mo_years) 322 = .ok (.invokevirtual 165, 3) := by decide +kernel
theorem d_Mo_years_325 : decode (yB Y_Mo_years) 325 = .ok (.ireturn, 1) := by decide +kernel
def F_Mo_years_b29 (n : Nat) (E : zE) (S : zS) (a0 : Nat) (M : zH) : Option (Int32 × zH) :=
  (zck S a0 11).bind fun u_1 =>
  (F_Mo_tell n E S a0 (-1) M).bind fun q_2 =>
  some (q_2.1, q_2.2)
def F_Mo_years_b167 (n : Nat) (E : zE) (S : zS) (r52 : Nat × Int32 × Int32 × Int32 × zH → Option (Int32 × zH)) (a0 : Nat) (x2 : Int32) (x3 : Int32) (x4 : Int32) (s0 : Int32) (s1 : Int32) (s2 : Int32) (u3 : Nat) (M : zH) : Option (Int32 × zH) :=
  (zstI S M u3 s2 (s1 + s0)).bind fun m_3 =>
  (zck S a0 11).bind fun u_4 =>
  (F_Mo_passIt n E S a0 m_3).bind fun q_5 =>
  r52 (a0, x2, x3 + q_5.1, x4 + 1, q_5.2)
def F_Mo_years_b166 (n : Nat) (E : zE) (S : zS) (r52 : Nat × Int32 × Int32 × Int32 × zH → Option (Int32 × zH)) (a0 : Nat) (x2 : Int32) (x3 : Int32) (x4 : Int32) (s0 : Int32) (s1 : Int32) (u2 : Nat) (M : zH) : Option (Int32 × zH) :=
  F_Mo_years_b167 n E S r52 a0 x2 x3 x4 0 s0 s1 u2 M
def F_Mo_years_b116 (n : Nat) (E : zE) (S : zS) (r52 : Nat × Int32 × Int32 × Int32 × zH → Option (Int32 × zH)) (a0 : Nat) (x2 : Int32) (x3 : Int32) (x4 : Int32) (x5 : Int32) (x6 : Int32) (x7 : Int32) (s0 : Int32) (s1 : Int32) (s2 : Int32) (u3 : Nat) (M : zH) : Option (Int32 × zH) :=
  (zstI S M u3 s2 (s1 ^^^ s0)).bind fun m_6 =>
  (zgR S a0 11 3).bind fun b_7 =>
  (zldI S m_6 b_7 ((12 + (8 * x5)) + x6)).bind fun v_8 =>
  if x7 = 1 then
    (zldI S m_6 b_7 ((12 + (8 * x5)) + x6)).bind fun v_10 =>
    if 9 ≤ v_10 then
      F_Mo_years_b166 n E S r52 a0 x2 x3 x4 v_8 ((12 + (8 * x5)) + x6) b_7 m_6
    else
      F_Mo_years_b167 n E S r52 a0 x2 x3 x4 1 v_8 ((12 + (8 * x5)) + x6) b_7 m_6
  else
    F_Mo_years_b166 n E S r52 a0 x2 x3 x4 v_8 ((12 + (8 * x5)) + x6) b_7 m_6
def F_Mo_years_L202 (n : Nat) (E : zE) (S : zS) (r185 : Nat × Int32 × Int32 × zH → Option (Int32 × zH)) (r202 : Nat × Int32 × Int32 × Int32 × zH → Option (Int32 × zH)) (a0 : Nat) (x3 : Int32) (x4 : Int32) (x5 : Int32) (M : zH) : Option (Int32 × zH) :=
  if 8 ≤ x5 then
    (zgR S a0 11 55).bind fun b_13 =>
    (zgR S a0 11 3).bind fun b_14 =>
    (zldI S M b_14 (8 + x4)).bind fun v_15 =>
    (zstI S M b_13 (4 + x4) v_15).bind fun m_16 =>
    r185 (a0, x3, x4 + 1, m_16)
  else
    (zgR S a0 11 55).bind fun b_17 =>
    (zldI S M b_17 x4).bind fun v_18 =>
    (zgR S a0 11 3).bind fun b_19 =>
    (zldI S M b_19 ((12 + (8 * x4)) + x5)).bind fun v_20 =>
    (zstI S M b_17 x4 (v_18 + v_20)).bind fun m_21 =>
    r202 (a0, x3, x4, x5 + 1, m_21)
def F_Mo_years_b202 (n : Nat) (E : zE) (S : zS) (r185 : Nat × Int32 × Int32 × zH → Option (Int32 × zH)) : Nat × Int32 × Int32 × Int32 × zH → Option (Int32 × zH) := zfix (fun r202 s => F_Mo_years_L202 n E S r185 r202 s.1 s.2.1 s.2.2.1 s.2.2.2.1 s.2.2.2.2) n
def F_Mo_years_L279 (n : Nat) (E : zE) (S : zS) (r279 : Nat × Int32 × Int32 × zH → Option (Int32 × zH)) (a0 : Nat) (x3 : Int32) (x4 : Int32) (M : zH) : Option (Int32 × zH) :=
  (zgI S M a0 11 56).bind fun v_22 =>
  if v_22 ≤ x4 then
    (F_Mo_putBack n E S a0 16 M).bind fun q_24 =>
    (F_Mo_tell n E S a0 x3 q_24).bind fun q_25 =>
    some (q_25.1, q_25.2)
  else
    (zgR S a0 11 55).bind fun b_26 =>
    (zgR S a0 11 3).bind fun b_27 =>
    (zldI S M b_27 (48 + x4)).bind fun v_28 =>
    (zstI S M b_26 (8 + x4) v_28).bind fun m_29 =>
    r279 (a0, x3, x4 + 1, m_29)
def F_Mo_years_b279 (n : Nat) (E : zE) (S : zS) : Nat × Int32 × Int32 × zH → Option (Int32 × zH) := zfix (fun r279 s => F_Mo_years_L279 n E S r279 s.1 s.2.1 s.2.2.1 s.2.2.2) n
def F_Mo_years_L185 (n : Nat) (E : zE) (S : zS) (r185 : Nat × Int32 × Int32 × zH → Option (Int32 × zH)) (a0 : Nat) (x3 : Int32) (x4 : Int32) (M : zH) : Option (Int32 × zH) :=
  if 4 ≤ x4 then
    (zgR S a0 11 3).bind fun b_31 =>
    (zldI S M b_31 0).bind fun v_32 =>
    (zpI S M a0 11 56 v_32).bind fun m_33 =>
    F_Mo_years_b279 n E S (a0, x3, 0, m_33)
  else
    (zgR S a0 11 55).bind fun b_34 =>
    (zstI S M b_34 x4 0).bind fun m_35 =>
    F_Mo_years_b202 n E S r185 (a0, x3, x4, 0, m_35)
def F_Mo_years_b185 (n : Nat) (E : zE) (S : zS) : Nat × Int32 × Int32 × zH → Option (Int32 × zH) := zfix (fun r185 s => F_Mo_years_L185 n E S r185 s.1 s.2.1 s.2.2.1 s.2.2.2) n
def F_Mo_years_b182 (n : Nat) (E : zE) (S : zS) (a0 : Nat) (x3 : Int32) (M : zH) : Option (Int32 × zH) :=
  F_Mo_years_b185 n E S (a0, x3, 0, M)
def F_Mo_years_L52 (n : Nat) (E : zE) (S : zS) (r52 : Nat × Int32 × Int32 × Int32 × zH → Option (Int32 × zH)) (a0 : Nat) (x2 : Int32) (x3 : Int32) (x4 : Int32) (M : zH) : Option (Int32 × zH) :=
  if x2 ≤ x4 then
    F_Mo_years_b182 n E S a0 x3 M
  else
    (zgR S a0 11 3).bind fun b_37 =>
    (zldI S M b_37 4).bind fun v_38 =>
    if 999 ≤ v_38 then
      F_Mo_years_b182 n E S a0 x3 M
    else
      (F_Mo_draw n E S a0 4 M).bind fun q_40 =>
      (F_Mo_draw n E S a0 8 q_40.2).bind fun q_41 =>
      (F_Mo_draw n E S a0 3 q_41.2).bind fun q_42 =>
      (zldI S q_42.2 b_37 (44 + q_40.1)).bind fun v_43 =>
      if q_42.1 = 0 then
        F_Mo_years_b116 n E S r52 a0 x2 x3 x4 q_40.1 q_41.1 q_42.1 ((1 : Int32) <<< (q_41.1 &&& (31 : Int32))) v_43 (44 + q_40.1) b_37 q_42.2
      else
        F_Mo_years_b116 n E S r52 a0 x2 x3 x4 q_40.1 q_41.1 q_42.1 0 v_43 (44 + q_40.1) b_37 q_42.2
def F_Mo_years_b52 (n : Nat) (E : zE) (S : zS) : Nat × Int32 × Int32 × Int32 × zH → Option (Int32 × zH) := zfix (fun r52 s => F_Mo_years_L52 n E S r52 s.1 s.2.1 s.2.2.1 s.2.2.2.1 s.2.2.2.2) n
def F_Mo_years (n : Nat) (E : zE) (S : zS) (a0 : Nat) (x1 : Int32) (x2 : Int32) (M : zH) : Option (Int32 × zH) :=
  (zpI S M a0 11 0 0).bind fun m_45 =>
  (F_Mo_in n E S x1.toInt64 0 1000000 m_45).bind fun q_46 =>
  if q_46.1 = true then
    (F_Mo_in n E S x2.toInt64 1 60 q_46.2).bind fun q_48 =>
    if q_48.1 = true then
      (zck S a0 11).bind fun u_50 =>
      (F_Mo_keepAll n E S a0 16 q_48.2).bind fun q_51 =>
      (zpJ S q_51 a0 11 54 x1.toInt64).bind fun m_52 =>
      F_Mo_years_b52 n E S (a0, x2, 0, 0, m_52)
    else
      F_Mo_years_b29 n E S a0 q_48.2
  else
    F_Mo_years_b29 n E S a0 q_46.2
theorem K_Mo_years_b29 (n : Nat) (E : zE) (S : zS) (a0 : Nat) (M : zH) (r : Int32) (M' : zH)  (h : F_Mo_years_b29 n E S a0 M = some (r, M')) : zG E Y_Mo_years (some (.int r), S, M') 29 [(0, .ref a0)] [] S M 0 0 := by
  unfold F_Mo_years_b29 at h
  refine zi_aload_n 0 d_Mo_years_29 rfl ?_
  refine zi_iconst (-1) d_Mo_years_30 rfl ?_
  obtain ⟨u_1, eu_1, h⟩ := zbind h
  obtain ⟨q_2, eq_2, h⟩ := zbind h
  refine zo_virt (k' := 0) (n' := 0) 34 [.int (-1)] [] [.int q_2.1] zkd_11 (zck_s eu_1) (C_Mo_tell n E S a0 (-1) M q_2.1 q_2.2 eq_2) d_Mo_years_31 tw_1408 tw_1405 tw_1407 ts_36 tw_13 dd_Mo_tell ⟨Nat.le_of_ble_eq_true rfl, Nat.le_of_ble_eq_true rfl, Nat.le_of_ble_eq_true rfl, Nat.le_of_ble_eq_true rfl⟩ (Nat.le_of_ble_eq_true rfl) rfl rfl rfl rfl ?_
  cases h
  exact zo_ret d_Mo_years_34 (Nat.le_of_ble_eq_true rfl) (Nat.le_of_ble_eq_true rfl) rfl
theorem K_Mo_years_b167 (n : Nat) (E : zE) (S : zS) (r52 : Nat × Int32 × Int32 × Int32 × zH → Option (Int32 × zH)) (a0 : Nat) (x2 : Int32) (x3 : Int32) (x4 : Int32) (s0 : Int32) (s1 : Int32) (s2 : Int32) (u3 : Nat) (M : zH) (r : Int32) (M' : zH) (hr52 : ∀ (a0 : Nat) (x2 : Int32) (x3 : Int32) (x4 : Int32) (M : zH), r52 (a0, x2, x3, x4, M) = some (r, M') → zG E Y_Mo_years (some (.int r), S, M') 52 [(0, .ref a0), (2, .int x2), (3, .int x3), (4, .int x4)] [] S M 0 0) (h : F_Mo_years_b167 n E S r52 a0 x2 x3 x4 s0 s1 s2 u3 M = some (r, M')) : zG E Y_Mo_years (some (.int r), S, M') 167 [(0, .ref a0), (2, .int x2), (3, .int x3), (4, .int x4)] [.int s0, .int s1, .int s2, .ref u3] S M 0 0 := by
  unfold F_Mo_years_b167 at h
  refine zi_iadd d_Mo_years_167 ?_
  obtain ⟨m_3, em_3, h⟩ := zbind h
  refine zo_iast 169 d_Mo_years_168 em_3 rfl ?_
  refine zi_iload_n 2 d_Mo_years_169 rfl ?_
  refine zi_aload_n 0 d_Mo_years_170 rfl ?_
  obtain ⟨u_4, eu_4, h⟩ := zbind h
  obtain ⟨q_5, eq_5, h⟩ := zbind h
  refine zo_virt (k' := 0) (n' := 0) 174 [] [.int x3] [.int q_5.1, .int x3] zkd_11 (zck_s eu_4) (C_Mo_passIt n E S a0 m_3 q_5.1 q_5.2 eq_5) d_Mo_years_171 tw_1732 tw_1729 tw_1731 ts_84 tw_13 dd_Mo_passIt ⟨Nat.le_of_ble_eq_true rfl, Nat.le_of_ble_eq_true rfl, Nat.le_of_ble_eq_true rfl, Nat.le_of_ble_eq_true rfl⟩ (Nat.le_of_ble_eq_true rfl) rfl rfl rfl rfl ?_
  refine zi_iadd d_Mo_years_174 ?_
  refine zi_istore_n [(3, .int (x3 + q_5.1)), (0, .ref a0), (2, .int x2), (4, .int x4)] d_Mo_years_175 (by decide) rfl ?_
  refine zi_iinc 3 (x4 + 1) [(4, .int (x4 + 1)), (3, .int (x3 + q_5.1)), (0, .ref a0), (2, .int x2)] d_Mo_years_176 rfl rfl (by decide) rfl ?_
  refine zi_goto (tgt := 52) d_Mo_years_179 rfl ?_
  refine zi_lo [(0, .ref a0), (2, .int x2), (3, .int (x3 + q_5.1)), (4, .int (x4 + 1))] [2, 3, 1, 0] rfl ?_
  exact hr52 a0 x2 (x3 + q_5.1) (x4 + 1) q_5.2 h
theorem K_Mo_years_b166 (n : Nat) (E : zE) (S : zS) (r52 : Nat × Int32 × Int32 × Int32 × zH → Option (Int32 × zH)) (a0 : Nat) (x2 : Int32) (x3 : Int32) (x4 : Int32) (s0 : Int32) (s1 : Int32) (u2 : Nat) (M : zH) (r : Int32) (M' : zH) (hr52 : ∀ (a0 : Nat) (x2 : Int32) (x3 : Int32) (x4 : Int32) (M : zH), r52 (a0, x2, x3, x4, M) = some (r, M') → zG E Y_Mo_years (some (.int r), S, M') 52 [(0, .ref a0), (2, .int x2), (3, .int x3), (4, .int x4)] [] S M 0 0) (h : F_Mo_years_b166 n E S r52 a0 x2 x3 x4 s0 s1 u2 M = some (r, M')) : zG E Y_Mo_years (some (.int r), S, M') 166 [(0, .ref a0), (2, .int x2), (3, .int x3), (4, .int x4)] [.int s0, .int s1, .ref u2] S M 0 0 := by
  unfold F_Mo_years_b166 at h
  refine zi_iconst 0 d_Mo_years_166 rfl ?_
  refine zi_lo [(0, .ref a0), (2, .int x2), (3, .int x3), (4, .int x4)] [0, 1, 2, 3] rfl ?_
  exact K_Mo_years_b167 n E S r52 a0 x2 x3 x4 0 s0 s1 u2 M r M' hr52 h
theorem K_Mo_years_b116 (n : Nat) (E : zE) (S : zS) (r52 : Nat × Int32 × Int32 × Int32 × zH → Option (Int32 × zH)) (a0 : Nat) (x2 : Int32) (x3 : Int32) (x4 : Int32) (x5 : Int32) (x6 : Int32) (x7 : Int32) (s0 : Int32) (s1 : Int32) (s2 : Int32) (u3 : Nat) (M : zH) (r : Int32) (M' : zH) (hr52 : ∀ (a0 : Nat) (x2 : Int32) (x3 : Int32) (x4 : Int32) (M : zH), r52 (a0, x2, x3, x4, M) = some (r, M') → zG E Y_Mo_years (some (.int r), S, M') 52 [(0, .ref a0), (2, .int x2), (3, .int x3), (4, .int x4)] [] S M 0 0) (h : F_Mo_years_b116 n E S r52 a0 x2 x3 x4 x5 x6 x7 s0 s1 s2 u3 M = some (r, M')) : zG E Y_Mo_years (some (.int r), S, M') 116 [(0, .ref a0), (2, .int x2), (3, .int x3), (4, .int x4), (5, .int x5), (6, .int x6), (7, .int x7)] [.int s0, .int s1, .int s2, .ref u3] S M 0 0 := by
  unfold F_Mo_years_b116 at h
  refine zi_ixor d_Mo_years_116 ?_
  obtain ⟨m_6, em_6, h⟩ := zbind h
  refine zo_iast 118 d_Mo_years_117 em_6 rfl ?_
  refine zi_aload_n 0 d_Mo_years_118 rfl ?_
  obtain ⟨b_7, eb_7, h⟩ := zbind h
  refine zo_getR 122 zkd_11 3 d_Mo_years_119 eb_7 rfl tw_1232 rfl ?_
  refine zi_bipush 12 d_Mo_years_122 rfl ?_
  refine zi_bipush 8 d_Mo_years_124 rfl ?_
  refine zi_iload 4 d_Mo_years_126 rfl ?_
  refine zi_imul d_Mo_years_128 ?_
  refine zi_iadd d_Mo_years_129 ?_
  refine zi_iload 5 d_Mo_years_130 rfl ?_
  refine zi_iadd d_Mo_years_132 ?_
  refine zi_dup2 d_Mo_years_133 rfl rfl ?_
  obtain ⟨v_8, ev_8, h⟩ := zbind h
  refine zo_iald 135 d_Mo_years_134 ev_8 rfl ?_
  refine zi_iload 6 d_Mo_years_135 rfl ?_
  refine zi_iconst 1 d_Mo_years_137 rfl ?_
  refine zi_icmp_ne (tgt := 166) d_Mo_years_138 rfl (fun c_9 => ?_) (fun c_9 => ?_)
  · rw [if_neg c_9] at h
    refine zi_lo [(0, .ref a0), (2, .int x2), (3, .int x3), (4, .int x4)] [0, 1, 2, 3] rfl ?_
    exact K_Mo_years_b166 n E S r52 a0 x2 x3 x4 v_8 ((12 + (8 * x5)) + x6) b_7 m_6 r M' hr52 h
  · rw [if_pos c_9] at h
    refine zi_aload_n 0 d_Mo_years_141 rfl ?_
    refine zo_getR 145 zkd_11 3 d_Mo_years_142 eb_7 rfl tw_1232 rfl ?_
    refine zi_bipush 12 d_Mo_years_145 rfl ?_
    refine zi_bipush 8 d_Mo_years_147 rfl ?_
    refine zi_iload 4 d_Mo_years_149 rfl ?_
    refine zi_imul d_Mo_years_151 ?_
    refine zi_iadd d_Mo_years_152 ?_
    refine zi_iload 5 d_Mo_years_153 rfl ?_
    refine zi_iadd d_Mo_years_155 ?_
    obtain ⟨v_10, ev_10, h⟩ := zbind h
    refine zo_iald 157 d_Mo_years_156 ev_10 rfl ?_
    refine zi_bipush 9 d_Mo_years_157 rfl ?_
    refine zi_icmp_ge (tgt := 166) d_Mo_years_159 rfl (fun c_11 => ?_) (fun c_11 => ?_)
    · rw [if_pos c_11] at h
      refine zi_lo [(0, .ref a0), (2, .int x2), (3, .int x3), (4, .int x4)] [0, 1, 2, 3] rfl ?_
      exact K_Mo_years_b166 n E S r52 a0 x2 x3 x4 v_8 ((12 + (8 * x5)) + x6) b_7 m_6 r M' hr52 h
    · rw [if_neg c_11] at h
      refine zi_iconst 1 d_Mo_years_162 rfl ?_
      refine zi_goto (tgt := 167) d_Mo_years_163 rfl ?_
      refine zi_lo [(0, .ref a0), (2, .int x2), (3, .int x3), (4, .int x4)] [0, 1, 2, 3] rfl ?_
      exact K_Mo_years_b167 n E S r52 a0 x2 x3 x4 1 v_8 ((12 + (8 * x5)) + x6) b_7 m_6 r M' hr52 h
theorem K_Mo_years_L202 (n : Nat) (E : zE) (S : zS) (r185 : Nat × Int32 × Int32 × zH → Option (Int32 × zH)) (r202 : Nat × Int32 × Int32 × Int32 × zH → Option (Int32 × zH)) (a0 : Nat) (x3 : Int32) (x4 : Int32) (x5 : Int32) (M : zH) (r : Int32) (M' : zH) (hr185 : ∀ (a0 : Nat) (x3 : Int32) (x4 : Int32) (M : zH), r185 (a0, x3, x4, M) = some (r, M') → zG E Y_Mo_years (some (.int r), S, M') 185 [(0, .ref a0), (3, .int x3), (4, .int x4)] [] S M 0 0) (hr202 : ∀ (a0 : Nat) (x3 : Int32) (x4 : Int32) (x5 : Int32) (M : zH), r202 (a0, x3, x4, x5, M) = some (r, M') → zG E Y_Mo_years (some (.int r), S, M') 202 [(0, .ref a0), (3, .int x3), (4, .int x4), (5, .int x5)] [] S M 0 0) (h : F_Mo_years_L202 n E S r185 r202 a0 x3 x4 x5 M = some (r, M')) : zG E Y_Mo_years (some (.int r), S, M') 202 [(0, .ref a0), (3, .int x3), (4, .int x4), (5, .int x5)] [] S M 0 0 := by
  unfold F_Mo_years_L202 at h
  refine zi_iload 3 d_Mo_years_202 rfl ?_
  refine zi_bipush 8 d_Mo_years_204 rfl ?_
  refine zi_icmp_ge (tgt := 241) d_Mo_years_206 rfl (fun c_12 => ?_) (fun c_12 => ?_)
  · rw [if_pos c_12] at h
    refine zi_aload_n 0 d_Mo_years_241 rfl ?_
    obtain ⟨b_13, eb_13, h⟩ := zbind h
    refine zo_getR 245 zkd_11 55 d_Mo_years_242 eb_13 rfl tw_1284 rfl ?_
    refine zi_iconst 4 d_Mo_years_245 rfl ?_
    refine zi_iload 2 d_Mo_years_246 rfl ?_
    refine zi_iadd d_Mo_years_248 ?_
    refine zi_aload_n 0 d_Mo_years_249 rfl ?_
    obtain ⟨b_14, eb_14, h⟩ := zbind h
    refine zo_getR 253 zkd_11 3 d_Mo_years_250 eb_14 rfl tw_1232 rfl ?_
    refine zi_bipush 8 d_Mo_years_253 rfl ?_
    refine zi_iload 2 d_Mo_years_255 rfl ?_
    refine zi_iadd d_Mo_years_257 ?_
    obtain ⟨v_15, ev_15, h⟩ := zbind h
    refine zo_iald 259 d_Mo_years_258 ev_15 rfl ?_
    obtain ⟨m_16, em_16, h⟩ := zbind h
    refine zo_iast 260 d_Mo_years_259 em_16 rfl ?_
    refine zi_iinc 2 (x4 + 1) [(4, .int (x4 + 1)), (0, .ref a0), (3, .int x3), (5, .int x5)] d_Mo_years_260 rfl rfl (by decide) rfl ?_
    refine zi_goto (tgt := 185) d_Mo_years_263 rfl ?_
    refine zi_lo [(0, .ref a0), (3, .int x3), (4, .int (x4 + 1))] [1, 2, 0] rfl ?_
    exact hr185 a0 x3 (x4 + 1) m_16 h
  · rw [if_neg c_12] at h
    refine zi_aload_n 0 d_Mo_years_209 rfl ?_
    obtain ⟨b_17, eb_17, h⟩ := zbind h
    refine zo_getR 213 zkd_11 55 d_Mo_years_210 eb_17 rfl tw_1284 rfl ?_
    refine zi_iload 2 d_Mo_years_213 rfl ?_
    refine zi_dup2 d_Mo_years_215 rfl rfl ?_
    obtain ⟨v_18, ev_18, h⟩ := zbind h
    refine zo_iald 217 d_Mo_years_216 ev_18 rfl ?_
    refine zi_aload_n 0 d_Mo_years_217 rfl ?_
    obtain ⟨b_19, eb_19, h⟩ := zbind h
    refine zo_getR 221 zkd_11 3 d_Mo_years_218 eb_19 rfl tw_1232 rfl ?_
    refine zi_bipush 12 d_Mo_years_221 rfl ?_
    refine zi_bipush 8 d_Mo_years_223 rfl ?_
    refine zi_iload 2 d_Mo_years_225 rfl ?_
    refine zi_imul d_Mo_years_227 ?_
    refine zi_iadd d_Mo_years_228 ?_
    refine zi_iload 3 d_Mo_years_229 rfl ?_
    refine zi_iadd d_Mo_years_231 ?_
    obtain ⟨v_20, ev_20, h⟩ := zbind h
    refine zo_iald 233 d_Mo_years_232 ev_20 rfl ?_
    refine zi_iadd d_Mo_years_233 ?_
    obtain ⟨m_21, em_21, h⟩ := zbind h
    refine zo_iast 235 d_Mo_years_234 em_21 rfl ?_
    refine zi_iinc 3 (x5 + 1) [(5, .int (x5 + 1)), (0, .ref a0), (3, .int x3), (4, .int x4)] d_Mo_years_235 rfl rfl (by decide) rfl ?_
    refine zi_goto (tgt := 202) d_Mo_years_238 rfl ?_
    refine zi_lo [(0, .ref a0), (3, .int x3), (4, .int x4), (5, .int (x5 + 1))] [1, 2, 3, 0] rfl ?_
    exact hr202 a0 x3 x4 (x5 + 1) m_21 h
theorem K_Mo_years_b202 (n : Nat) (E : zE) (S : zS) (r185 : Nat × Int32 × Int32 × zH → Option (Int32 × zH)) (a0 : Nat) (x3 : Int32) (x4 : Int32) (x5 : Int32) (M : zH) (r : Int32) (M' : zH) (hr185 : ∀ (a0 : Nat) (x3 : Int32) (x4 : Int32) (M : zH), r185 (a0, x3, x4, M) = some (r, M') → zG E Y_Mo_years (some (.int r), S, M') 185 [(0, .ref a0), (3, .int x3), (4, .int x4)] [] S M 0 0) (h : F_Mo_years_b202 n E S r185 (a0, x3, x4, x5, M) = some (r, M')) : zG E Y_Mo_years (some (.int r), S, M') 202 [(0, .ref a0), (3, .int x3), (4, .int x4), (5, .int x5)] [] S M 0 0 := by
  have key : ∀ (k : Nat) (a0 : Nat) (x3 : Int32) (x4 : Int32) (x5 : Int32) (M : zH), zfix (fun r202 s => F_Mo_years_L202 n E S r185 r202 s.1 s.2.1 s.2.2.1 s.2.2.2.1 s.2.2.2.2) k (a0, x3, x4, x5, M) = some (r, M') → zG E Y_Mo_years (some (.int r), S, M') 202 [(0, .ref a0), (3, .int x3), (4, .int x4), (5, .int x5)] [] S M 0 0 := by
    intro k
    induction k with
    | zero => intro a0 x3 x4 x5 M h; cases h
    | succ k ih => intro a0 x3 x4 x5 M h; exact K_Mo_years_L202 n E S r185 _ a0 x3 x4 x5 M r M' hr185 (fun a0 x3 x4 x5 M h => ih a0 x3 x4 x5 M h) h
  exact key n a0 x3 x4 x5 M h
theorem K_Mo_years_L279 (n : Nat) (E : zE) (S : zS) (r279 : Nat × Int32 × Int32 × zH → Option (Int32 × zH)) (a0 : Nat) (x3 : Int32) (x4 : Int32) (M : zH) (r : Int32) (M' : zH) (hr279 : ∀ (a0 : Nat) (x3 : Int32) (x4 : Int32) (M : zH), r279 (a0, x3, x4, M) = some (r, M') → zG E Y_Mo_years (some (.int r), S, M') 279 [(0, .ref a0), (3, .int x3), (4, .int x4)] [] S M 0 0) (h : F_Mo_years_L279 n E S r279 a0 x3 x4 M = some (r, M')) : zG E Y_Mo_years (some (.int r), S, M') 279 [(0, .ref a0), (3, .int x3), (4, .int x4)] [] S M 0 0 := by
  unfold F_Mo_years_L279 at h
  refine zi_iload 2 d_Mo_years_279 rfl ?_
  refine zi_aload_n 0 d_Mo_years_281 rfl ?_
  obtain ⟨v_22, ev_22, h⟩ := zbind h
  refine zo_getI 285 zkd_11 56 d_Mo_years_282 ev_22 rfl tw_1285 rfl ?_
  refine zi_icmp_ge (tgt := 314) d_Mo_years_285 rfl (fun c_23 => ?_) (fun c_23 => ?_)
  · rw [if_pos c_23] at h
    refine zi_aload_n 0 d_Mo_years_314 rfl ?_
    refine zi_bipush 16 d_Mo_years_315 rfl ?_
    obtain ⟨q_24, eq_24, h⟩ := zbind h
    refine zo_virt (k' := 0) (n' := 0) 320 [.int 16] [] [] zkd_11 (zgI_s ev_22).1 (C_Mo_putBack n E S a0 16 M q_24 eq_24) d_Mo_years_317 tw_1412 tw_1409 tw_1411 ts_37 tw_13 dd_Mo_putBack ⟨Nat.le_of_ble_eq_true rfl, Nat.le_of_ble_eq_true rfl, Nat.le_of_ble_eq_true rfl, Nat.le_of_ble_eq_true rfl⟩ (Nat.le_of_ble_eq_true rfl) rfl rfl rfl rfl ?_
    refine zi_aload_n 0 d_Mo_years_320 rfl ?_
    refine zi_iload_n 1 d_Mo_years_321 rfl ?_
    obtain ⟨q_25, eq_25, h⟩ := zbind h
    refine zo_virt (k' := 0) (n' := 0) 325 [.int x3] [] [.int q_25.1] zkd_11 (zgI_s ev_22).1 (C_Mo_tell n E S a0 x3 q_24 q_25.1 q_25.2 eq_25) d_Mo_years_322 tw_1408 tw_1405 tw_1407 ts_36 tw_13 dd_Mo_tell ⟨Nat.le_of_ble_eq_true rfl, Nat.le_of_ble_eq_true rfl, Nat.le_of_ble_eq_true rfl, Nat.le_of_ble_eq_true rfl⟩ (Nat.le_of_ble_eq_true rfl) rfl rfl rfl rfl ?_
    cases h
    exact zo_ret d_Mo_years_325 (Nat.le_of_ble_eq_true rfl) (Nat.le_of_ble_eq_true rfl) rfl
  · rw [if_neg c_23] at h
    refine zi_aload_n 0 d_Mo_years_288 rfl ?_
    obtain ⟨b_26, eb_26, h⟩ := zbind h
    refine zo_getR 292 zkd_11 55 d_Mo_years_289 eb_26 rfl tw_1284 rfl ?_
    refine zi_bipush 8 d_Mo_years_292 rfl ?_
    refine zi_iload 2 d_Mo_years_294 rfl ?_
    refine zi_iadd d_Mo_years_296 ?_
    refine zi_aload_n 0 d_Mo_years_297 rfl ?_
    obtain ⟨b_27, eb_27, h⟩ := zbind h
    refine zo_getR 301 zkd_11 3 d_Mo_years_298 eb_27 rfl tw_1232 rfl ?_
    refine zi_bipush 48 d_Mo_years_301 rfl ?_
    refine zi_iload 2 d_Mo_years_303 rfl ?_
    refine zi_iadd d_Mo_years_305 ?_
    obtain ⟨v_28, ev_28, h⟩ := zbind h
    refine zo_iald 307 d_Mo_years_306 ev_28 rfl ?_
    obtain ⟨m_29, em_29, h⟩ := zbind h
    refine zo_iast 308 d_Mo_years_307 em_29 rfl ?_
    refine zi_iinc 2 (x4 + 1) [(4, .int (x4 + 1)), (0, .ref a0), (3, .int x3)] d_Mo_years_308 rfl rfl (by decide) rfl ?_
    refine zi_goto (tgt := 279) d_Mo_years_311 rfl ?_
    refine zi_lo [(0, .ref a0), (3, .int x3), (4, .int (x4 + 1))] [1, 2, 0] rfl ?_
    exact hr279 a0 x3 (x4 + 1) m_29 h
theorem K_Mo_years_b279 (n : Nat) (E : zE) (S : zS) (a0 : Nat) (x3 : Int32) (x4 : Int32) (M : zH) (r : Int32) (M' : zH)  (h : F_Mo_years_b279 n E S (a0, x3, x4, M) = some (r, M')) : zG E Y_Mo_years (some (.int r), S, M') 279 [(0, .ref a0), (3, .int x3), (4, .int x4)] [] S M 0 0 := by
  have key : ∀ (k : Nat) (a0 : Nat) (x3 : Int32) (x4 : Int32) (M : zH), zfix (fun r279 s => F_Mo_years_L279 n E S r279 s.1 s.2.1 s.2.2.1 s.2.2.2) k (a0, x3, x4, M) = some (r, M') → zG E Y_Mo_years (some (.int r), S, M') 279 [(0, .ref a0), (3, .int x3), (4, .int x4)] [] S M 0 0 := by
    intro k
    induction k with
    | zero => intro a0 x3 x4 M h; cases h
    | succ k ih => intro a0 x3 x4 M h; exact K_Mo_years_L279 n E S _ a0 x3 x4 M r M'  (fun a0 x3 x4 M h => ih a0 x3 x4 M h) h
  exact key n a0 x3 x4 M h
theorem K_Mo_years_L185 (n : Nat) (E : zE) (S : zS) (r185 : Nat × Int32 × Int32 × zH → Option (Int32 × zH)) (a0 : Nat) (x3 : Int32) (x4 : Int32) (M : zH) (r : Int32) (M' : zH) (hr185 : ∀ (a0 : Nat) (x3 : Int32) (x4 : Int32) (M : zH), r185 (a0, x3, x4, M) = some (r, M') → zG E Y_Mo_years (some (.int r), S, M') 185 [(0, .ref a0), (3, .int x3), (4, .int x4)] [] S M 0 0) (h : F_Mo_years_L185 n E S r185 a0 x3 x4 M = some (r, M')) : zG E Y_Mo_years (some (.int r), S, M') 185 [(0, .ref a0), (3, .int x3), (4, .int x4)] [] S M 0 0 := by
  unfold F_Mo_years_L185 at h
  refine zi_iload 2 d_Mo_years_185 rfl ?_
  refine zi_iconst 4 d_Mo_years_187 rfl ?_
  refine zi_icmp_ge (tgt := 266) d_Mo_years_188 rfl (fun c_30 => ?_) (fun c_30 => ?_)
  · rw [if_pos c_30] at h
    refine zi_aload_n 0 d_Mo_years_266 rfl ?_
    refine zi_aload_n 0 d_Mo_years_267 rfl ?_
    obtain ⟨b_31, eb_31, h⟩ := zbind h
    refine zo_getR 271 zkd_11 3 d_Mo_years_268 eb_31 rfl tw_1232 rfl ?_
    refine zi_iconst 0 d_Mo_years_271 rfl ?_
    obtain ⟨v_32, ev_32, h⟩ := zbind h
    refine zo_iald 273 d_Mo_years_272 ev_32 rfl ?_
    obtain ⟨m_33, em_33, h⟩ := zbind h
    refine zo_putI 276 zkd_11 56 d_Mo_years_273 em_33 rfl rfl rfl tw_1285 rfl ?_
    refine zi_iconst 0 d_Mo_years_276 rfl ?_
    refine zi_istore [(4, .int 0), (0, .ref a0), (3, .int x3)] d_Mo_years_277 (by decide) rfl ?_
    refine zi_lo [(0, .ref a0), (3, .int x3), (4, .int 0)] [1, 2, 0] rfl ?_
    exact K_Mo_years_b279 n E S a0 x3 0 m_33 r M'  h
  · rw [if_neg c_30] at h
    refine zi_aload_n 0 d_Mo_years_191 rfl ?_
    obtain ⟨b_34, eb_34, h⟩ := zbind h
    refine zo_getR 195 zkd_11 55 d_Mo_years_192 eb_34 rfl tw_1284 rfl ?_
    refine zi_iload 2 d_Mo_years_195 rfl ?_
    refine zi_iconst 0 d_Mo_years_197 rfl ?_
    obtain ⟨m_35, em_35, h⟩ := zbind h
    refine zo_iast 199 d_Mo_years_198 em_35 rfl ?_
    refine zi_iconst 0 d_Mo_years_199 rfl ?_
    refine zi_istore [(5, .int 0), (0, .ref a0), (3, .int x3), (4, .int x4)] d_Mo_years_200 (by decide) rfl ?_
    refine zi_lo [(0, .ref a0), (3, .int x3), (4, .int x4), (5, .int 0)] [1, 2, 3, 0] rfl ?_
    exact K_Mo_years_b202 n E S r185 a0 x3 x4 0 m_35 r M' hr185 h
theorem K_Mo_years_b185 (n : Nat) (E : zE) (S : zS) (a0 : Nat) (x3 : Int32) (x4 : Int32) (M : zH) (r : Int32) (M' : zH)  (h : F_Mo_years_b185 n E S (a0, x3, x4, M) = some (r, M')) : zG E Y_Mo_years (some (.int r), S, M') 185 [(0, .ref a0), (3, .int x3), (4, .int x4)] [] S M 0 0 := by
  have key : ∀ (k : Nat) (a0 : Nat) (x3 : Int32) (x4 : Int32) (M : zH), zfix (fun r185 s => F_Mo_years_L185 n E S r185 s.1 s.2.1 s.2.2.1 s.2.2.2) k (a0, x3, x4, M) = some (r, M') → zG E Y_Mo_years (some (.int r), S, M') 185 [(0, .ref a0), (3, .int x3), (4, .int x4)] [] S M 0 0 := by
    intro k
    induction k with
    | zero => intro a0 x3 x4 M h; cases h
    | succ k ih => intro a0 x3 x4 M h; exact K_Mo_years_L185 n E S _ a0 x3 x4 M r M'  (fun a0 x3 x4 M h => ih a0 x3 x4 M h) h
  exact key n a0 x3 x4 M h
theorem K_Mo_years_b182 (n : Nat) (E : zE) (S : zS) (a0 : Nat) (x3 : Int32) (M : zH) (r : Int32) (M' : zH)  (h : F_Mo_years_b182 n E S a0 x3 M = some (r, M')) : zG E Y_Mo_years (some (.int r), S, M') 182 [(0, .ref a0), (3, .int x3)] [] S M 0 0 := by
  unfold F_Mo_years_b182 at h
  refine zi_iconst 0 d_Mo_years_182 rfl ?_
  refine zi_istore [(4, .int 0), (0, .ref a0), (3, .int x3)] d_Mo_years_183 (by decide) rfl ?_
  refine zi_lo [(0, .ref a0), (3, .int x3), (4, .int 0)] [1, 2, 0] rfl ?_
  exact K_Mo_years_b185 n E S a0 x3 0 M r M'  h
theorem K_Mo_years_L52 (n : Nat) (E : zE) (S : zS) (r52 : Nat × Int32 × Int32 × Int32 × zH → Option (Int32 × zH)) (a0 : Nat) (x2 : Int32) (x3 : Int32) (x4 : Int32) (M : zH) (r : Int32) (M' : zH) (hr52 : ∀ (a0 : Nat) (x2 : Int32) (x3 : Int32) (x4 : Int32) (M : zH), r52 (a0, x2, x3, x4, M) = some (r, M') → zG E Y_Mo_years (some (.int r), S, M') 52 [(0, .ref a0), (2, .int x2), (3, .int x3), (4, .int x4)] [] S M 0 0) (h : F_Mo_years_L52 n E S r52 a0 x2 x3 x4 M = some (r, M')) : zG E Y_Mo_years (some (.int r), S, M') 52 [(0, .ref a0), (2, .int x2), (3, .int x3), (4, .int x4)] [] S M 0 0 := by
  unfold F_Mo_years_L52 at h
  refine zi_iload 3 d_Mo_years_52 rfl ?_
  refine zi_iload_n 1 d_Mo_years_54 rfl ?_
  refine zi_icmp_ge (tgt := 182) d_Mo_years_55 rfl (fun c_36 => ?_) (fun c_36 => ?_)
  · rw [if_pos c_36] at h
    refine zi_lo [(0, .ref a0), (3, .int x3)] [0, 2] rfl ?_
    exact K_Mo_years_b182 n E S a0 x3 M r M'  h
  · rw [if_neg c_36] at h
    refine zi_aload_n 0 d_Mo_years_58 rfl ?_
    obtain ⟨b_37, eb_37, h⟩ := zbind h
    refine zo_getR 62 zkd_11 3 d_Mo_years_59 eb_37 rfl tw_1232 rfl ?_
    refine zi_iconst 4 d_Mo_years_62 rfl ?_
    obtain ⟨v_38, ev_38, h⟩ := zbind h
    refine zo_iald 64 d_Mo_years_63 ev_38 rfl ?_
    refine zi_sipush 999 d_Mo_years_64 rfl ?_
    refine zi_icmp_ge (tgt := 182) d_Mo_years_67 rfl (fun c_39 => ?_) (fun c_39 => ?_)
    · rw [if_pos c_39] at h
      refine zi_lo [(0, .ref a0), (3, .int x3)] [0, 2] rfl ?_
      exact K_Mo_years_b182 n E S a0 x3 M r M'  h
    · rw [if_neg c_39] at h
      refine zi_aload_n 0 d_Mo_years_70 rfl ?_
      refine zi_iconst 4 d_Mo_years_71 rfl ?_
      obtain ⟨q_40, eq_40, h⟩ := zbind h
      refine zo_virt (k' := 0) (n' := 0) 75 [.int 4] [] [.int q_40.1] zkd_11 (zgR_s eb_37).1 (C_Mo_draw n E S a0 4 M q_40.1 q_40.2 eq_40) d_Mo_years_72 tw_1891 tw_1888 tw_1890 ts_103 tw_13 dd_Mo_draw ⟨Nat.le_of_ble_eq_true rfl, Nat.le_of_ble_eq_true rfl, Nat.le_of_ble_eq_true rfl, Nat.le_of_ble_eq_true rfl⟩ (Nat.le_of_ble_eq_true rfl) rfl rfl rfl rfl ?_
      refine zi_istore [(5, .int q_40.1), (0, .ref a0), (2, .int x2), (3, .int x3), (4, .int x4)] d_Mo_years_75 (by decide) rfl ?_
      refine zi_aload_n 1 d_Mo_years_77 rfl ?_
      refine zi_bipush 8 d_Mo_years_78 rfl ?_
      obtain ⟨q_41, eq_41, h⟩ := zbind h
      refine zo_virt (k' := 0) (n' := 0) 83 [.int 8] [] [.int q_41.1] zkd_11 (zgR_s eb_37).1 (C_Mo_draw n E S a0 8 q_40.2 q_41.1 q_41.2 eq_41) d_Mo_years_80 tw_1891 tw_1888 tw_1890 ts_103 tw_13 dd_Mo_draw ⟨Nat.le_of_ble_eq_true rfl, Nat.le_of_ble_eq_true rfl, Nat.le_of_ble_eq_true rfl, Nat.le_of_ble_eq_true rfl⟩ (Nat.le_of_ble_eq_true rfl) rfl rfl rfl rfl ?_
      refine zi_istore [(6, .int q_41.1), (5, .int q_40.1), (0, .ref a0), (2, .int x2), (3, .int x3), (4, .int x4)] d_Mo_years_83 (by decide) rfl ?_
      refine zi_aload_n 2 d_Mo_years_85 rfl ?_
      refine zi_iconst 3 d_Mo_years_86 rfl ?_
      obtain ⟨q_42, eq_42, h⟩ := zbind h
      refine zo_virt (k' := 0) (n' := 0) 90 [.int 3] [] [.int q_42.1] zkd_11 (zgR_s eb_37).1 (C_Mo_draw n E S a0 3 q_41.2 q_42.1 q_42.2 eq_42) d_Mo_years_87 tw_1891 tw_1888 tw_1890 ts_103 tw_13 dd_Mo_draw ⟨Nat.le_of_ble_eq_true rfl, Nat.le_of_ble_eq_true rfl, Nat.le_of_ble_eq_true rfl, Nat.le_of_ble_eq_true rfl⟩ (Nat.le_of_ble_eq_true rfl) rfl rfl rfl rfl ?_
      refine zi_istore [(7, .int q_42.1), (6, .int q_41.1), (5, .int q_40.1), (0, .ref a0), (2, .int x2), (3, .int x3), (4, .int x4)] d_Mo_years_90 (by decide) rfl ?_
      refine zi_aload_n 3 d_Mo_years_92 rfl ?_
      refine zo_getR 96 zkd_11 3 d_Mo_years_93 eb_37 rfl tw_1232 rfl ?_
      refine zi_bipush 44 d_Mo_years_96 rfl ?_
      refine zi_iload 2 d_Mo_years_98 rfl ?_
      refine zi_iadd d_Mo_years_100 ?_
      refine zi_dup2 d_Mo_years_101 rfl rfl ?_
      obtain ⟨v_43, ev_43, h⟩ := zbind h
      refine zo_iald 103 d_Mo_years_102 ev_43 rfl ?_
      refine zi_iload 0 d_Mo_years_103 rfl ?_
      refine zi_if_ne (tgt := 115) d_Mo_years_105 rfl (fun c_44 => ?_) (fun c_44 => ?_)
      · rw [if_neg c_44] at h
        refine zi_iconst 0 d_Mo_years_115 rfl ?_
        refine zi_lo [(0, .ref a0), (2, .int x2), (3, .int x3), (4, .int x4), (5, .int q_40.1), (6, .int q_41.1), (7, .int q_42.1)] [3, 4, 5, 6, 2, 1, 0] rfl ?_
        exact K_Mo_years_b116 n E S r52 a0 x2 x3 x4 q_40.1 q_41.1 q_42.1 0 v_43 (44 + q_40.1) b_37 q_42.2 r M' hr52 h
      · rw [if_pos c_44] at h
        refine zi_iconst 1 d_Mo_years_108 rfl ?_
        refine zi_iload 1 d_Mo_years_109 rfl ?_
        refine zi_ishl d_Mo_years_111 ?_
        refine zi_goto (tgt := 116) d_Mo_years_112 rfl ?_
        refine zi_lo [(0, .ref a0), (2, .int x2), (3, .int x3), (4, .int x4), (5, .int q_40.1), (6, .int q_41.1), (7, .int q_42.1)] [3, 4, 5, 6, 2, 1, 0] rfl ?_
        exact K_Mo_years_b116 n E S r52 a0 x2 x3 x4 q_40.1 q_41.1 q_42.1 ((1 : Int32) <<< (q_41.1 &&& (31 : Int32))) v_43 (44 + q_40.1) b_37 q_42.2 r M' hr52 h
theorem K_Mo_years_b52 (n : Nat) (E : zE) (S : zS) (a0 : Nat) (x2 : Int32) (x3 : Int32) (x4 : Int32) (M : zH) (r : Int32) (M' : zH)  (h : F_Mo_years_b52 n E S (a0, x2, x3, x4, M) = some (r, M')) : zG E Y_Mo_years (some (.int r), S, M') 52 [(0, .ref a0), (2, .int x2), (3, .int x3), (4, .int x4)] [] S M 0 0 := by
  have key : ∀ (k : Nat) (a0 : Nat) (x2 : Int32) (x3 : Int32) (x4 : Int32) (M : zH), zfix (fun r52 s => F_Mo_years_L52 n E S r52 s.1 s.2.1 s.2.2.1 s.2.2.2.1 s.2.2.2.2) k (a0, x2, x3, x4, M) = some (r, M') → zG E Y_Mo_years (some (.int r), S, M') 52 [(0, .ref a0), (2, .int x2), (3, .int x3), (4, .int x4)] [] S M 0 0 := by
    intro k
    induction k with
    | zero => intro a0 x2 x3 x4 M h; cases h
    | succ k ih => intro a0 x2 x3 x4 M h; exact K_Mo_years_L52 n E S _ a0 x2 x3 x4 M r M'  (fun a0 x2 x3 x4 M h => ih a0 x2 x3 x4 M h) h
  exact key n a0 x2 x3 x4 M h
theorem K_Mo_years (n : Nat) (E : zE) (S : zS) (a0 : Nat) (x1 : Int32) (x2 : Int32) (M : zH) (r : Int32) (M' : zH)  (h : F_Mo_years n E S a0 x1 x2 M = some (r, M')) : zG E Y_Mo_years (some (.int r), S, M') 0 [(0, .ref a0), (1, .int x1), (2, .int x2)] [] S M 0 0 := by
  unfold F_Mo_years at h
  refine zi_aload_n 0 d_Mo_years_0 rfl ?_
  refine zi_iconst 0 d_Mo_years_1 rfl ?_
  obtain ⟨m_45, em_45, h⟩ := zbind h
  refine zo_putI 5 zkd_11 0 d_Mo_years_2 em_45 rfl rfl rfl tw_1229 rfl ?_
  refine zi_iload_n 1 d_Mo_years_5 rfl ?_
  refine zi_i2l d_Mo_years_6 ?_
  refine zi_lconst 0 d_Mo_years_7 rfl ?_
  refine zi_ldc2 d_Mo_years_8 tw_1586 ?_
  obtain ⟨q_46, eq_46, h⟩ := zbind h
  refine zo_stat (k' := 0) (n' := 0) 14 [.long x1.toInt64, .long 0, .long 1000000] [] [.int (bI q_46.1)] (C_Mo_in n E S x1.toInt64 0 1000000 m_45 q_46.1 q_46.2 eq_46) d_Mo_years_11 tw_1419 tw_1417 tw_1418 tw_13 dd_Mo_in ⟨Nat.le_of_ble_eq_true rfl, Nat.le_of_ble_eq_true rfl, Nat.le_of_ble_eq_true rfl, Nat.le_of_ble_eq_true rfl⟩ (Nat.le_of_ble_eq_true rfl) rfl rfl rfl rfl ?_
  refine zo_ifeqB d_Mo_years_14 rfl 17 rfl (fun c_47 => ?_) (fun c_47 => ?_)
  · rw [if_neg c_47] at h
    refine zi_lo [(0, .ref a0)] [0] rfl ?_
    exact K_Mo_years_b29 n E S a0 q_46.2 r M'  h
  · rw [if_pos c_47] at h
    refine zi_iload_n 2 d_Mo_years_17 rfl ?_
    refine zi_i2l d_Mo_years_18 ?_
    refine zi_lconst 1 d_Mo_years_19 rfl ?_
    refine zi_ldc2 d_Mo_years_20 tw_1887 ?_
    obtain ⟨q_48, eq_48, h⟩ := zbind h
    refine zo_stat (k' := 0) (n' := 0) 26 [.long x2.toInt64, .long 1, .long 60] [] [.int (bI q_48.1)] (C_Mo_in n E S x2.toInt64 1 60 q_46.2 q_48.1 q_48.2 eq_48) d_Mo_years_23 tw_1419 tw_1417 tw_1418 tw_13 dd_Mo_in ⟨Nat.le_of_ble_eq_true rfl, Nat.le_of_ble_eq_true rfl, Nat.le_of_ble_eq_true rfl, Nat.le_of_ble_eq_true rfl⟩ (Nat.le_of_ble_eq_true rfl) rfl rfl rfl rfl ?_
    refine zo_ifneB d_Mo_years_26 rfl 29 rfl (fun c_49 => ?_) (fun c_49 => ?_)
    · rw [if_pos c_49] at h
      refine zi_aload_n 0 d_Mo_years_35 rfl ?_
      refine zi_bipush 16 d_Mo_years_36 rfl ?_
      obtain ⟨u_50, eu_50, h⟩ := zbind h
      obtain ⟨q_51, eq_51, h⟩ := zbind h
      refine zo_virt (k' := 0) (n' := 0) 41 [.int 16] [] [] zkd_11 (zck_s eu_50) (C_Mo_keepAll n E S a0 16 q_48.2 q_51 eq_51) d_Mo_years_38 tw_1704 tw_1701 tw_1703 ts_80 tw_13 dd_Mo_keepAll ⟨Nat.le_of_ble_eq_true rfl, Nat.le_of_ble_eq_true rfl, Nat.le_of_ble_eq_true rfl, Nat.le_of_ble_eq_true rfl⟩ (Nat.le_of_ble_eq_true rfl) rfl rfl rfl rfl ?_
      refine zi_aload_n 0 d_Mo_years_41 rfl ?_
      refine zi_iload_n 1 d_Mo_years_42 rfl ?_
      refine zi_i2l d_Mo_years_43 ?_
      obtain ⟨m_52, em_52, h⟩ := zbind h
      refine zo_putJ 47 zkd_11 54 d_Mo_years_44 em_52 rfl rfl rfl tw_1283 rfl ?_
      refine zi_iconst 0 d_Mo_years_47 rfl ?_
      refine zi_istore_n [(3, .int 0), (0, .ref a0), (1, .int x1), (2, .int x2)] d_Mo_years_48 (by decide) rfl ?_
      refine zi_iconst 0 d_Mo_years_49 rfl ?_
      refine zi_istore [(4, .int 0), (3, .int 0), (0, .ref a0), (1, .int x1), (2, .int x2)] d_Mo_years_50 (by decide) rfl ?_
      refine zi_lo [(0, .ref a0), (2, .int x2), (3, .int 0), (4, .int 0)] [2, 4, 1, 0] rfl ?_
      exact K_Mo_years_b52 n E S a0 x2 0 0 m_52 r M'  h
    · rw [if_neg c_49] at h
      refine zi_lo [(0, .ref a0)] [0] rfl ?_
      exact K_Mo_years_b29 n E S a0 q_48.2 r M'  h
theorem C_Mo_years (n : Nat) (E : zE) (S : zS) (a0 : Nat) (x1 : Int32) (x2 : Int32) (M : zH) (r : Int32) (M' : zH) (h : F_Mo_years n E S a0 x1 x2 M = some (r, M')) : zC E Y_Mo_years [.ref a0, .int x1, .int x2] S M (some (.int r), S, M') :=
  zC.of (Or.inl (show plainName "NightColanderModel" = true by decide)) (Nat.le_of_ble_eq_true rfl) (trivial) (K_Mo_years n E S a0 x1 x2 M r M' h)
