/-! METHODS (printed by gen/build.py): Mo_worth Mo_giveBack Mo_readSum Mo_readOrder Mo_act Mo_levels Mo_sumOf Mo_run Mo_orders -/
theorem d_Mo_worth_0 : decode (yB Y_Mo_worth) 0 = .ok (.aload_n 0, 1) := by decide +kernel
theorem d_Mo_worth_1 : decode (yB Y_Mo_worth) 1 = .ok (.iconst 0, 1) := by decide +kernel
theorem d_Mo_worth_2 : decode (yB Y_Mo_worth) 2 = .ok (.putfield 156, 3) := by decide +kernel
theorem d_Mo_worth_5 : decode (yB Y_Mo_worth) 5 = .ok (.aload_n 0, 1) := by decide +kernel
theorem d_Mo_worth_6 : decode (yB Y_Mo_worth) 6 = .ok (.iload_n 1, 1) := by decide +kernel
theorem d_Mo_worth_7 : decode (yB Y_Mo_worth) 7 = .ok (.invokevirtual 402, 3) := by decide +kernel
theorem d_Mo_worth_10 : decode (yB Y_Mo_worth) 10 = .ok (.ifCond .ne 5, 3) := by decide +kernel
theorem d_Mo_worth_13 : decode (yB Y_Mo_worth) 13 = .ok (.iconst (-1), 1) := by decide +kernel
theorem d_Mo_worth_14 : decode (yB Y_Mo_worth) 14 = .ok (.ireturn, 1) := by decide +kernel
theorem d_Mo_worth_15 : decode (yB Y_Mo_worth) 15 = .ok (.aload_n 0, 1) := by decide +kernel
theorem d_Mo_worth_16 : decode (yB Y_Mo_worth) 16 = .ok (.getfield 13, 3) := by decide +kernel
theorem d_Mo_worth_19 : decode (yB Y_Mo_worth) 19 = .ok (.iconst 3, 1) := by decide +kernel
theorem d_Mo_worth_20 : decode (yB Y_Mo_worth) 20 = .ok (.iaload, 1) := by decide +kernel
theorem d_Mo_worth_21 : decode (yB Y_Mo_worth) 21 = .ok (.istore_n 2, 1) := by decide +kernel
theorem d_Mo_worth_22 : decode (yB Y_Mo_worth) 22 = .ok (.aload_n 0, 1) := by decide +kernel
theorem d_Mo_worth_23 : decode (yB Y_Mo_worth) 23 = .ok (.getfield 13, 3) := by decide +kernel
theorem d_Mo_worth_26 : decode (yB Y_Mo_worth) 26 = .ok (.iconst 3, 1) := by decide +kernel
theorem d_Mo_worth_27 : decode (yB Y_Mo_worth) 27 = .ok (.iload_n 1, 1) := by decide +kernel
theorem d_Mo_worth_28 : decode (yB Y_Mo_worth) 28 = .ok (.iastore, 1) := by decide +kernel
theorem d_Mo_worth_29 : decode (yB Y_Mo_worth) 29 = .ok (.iconst 0, 1) := by decide +kernel
theorem d_Mo_worth_30 : decode (yB Y_Mo_worth) 30 = .ok (.istore_n 3, 1) := by decide +kernel
theorem d_Mo_worth_31 : decode (yB Y_Mo_worth) 31 = .ok (.iconst 0, 1) := by decide +kernel
theorem d_Mo_worth_32 : decode (yB Y_Mo_worth) 32 = .ok (.istore 4, 2) := by decide +kernel
theorem d_Mo_worth_34 : decode (yB Y_Mo_worth) 34 = .ok (.iload 4, 2) := by decide +kernel
theorem d_Mo_worth_36 : decode (yB Y_Mo_worth) 36 = .ok (.aload_n 0, 1) := by decide +kernel
theorem d_Mo_worth_37 : decode (yB Y_Mo_worth) 37 = .ok (.getfield 13, 3) := by decide +kernel
theorem d_Mo_worth_40 : decode (yB Y_Mo_worth) 40 = .ok (.iconst 0, 1) := by decide +kernel
theorem d_Mo_worth_41 : decode (yB Y_Mo_worth) 41 = .ok (.iaload, 1) := by decide +kernel
theorem d_Mo_worth_42 : decode (yB Y_Mo_worth) 42 = .ok (.if_icmp .ge 39, 3) := by decide +kernel
theorem d_Mo_worth_45 : decode (yB Y_Mo_worth) 45 = .ok (.iload_n 3, 1) := by decide +kernel
theorem d_Mo_worth_46 : decode (yB Y_Mo_worth) 46 = .ok (.aload_n 0, 1) := by decide +kernel
theorem d_Mo_worth_47 : decode (yB Y_Mo_worth) 47 = .ok (.getfield 13, 3) := by decide +kernel
theorem d_Mo_worth_50 : decode (yB Y_Mo_worth) 50 = .ok (.bipush 48, 2) := by decide +kernel
theorem d_Mo_worth_52 : decode (yB Y_Mo_worth) 52 = .ok (.iload 4, 2) := by decide +kernel
theorem d_Mo_worth_54 : decode (yB Y_Mo_worth) 54 = .ok (.iadd, 1) := by decide +kernel
theorem d_Mo_worth_55 : decode (yB Y_Mo_worth) 55 = .ok (.iaload, 1) := by decide +kernel
theorem d_Mo_worth_56 : decode (yB Y_Mo_worth) 56 = .ok (.aload_n 0, 1) := by decide +kernel
theorem d_Mo_worth_57 : decode (yB Y_Mo_worth) 57 = .ok (.iload 4, 2) := by decide +kernel
theorem d_Mo_worth_59 : decode (yB Y_Mo_worth) 59 = .ok (.aload_n 0, 1) := by decide +kernel
theorem d_Mo_worth_60 : decode (yB Y_Mo_worth) 60 = .ok (.getfield 13, 3) := by decide +kernel
theorem d_Mo_worth_63 : decode (yB Y_Mo_worth) 63 = .ok (.bipush 51, 2) := by decide +kernel
theorem d_Mo_worth_65 : decode (yB Y_Mo_worth) 65 = .ok (.iload 4, 2) := by decide +kernel
theorem d_Mo_worth_67 : decode (yB Y_Mo_worth) 67 = .ok (.iadd, 1) := by decide +kernel
theorem d_Mo_worth_68 : decode (yB Y_Mo_worth) 68 = .ok (.iaload, 1) := by decide +kernel
theorem d_Mo_worth_69 : decode (yB Y_Mo_worth) 69 = .ok (.invokevirtual 222, 3) := by decide +kernel
theorem d_Mo_worth_72 : decode (yB Y_Mo_worth) 72 = .ok (.imul, 1) := by decide +kernel
theorem d_Mo_worth_73 : decode (yB Y_Mo_worth) 73 = .ok (.iadd, 1) := by decide +kernel
theorem d_Mo_worth_74 : decode (yB Y_Mo_worth) 74 = .ok (.istore_n 3, 1) := by decide +kernel
theorem d_Mo_worth_75 : decode (yB Y_Mo_worth) 75 = .ok (.iinc 4 1, 3) := by decide +kernel
theorem d_Mo_worth_78 : decode (yB Y_Mo_worth) 78 = .ok (.goto (-44), 3) := by decide +kernel
theorem d_Mo_worth_81 : decode (yB Y_Mo_worth) 81 = .ok (.aload_n 0, 1) := by decide +kernel
theorem d_Mo_worth_82 : decode (yB Y_Mo_worth) 82 = .ok (.getfield 13, 3) := by decide +kernel
theorem d_Mo_worth_85 : decode (yB Y_Mo_worth) 85 = .ok (.iconst 3, 1) := by decide +kernel
theorem d_Mo_worth_86 : decode (yB Y_Mo_worth) 86 = .ok (.iload_n 2, 1) := by decide +kernel
theorem d_Mo_worth_87 : decode (yB Y_Mo_worth) 87 = .ok (.iastore, 1) := by decide +kernel
theorem d_Mo_worth_88 : decode (yB Y_Mo_worth) 88 = .ok (.iload_n 3, 1) := by decide +kernel
theorem d_Mo_worth_89 : decode (yB Y_Mo_worth) 89 = .ok (.ireturn, 1) := by decide +kernel
def F_Mo_worth_L34 (n : Nat) (E : zE) (S : zS) (r34 : Nat × Int32 × Int32 × Int32 × zH → Option (Int32 × zH)) (a0 : Nat) (x2 : Int32) (x3 : Int32) (x4 : Int32) (M : zH) : Option (Int32 × zH) :=
  (zgR S a0 11 3).bind fun b_1 =>
  (zldI S M b_1 0).bind fun v_2 =>
  if v_2 ≤ x4 then
    (zstI S M b_1 3 x2).bind fun m_4 =>
    some (x3, m_4)
  else
    (zldI S M b_1 (48 + x4)).bind fun v_5 =>
    (zldI S M b_1 (51 + x4)).bind fun v_6 =>
    (F_Mo_paysOf n E S a0 x4 v_6 M).bind fun q_7 =>
    r34 (a0, x2, x3 + (v_5 * q_7.1), x4 + 1, q_7.2)
def F_Mo_worth_b34 (n : Nat) (E : zE) (S : zS) : Nat × Int32 × Int32 × Int32 × zH → Option (Int32 × zH) := zfix (fun r34 s => F_Mo_worth_L34 n E S r34 s.1 s.2.1 s.2.2.1 s.2.2.2.1 s.2.2.2.2) n
def F_Mo_worth (n : Nat) (E : zE) (S : zS) (a0 : Nat) (x1 : Int32) (M : zH) : Option (Int32 × zH) :=
  (zpI S M a0 11 0 0).bind fun m_8 =>
  (zck S a0 11).bind fun u_9 =>
  (F_Mo_isLaw n E S a0 x1 m_8).bind fun q_10 =>
  if q_10.1 = true then
    (zgR S a0 11 3).bind fun b_12 =>
    (zldI S q_10.2 b_12 3).bind fun v_13 =>
    (zstI S q_10.2 b_12 3 x1).bind fun m_14 =>
    F_Mo_worth_b34 n E S (a0, v_13, 0, 0, m_14)
  else
    some ((-1), q_10.2)
theorem K_Mo_worth_L34 (n : Nat) (E : zE) (S : zS) (r34 : Nat × Int32 × Int32 × Int32 × zH → Option (Int32 × zH)) (a0 : Nat) (x2 : Int32) (x3 : Int32) (x4 : Int32) (M : zH) (r : Int32) (M' : zH) (hr34 : ∀ (a0 : Nat) (x2 : Int32) (x3 : Int32) (x4 : Int32) (M : zH), r34 (a0, x2, x3, x4, M) = some (r, M') → zG E Y_Mo_worth (some (.int r), S, M') 34 [(0, .ref a0), (2, .int x2), (3, .int x3), (4, .int x4)] [] S M 0 0) (h : F_Mo_worth_L34 n E S r34 a0 x2 x3 x4 M = some (r, M')) : zG E Y_Mo_worth (some (.int r), S, M') 34 [(0, .ref a0), (2, .int x2), (3, .int x3), (4, .int x4)] [] S M 0 0 := by
  unfold F_Mo_worth_L34 at h
  refine zi_iload 3 d_Mo_worth_34 rfl ?_
  refine zi_aload_n 0 d_Mo_worth_36 rfl ?_
  obtain ⟨b_1, eb_1, h⟩ := zbind h
  refine zo_getR 40 zkd_11 3 d_Mo_worth_37 eb_1 rfl tw_1234 rfl ?_
  refine zi_iconst 0 d_Mo_worth_40 rfl ?_
  obtain ⟨v_2, ev_2, h⟩ := zbind h
  refine zo_iald 42 d_Mo_worth_41 ev_2 rfl ?_
  refine zi_icmp_ge (tgt := 81) d_Mo_worth_42 rfl (fun c_3 => ?_) (fun c_3 => ?_)
  · rw [if_pos c_3] at h
    refine zi_aload_n 0 d_Mo_worth_81 rfl ?_
    refine zo_getR 85 zkd_11 3 d_Mo_worth_82 eb_1 rfl tw_1234 rfl ?_
    refine zi_iconst 3 d_Mo_worth_85 rfl ?_
    refine zi_iload_n 1 d_Mo_worth_86 rfl ?_
    obtain ⟨m_4, em_4, h⟩ := zbind h
    refine zo_iast 88 d_Mo_worth_87 em_4 rfl ?_
    refine zi_iload_n 2 d_Mo_worth_88 rfl ?_
    cases h
    exact zo_ret d_Mo_worth_89 (Nat.le_of_ble_eq_true rfl) (Nat.le_of_ble_eq_true rfl) rfl
  · rw [if_neg c_3] at h
    refine zi_iload_n 2 d_Mo_worth_45 rfl ?_
    refine zi_aload_n 0 d_Mo_worth_46 rfl ?_
    refine zo_getR 50 zkd_11 3 d_Mo_worth_47 eb_1 rfl tw_1234 rfl ?_
    refine zi_bipush 48 d_Mo_worth_50 rfl ?_
    refine zi_iload 3 d_Mo_worth_52 rfl ?_
    refine zi_iadd d_Mo_worth_54 ?_
    obtain ⟨v_5, ev_5, h⟩ := zbind h
    refine zo_iald 56 d_Mo_worth_55 ev_5 rfl ?_
    refine zi_aload_n 0 d_Mo_worth_56 rfl ?_
    refine zi_iload 3 d_Mo_worth_57 rfl ?_
    refine zi_aload_n 0 d_Mo_worth_59 rfl ?_
    refine zo_getR 63 zkd_11 3 d_Mo_worth_60 eb_1 rfl tw_1234 rfl ?_
    refine zi_bipush 51 d_Mo_worth_63 rfl ?_
    refine zi_iload 3 d_Mo_worth_65 rfl ?_
    refine zi_iadd d_Mo_worth_67 ?_
    obtain ⟨v_6, ev_6, h⟩ := zbind h
    refine zo_iald 69 d_Mo_worth_68 ev_6 rfl ?_
    obtain ⟨q_7, eq_7, h⟩ := zbind h
    refine zo_virt (k' := 0) (n' := 0) 72 [.int x4, .int v_6] [.int v_5, .int x3] [.int q_7.1, .int v_5, .int x3] zkd_11 (zgR_s eb_1).1 (C_Mo_paysOf n E S a0 x4 v_6 M q_7.1 q_7.2 eq_7) d_Mo_worth_69 tw_1508 tw_1505 tw_1507 ts_49 tw_13 dd_Mo_paysOf ⟨Nat.le_of_ble_eq_true rfl, Nat.le_of_ble_eq_true rfl, Nat.le_of_ble_eq_true rfl, Nat.le_of_ble_eq_true rfl⟩ (Nat.le_of_ble_eq_true rfl) rfl rfl rfl rfl ?_
    refine zi_imul d_Mo_worth_72 ?_
    refine zi_iadd d_Mo_worth_73 ?_
    refine zi_istore_n [(3, .int (x3 + (v_5 * q_7.1))), (0, .ref a0), (2, .int x2), (4, .int x4)] d_Mo_worth_74 (by decide) rfl ?_
    refine zi_iinc 3 (x4 + 1) [(4, .int (x4 + 1)), (3, .int (x3 + (v_5 * q_7.1))), (0, .ref a0), (2, .int x2)] d_Mo_worth_75 rfl rfl (by decide) rfl ?_
    refine zi_goto (tgt := 34) d_Mo_worth_78 rfl ?_
    refine zi_lo [(0, .ref a0), (2, .int x2), (3, .int (x3 + (v_5 * q_7.1))), (4, .int (x4 + 1))] [2, 3, 1, 0] rfl ?_
    exact hr34 a0 x2 (x3 + (v_5 * q_7.1)) (x4 + 1) q_7.2 h
theorem K_Mo_worth_b34 (n : Nat) (E : zE) (S : zS) (a0 : Nat) (x2 : Int32) (x3 : Int32) (x4 : Int32) (M : zH) (r : Int32) (M' : zH)  (h : F_Mo_worth_b34 n E S (a0, x2, x3, x4, M) = some (r, M')) : zG E Y_Mo_worth (some (.int r), S, M') 34 [(0, .ref a0), (2, .int x2), (3, .int x3), (4, .int x4)] [] S M 0 0 := by
  have key : ∀ (k : Nat) (a0 : Nat) (x2 : Int32) (x3 : Int32) (x4 : Int32) (M : zH), zfix (fun r34 s => F_Mo_worth_L34 n E S r34 s.1 s.2.1 s.2.2.1 s.2.2.2.1 s.2.2.2.2) k (a0, x2, x3, x4, M) = some (r, M') → zG E Y_Mo_worth (some (.int r), S, M') 34 [(0, .ref a0), (2, .int x2), (3, .int x3), (4, .int x4)] [] S M 0 0 := by
    intro k
    induction k with
    | zero => intro a0 x2 x3 x4 M h; cases h
    | succ k ih => intro a0 x2 x3 x4 M h; exact K_Mo_worth_L34 n E S _ a0 x2 x3 x4 M r M'  (fun a0 x2 x3 x4 M h => ih a0 x2 x3 x4 M h) h
  exact key n a0 x2 x3 x4 M h
theorem K_Mo_worth (n : Nat) (E : zE) (S : zS) (a0 : Nat) (x1 : Int32) (M : zH) (r : Int32) (M' : zH)  (h : F_Mo_worth n E S a0 x1 M = some (r, M')) : zG E Y_Mo_worth (some (.int r), S, M') 0 [(0, .ref a0), (1, .int x1)] [] S M 0 0 := by
  unfold F_Mo_worth at h
  refine zi_aload_n 0 d_Mo_worth_0 rfl ?_
  refine zi_iconst 0 d_Mo_worth_1 rfl ?_
  obtain ⟨m_8, em_8, h⟩ := zbind h
  refine zo_putI 5 zkd_11 0 d_Mo_worth_2 em_8 rfl rfl rfl tw_1231 rfl ?_
  refine zi_aload_n 0 d_Mo_worth_5 rfl ?_
  refine zi_iload_n 1 d_Mo_worth_6 rfl ?_
  obtain ⟨u_9, eu_9, h⟩ := zbind h
  obtain ⟨q_10, eq_10, h⟩ := zbind h
  refine zo_virt (k' := 0) (n' := 0) 10 [.int x1] [] [.int (bI q_10.1)] zkd_11 (zck_s eu_9) (C_Mo_isLaw n E S a0 x1 m_8 q_10.1 q_10.2 eq_10) d_Mo_worth_7 tw_1690 tw_1687 tw_1689 ts_77 tw_13 dd_Mo_isLaw ⟨Nat.le_of_ble_eq_true rfl, Nat.le_of_ble_eq_true rfl, Nat.le_of_ble_eq_true rfl, Nat.le_of_ble_eq_true rfl⟩ (Nat.le_of_ble_eq_true rfl) rfl rfl rfl rfl ?_
  refine zo_ifneB d_Mo_worth_10 rfl 13 rfl (fun c_11 => ?_) (fun c_11 => ?_)
  · rw [if_pos c_11] at h
    refine zi_aload_n 0 d_Mo_worth_15 rfl ?_
    obtain ⟨b_12, eb_12, h⟩ := zbind h
    refine zo_getR 19 zkd_11 3 d_Mo_worth_16 eb_12 rfl tw_1234 rfl ?_
    refine zi_iconst 3 d_Mo_worth_19 rfl ?_
    obtain ⟨v_13, ev_13, h⟩ := zbind h
    refine zo_iald 21 d_Mo_worth_20 ev_13 rfl ?_
    refine zi_istore_n [(2, .int v_13), (0, .ref a0), (1, .int x1)] d_Mo_worth_21 (by decide) rfl ?_
    refine zi_aload_n 1 d_Mo_worth_22 rfl ?_
    refine zo_getR 26 zkd_11 3 d_Mo_worth_23 eb_12 rfl tw_1234 rfl ?_
    refine zi_iconst 3 d_Mo_worth_26 rfl ?_
    refine zi_iload_n 2 d_Mo_worth_27 rfl ?_
    obtain ⟨m_14, em_14, h⟩ := zbind h
    refine zo_iast 29 d_Mo_worth_28 em_14 rfl ?_
    refine zi_iconst 0 d_Mo_worth_29 rfl ?_
    refine zi_istore_n [(3, .int 0), (2, .int v_13), (0, .ref a0), (1, .int x1)] d_Mo_worth_30 (by decide) rfl ?_
    refine zi_iconst 0 d_Mo_worth_31 rfl ?_
    refine zi_istore [(4, .int 0), (3, .int 0), (2, .int v_13), (0, .ref a0), (1, .int x1)] d_Mo_worth_32 (by decide) rfl ?_
    refine zi_lo [(0, .ref a0), (2, .int v_13), (3, .int 0), (4, .int 0)] [3, 2, 1, 0] rfl ?_
    exact K_Mo_worth_b34 n E S a0 v_13 0 0 m_14 r M'  h
  · rw [if_neg c_11] at h
    refine zi_iconst (-1) d_Mo_worth_13 rfl ?_
    cases h
    exact zo_ret d_Mo_worth_14 (Nat.le_of_ble_eq_true rfl) (Nat.le_of_ble_eq_true rfl) rfl
theorem C_Mo_worth (n : Nat) (E : zE) (S : zS) (a0 : Nat) (x1 : Int32) (M : zH) (r : Int32) (M' : zH) (h : F_Mo_worth n E S a0 x1 M = some (r, M')) : zC E Y_Mo_worth [.ref a0, .int x1] S M (some (.int r), S, M') :=
  zC.of (Or.inl (show plainName "NightColanderModel" = true by decide)) (Nat.le_of_ble_eq_true rfl) (trivial) (K_Mo_worth n E S a0 x1 M r M' h)
theorem d_Mo_giveBack_0 : decode (yB Y_Mo_giveBack) 0 = .ok (.aload_n 0, 1) := by decide +kernel
theorem d_Mo_giveBack_1 : decode (yB Y_Mo_giveBack) 1 = .ok (.bipush 17, 2) := by decide +kernel
theorem d_Mo_giveBack_3 : decode (yB Y_Mo_giveBack) 3 = .ok (.invokevirtual 173, 3) := by decide +kernel
theorem d_Mo_giveBack_6 : decode (yB Y_Mo_giveBack) 6 = .ok (.iconst 0, 1) := by decide +kernel
theorem d_Mo_giveBack_7 : decode (yB Y_Mo_giveBack) 7 = .ok (.istore_n 2, 1) := by decide +kernel
theorem d_Mo_giveBack_8 : decode (yB Y_Mo_giveBack) 8 = .ok (.iload_n 2, 1) := by decide +kernel
theorem d_Mo_giveBack_9 : decode (yB Y_Mo_giveBack) 9 = .ok (.sipush 800, 3) := by decide +kernel
theorem d_Mo_giveBack_12 : decode (yB Y_Mo_giveBack) 12 = .ok (.if_icmp .ge 21, 3) := by decide +kernel
theorem d_Mo_giveBack_15 : decode (yB Y_Mo_giveBack) 15 = .ok (.aload_n 0, 1) := by decide +kernel
theorem d_Mo_giveBack_16 : decode (yB Y_Mo_giveBack) 16 = .ok (.getfield 23, 3) := by decide +kernel
theorem d_Mo_giveBack_19 : decode (yB Y_Mo_giveBack) 19 = .ok (.iload_n 2, 1) := by decide +kernel
theorem d_Mo_giveBack_20 : decode (yB Y_Mo_giveBack) 20 = .ok (.aload_n 0, 1) := by decide +kernel
theorem d_Mo_giveBack_21 : decode (yB Y_Mo_giveBack) 21 = .ok (.getfield 29, 3) := by decide +kernel
theorem d_Mo_giveBack_24 : decode (yB Y_Mo_giveBack) 24 = .ok (.iload_n 2, 1) := by decide +kernel
theorem d_Mo_giveBack_25 : decode (yB Y_Mo_giveBack) 25 = .ok (.iaload, 1) := by decide +kernel
theorem d_Mo_giveBack_26 : decode (yB Y_Mo_giveBack) 26 = .ok (.iastore, 1) := by decide +kernel
theorem d_Mo_giveBack_27 : decode (yB Y_Mo_giveBack) 27 = .ok (.iinc 2 1, 3) := by decide +kernel
theorem d_Mo_giveBack_30 : decode (yB Y_Mo_giveBack) 30 = .ok (.goto (-22), 3) := by decide +kernel
theorem d_Mo_giveBack_33 : decode (yB Y_Mo_giveBack) 33 = .ok (.iconst 0, 1) := by decide +kernel
theorem d_Mo_giveBack_34 : decode (yB Y_Mo_giveBack) 34 = .ok (.istore_n 2, 1) := by decide +kernel
theorem d_Mo_giveBack_35 : decode (yB Y_Mo_giveBack) 35 = .ok (.iload_n 2, 1) := by decide +kernel
theorem d_Mo_giveBack_36 : decode (yB Y_Mo_giveBack) 36 = .ok (.bipush 16, 2) := by decide +kernel
theorem d_Mo_giveBack_38 : decode (yB Y_Mo_giveBack) 38 = .ok (.if_icmp .ge 21, 3) := by decide +kernel
theorem d_Mo_giveBack_41 : decode (yB Y_Mo_giveBack) 41 = .ok (.aload_n 0, 1) := by decide +kernel
theorem d_Mo_giveBack_42 : decode (yB Y_Mo_giveBack) 42 = .ok (.getfield 26, 3) := by decide +kernel
theorem d_Mo_giveBack_45 : decode (yB Y_Mo_giveBack) 45 = .ok (.iload_n 2, 1) := by decide +kernel
theorem d_Mo_giveBack_46 : decode (yB Y_Mo_giveBack) 46 = .ok (.aload_n 0, 1) := by decide +kernel
theorem d_Mo_giveBack_47 : decode (yB Y_Mo_giveBack) 47 = .ok (.getfield 32, 3) := by decide +kernel
theorem d_Mo_giveBack_50 : decode (yB Y_Mo_giveBack) 50 = .ok (.iload_n 2, 1) := by decide +kernel
theorem d_Mo_giveBack_51 : decode (yB Y_Mo_giveBack) 51 = .ok (.iaload, 1) := by decide +kernel
theorem d_Mo_giveBack_52 : decode (yB Y_Mo_giveBack) 52 = .ok (.iastore, 1) := by decide +kernel
theorem d_Mo_giveBack_53 : decode (yB Y_Mo_giveBack) 53 = .ok (.iinc 2 1, 3) := by decide +kernel
theorem d_Mo_giveBack_56 : decode (yB Y_Mo_giveBack) 56 = .ok (.goto (-21), 3) := by decide +kernel
theorem d_Mo_giveBack_59 : decode (yB Y_Mo_giveBack) 59 = .ok (.aload_n 0, 1) := by decide +kernel
theorem d_Mo_giveBack_60 : decode (yB Y_Mo_giveBack) 60 = .ok (.iload_n 1, 1) := by decide +kernel
theorem d_Mo_giveBack_61 : decode (yB Y_Mo_giveBack) 61 = .ok (.putfield 162, 3) := by decide +kernel
theorem d_Mo_giveBack_64 : decode (yB Y_Mo_giveBack) 64 = .ok (.return_, 1) := by decide +kernel
def F_Mo_giveBack_L35 (n : Nat) (E : zE) (S : zS) (r35 : Nat × Int32 × Int32 × zH → Option (zH)) (a0 : Nat) (x1 : Int32) (x2 : Int32) (M : zH) : Option (zH) :=
  if 16 ≤ x2 then
    (zpI S M a0 11 8 x1).bind fun m_2 =>
    some (m_2)
  else
    (zgR S a0 11 7).bind fun b_3 =>
    (zgR S a0 11 10).bind fun b_4 =>
    (zldI S M b_4 x2).bind fun v_5 =>
    (zstI S M b_3 x2 v_5).bind fun m_6 =>
    r35 (a0, x1, x2 + 1, m_6)
def F_Mo_giveBack_b35 (n : Nat) (E : zE) (S : zS) : Nat × Int32 × Int32 × zH → Option (zH) := zfix (fun r35 s => F_Mo_giveBack_L35 n E S r35 s.1 s.2.1 s.2.2.1 s.2.2.2) n
def F_Mo_giveBack_L8 (n : Nat) (E : zE) (S : zS) (r8 : Nat × Int32 × Int32 × zH → Option (zH)) (a0 : Nat) (x1 : Int32) (x2 : Int32) (M : zH) : Option (zH) :=
  if 800 ≤ x2 then
    F_Mo_giveBack_b35 n E S (a0, x1, 0, M)
  else
    (zgR S a0 11 6).bind fun b_8 =>
    (zgR S a0 11 9).bind fun b_9 =>
    (zldI S M b_9 x2).bind fun v_10 =>
    (zstI S M b_8 x2 v_10).bind fun m_11 =>
    r8 (a0, x1, x2 + 1, m_11)
def F_Mo_giveBack_b8 (n : Nat) (E : zE) (S : zS) : Nat × Int32 × Int32 × zH → Option (zH) := zfix (fun r8 s => F_Mo_giveBack_L8 n E S r8 s.1 s.2.1 s.2.2.1 s.2.2.2) n
def F_Mo_giveBack (n : Nat) (E : zE) (S : zS) (a0 : Nat) (x1 : Int32) (M : zH) : Option (zH) :=
  (zck S a0 11).bind fun u_12 =>
  (F_Mo_putBack n E S a0 17 M).bind fun q_13 =>
  F_Mo_giveBack_b8 n E S (a0, x1, 0, q_13)
theorem K_Mo_giveBack_L35 (n : Nat) (E : zE) (S : zS) (r35 : Nat × Int32 × Int32 × zH → Option (zH)) (a0 : Nat) (x1 : Int32) (x2 : Int32) (M : zH) (M' : zH) (hr35 : ∀ (a0 : Nat) (x1 : Int32) (x2 : Int32) (M : zH), r35 (a0, x1, x2, M) = some M' → zG E Y_Mo_giveBack (none, S, M') 35 [(0, .ref a0), (1, .int x1), (2, .int x2)] [] S M 0 0) (h : F_Mo_giveBack_L35 n E S r35 a0 x1 x2 M = some M') : zG E Y_Mo_giveBack (none, S, M') 35 [(0, .ref a0), (1, .int x1), (2, .int x2)] [] S M 0 0 := by
  unfold F_Mo_giveBack_L35 at h
  refine zi_iload_n 2 d_Mo_giveBack_35 rfl ?_
  refine zi_bipush 16 d_Mo_giveBack_36 rfl ?_
  refine zi_icmp_ge (tgt := 59) d_Mo_giveBack_38 rfl (fun c_1 => ?_) (fun c_1 => ?_)
  · rw [if_pos c_1] at h
    refine zi_aload_n 0 d_Mo_giveBack_59 rfl ?_
    refine zi_iload_n 1 d_Mo_giveBack_60 rfl ?_
    obtain ⟨m_2, em_2, h⟩ := zbind h
    refine zo_putI 64 zkd_11 8 d_Mo_giveBack_61 em_2 rfl rfl rfl tw_1239 rfl ?_
    cases h
    exact zo_ret d_Mo_giveBack_64 (Nat.le_of_ble_eq_true rfl) (Nat.le_of_ble_eq_true rfl) rfl
  · rw [if_neg c_1] at h
    refine zi_aload_n 0 d_Mo_giveBack_41 rfl ?_
    obtain ⟨b_3, eb_3, h⟩ := zbind h
    refine zo_getR 45 zkd_11 7 d_Mo_giveBack_42 eb_3 rfl tw_1238 rfl ?_
    refine zi_iload_n 2 d_Mo_giveBack_45 rfl ?_
    refine zi_aload_n 0 d_Mo_giveBack_46 rfl ?_
    obtain ⟨b_4, eb_4, h⟩ := zbind h
    refine zo_getR 50 zkd_11 10 d_Mo_giveBack_47 eb_4 rfl tw_1241 rfl ?_
    refine zi_iload_n 2 d_Mo_giveBack_50 rfl ?_
    obtain ⟨v_5, ev_5, h⟩ := zbind h
    refine zo_iald 52 d_Mo_giveBack_51 ev_5 rfl ?_
    obtain ⟨m_6, em_6, h⟩ := zbind h
    refine zo_iast 53 d_Mo_giveBack_52 em_6 rfl ?_
    refine zi_iinc 2 (x2 + 1) [(2, .int (x2 + 1)), (0, .ref a0), (1, .int x1)] d_Mo_giveBack_53 rfl rfl (by decide) rfl ?_
    refine zi_goto (tgt := 35) d_Mo_giveBack_56 rfl ?_
    refine zi_lo [(0, .ref a0), (1, .int x1), (2, .int (x2 + 1))] [1, 2, 0] rfl ?_
    exact hr35 a0 x1 (x2 + 1) m_6 h
theorem K_Mo_giveBack_b35 (n : Nat) (E : zE) (S : zS) (a0 : Nat) (x1 : Int32) (x2 : Int32) (M : zH) (M' : zH)  (h : F_Mo_giveBack_b35 n E S (a0, x1, x2, M) = some M') : zG E Y_Mo_giveBack (none, S, M') 35 [(0, .ref a0), (1, .int x1), (2, .int x2)] [] S M 0 0 := by
  have key : ∀ (k : Nat) (a0 : Nat) (x1 : Int32) (x2 : Int32) (M : zH), zfix (fun r35 s => F_Mo_giveBack_L35 n E S r35 s.1 s.2.1 s.2.2.1 s.2.2.2) k (a0, x1, x2, M) = some M' → zG E Y_Mo_giveBack (none, S, M') 35 [(0, .ref a0), (1, .int x1), (2, .int x2)] [] S M 0 0 := by
    intro k
    induction k with
    | zero => intro a0 x1 x2 M h; cases h
    | succ k ih => intro a0 x1 x2 M h; exact K_Mo_giveBack_L35 n E S _ a0 x1 x2 M M'  (fun a0 x1 x2 M h => ih a0 x1 x2 M h) h
  exact key n a0 x1 x2 M h
theorem K_Mo_giveBack_L8 (n : Nat) (E : zE) (S : zS) (r8 : Nat × Int32 × Int32 × zH → Option (zH)) (a0 : Nat) (x1 : Int32) (x2 : Int32) (M : zH) (M' : zH) (hr8 : ∀ (a0 : Nat) (x1 : Int32) (x2 : Int32) (M : zH), r8 (a0, x1, x2, M) = some M' → zG E Y_Mo_giveBack (none, S, M') 8 [(0, .ref a0), (1, .int x1), (2, .int x2)] [] S M 0 0) (h : F_Mo_giveBack_L8 n E S r8 a0 x1 x2 M = some M') : zG E Y_Mo_giveBack (none, S, M') 8 [(0, .ref a0), (1, .int x1), (2, .int x2)] [] S M 0 0 := by
  unfold F_Mo_giveBack_L8 at h
  refine zi_iload_n 2 d_Mo_giveBack_8 rfl ?_
  refine zi_sipush 800 d_Mo_giveBack_9 rfl ?_
  refine zi_icmp_ge (tgt := 33) d_Mo_giveBack_12 rfl (fun c_7 => ?_) (fun c_7 => ?_)
  · rw [if_pos c_7] at h
    refine zi_iconst 0 d_Mo_giveBack_33 rfl ?_
    refine zi_istore_n [(2, .int 0), (0, .ref a0), (1, .int x1)] d_Mo_giveBack_34 (by decide) rfl ?_
    refine zi_lo [(0, .ref a0), (1, .int x1), (2, .int 0)] [1, 2, 0] rfl ?_
    exact K_Mo_giveBack_b35 n E S a0 x1 0 M M'  h
  · rw [if_neg c_7] at h
    refine zi_aload_n 0 d_Mo_giveBack_15 rfl ?_
    obtain ⟨b_8, eb_8, h⟩ := zbind h
    refine zo_getR 19 zkd_11 6 d_Mo_giveBack_16 eb_8 rfl tw_1237 rfl ?_
    refine zi_iload_n 2 d_Mo_giveBack_19 rfl ?_
    refine zi_aload_n 0 d_Mo_giveBack_20 rfl ?_
    obtain ⟨b_9, eb_9, h⟩ := zbind h
    refine zo_getR 24 zkd_11 9 d_Mo_giveBack_21 eb_9 rfl tw_1240 rfl ?_
    refine zi_iload_n 2 d_Mo_giveBack_24 rfl ?_
    obtain ⟨v_10, ev_10, h⟩ := zbind h
    refine zo_iald 26 d_Mo_giveBack_25 ev_10 rfl ?_
    obtain ⟨m_11, em_11, h⟩ := zbind h
    refine zo_iast 27 d_Mo_giveBack_26 em_11 rfl ?_
    refine zi_iinc 2 (x2 + 1) [(2, .int (x2 + 1)), (0, .ref a0), (1, .int x1)] d_Mo_giveBack_27 rfl rfl (by decide) rfl ?_
    refine zi_goto (tgt := 8) d_Mo_giveBack_30 rfl ?_
    refine zi_lo [(0, .ref a0), (1, .int x1), (2, .int (x2 + 1))] [1, 2, 0] rfl ?_
    exact hr8 a0 x1 (x2 + 1) m_11 h
theorem K_Mo_giveBack_b8 (n : Nat) (E : zE) (S : zS) (a0 : Nat) (x1 : Int32) (x2 : Int32) (M : zH) (M' : zH)  (h : F_Mo_giveBack_b8 n E S (a0, x1, x2, M) = some M') : zG E Y_Mo_giveBack (none, S, M') 8 [(0, .ref a0), (1, .int x1), (2, .int x2)] [] S M 0 0 := by
  have key : ∀ (k : Nat) (a0 : Nat) (x1 : Int32) (x2 : Int32) (M : zH), zfix (fun r8 s => F_Mo_giveBack_L8 n E S r8 s.1 s.2.1 s.2.2.1 s.2.2.2) k (a0, x1, x2, M) = some M' → zG E Y_Mo_giveBack (none, S, M') 8 [(0, .ref a0), (1, .int x1), (2, .int x2)] [] S M 0 0 := by
    intro k
    induction k with
    | zero => intro a0 x1 x2 M h; cases h
    | succ k ih => intro a0 x1 x2 M h; exact K_Mo_giveBack_L8 n E S _ a0 x1 x2 M M'  (fun a0 x1 x2 M h => ih a0 x1 x2 M h) h
  exact key n a0 x1 x2 M h
theorem K_Mo_giveBack (n : Nat) (E : zE) (S : zS) (a0 : Nat) (x1 : Int32) (M : zH) (M' : zH)  (h : F_Mo_giveBack n E S a0 x1 M = some M') : zG E Y_Mo_giveBack (none, S, M') 0 [(0, .ref a0), (1, .int x1)] [] S M 0 0 := by
  unfold F_Mo_giveBack at h
  refine zi_aload_n 0 d_Mo_giveBack_0 rfl ?_
  refine zi_bipush 17 d_Mo_giveBack_1 rfl ?_
  obtain ⟨u_12, eu_12, h⟩ := zbind h
  obtain ⟨q_13, eq_13, h⟩ := zbind h
  refine zo_virt (k' := 0) (n' := 0) 6 [.int 17] [] [] zkd_11 (zck_s eu_12) (C_Mo_putBack n E S a0 17 M q_13 eq_13) d_Mo_giveBack_3 tw_1414 tw_1411 tw_1413 ts_37 tw_13 dd_Mo_putBack ⟨Nat.le_of_ble_eq_true rfl, Nat.le_of_ble_eq_true rfl, Nat.le_of_ble_eq_true rfl, Nat.le_of_ble_eq_true rfl⟩ (Nat.le_of_ble_eq_true rfl) rfl rfl rfl rfl ?_
  refine zi_iconst 0 d_Mo_giveBack_6 rfl ?_
  refine zi_istore_n [(2, .int 0), (0, .ref a0), (1, .int x1)] d_Mo_giveBack_7 (by decide) rfl ?_
  refine zi_lo [(0, .ref a0), (1, .int x1), (2, .int 0)] [1, 2, 0] rfl ?_
  exact K_Mo_giveBack_b8 n E S a0 x1 0 q_13 M'  h
theorem C_Mo_giveBack (n : Nat) (E : zE) (S : zS) (a0 : Nat) (x1 : Int32) (M : zH) (M' : zH) (h : F_Mo_giveBack n E S a0 x1 M = some M') : zC E Y_Mo_giveBack [.ref a0, .int x1] S M (none, S, M') :=
  zC.of (Or.inl (show plainName "NightColanderModel" = true by decide)) (Nat.le_of_ble_eq_true rfl) (trivial) (K_Mo_giveBack n E S a0 x1 M M' h)
theorem d_Mo_readSum_0 : decode (yB Y_Mo_readSum) 0 = .ok (.aload_n 0, 1) := by decide +kernel
theorem d_Mo_readSum_1 : decode (yB Y_Mo_readSum) 1 = .ok (.getfield 144, 3) := by decide +kernel
theorem d_Mo_readSum_4 : decode (yB Y_Mo_readSum) 4 = .ok (.iload_n 1, 1) := by decide +kernel
theorem d_Mo_readSum_5 : decode (yB Y_Mo_readSum) 5 = .ok (.aload_n 0, 1) := by decide +kernel
theorem d_Mo_readSum_6 : decode (yB Y_Mo_readSum) 6 = .ok (.getfield 291, 3) := by decide +kernel
theorem d_Mo_readSum_9 : decode (yB Y_Mo_readSum) 9 = .ok (.iastore, 1) := by decide +kernel
theorem d_Mo_readSum_10 : decode (yB Y_Mo_readSum) 10 = .ok (.aload_n 0, 1) := by decide +kernel
theorem d_Mo_readSum_11 : decode (yB Y_Mo_readSum) 11 = .ok (.getfield 256, 3) := by decide +kernel
theorem d_Mo_readSum_14 : decode (yB Y_Mo_readSum) 14 = .ok (.ifCond .ne 8, 3) := by decide +kernel
theorem d_Mo_readSum_17 : decode (yB Y_Mo_readSum) 17 = .ok (.aload_n 0, 1) := by decide +kernel
theorem d_Mo_readSum_18 : decode (yB Y_Mo_readSum) 18 = .ok (.iconst 0, 1) := by decide +kernel
theorem d_Mo_readSum_19 : decode (yB Y_Mo_readSum) 19 = .ok (.invokevirtual 388, 3) := by decide +kernel
theorem d_Mo_readSum_22 : decode (yB Y_Mo_readSum) 22 = .ok (.aload_n 0, 1) := by decide +kernel
theorem d_Mo_readSum_23 : decode (yB Y_Mo_readSum) 23 = .ok (.getfield 144, 3) := by decide +kernel
theorem d_Mo_readSum_26 : decode (yB Y_Mo_readSum) 26 = .ok (.iload_n 1, 1) := by decide +kernel
theorem d_Mo_readSum_27 : decode (yB Y_Mo_readSum) 27 = .ok (.iconst 1, 1) := by decide +kernel
theorem d_Mo_readSum_28 : decode (yB Y_Mo_readSum) 28 = .ok (.iadd, 1) := by decide +kernel
theorem d_Mo_readSum_29 : decode (yB Y_Mo_readSum) 29 = .ok (.aload_n 0, 1) := by decide +kernel
theorem d_Mo_readSum_30 : decode (yB Y_Mo_readSum) 30 = .ok (.getfield 291, 3) := by decide +kernel
theorem d_Mo_readSum_33 : decode (yB Y_Mo_readSum) 33 = .ok (.iastore, 1) := by decide +kernel
theorem d_Mo_readSum_34 : decode (yB Y_Mo_readSum) 34 = .ok (.return_, 1) := by decide +kernel
def F_Mo_readSum_b22 (n : Nat) (E : zE) (S : zS) (a0 : Nat) (x1 : Int32) (M : zH) : Option (zH) :=
  (zgR S a0 11 49).bind fun b_1 =>
  (zgI S M a0 11 23).bind fun v_2 =>
  (zstI S M b_1 (x1 + 1) v_2).bind fun m_3 =>
  some (m_3)
def F_Mo_readSum (n : Nat) (E : zE) (S : zS) (a0 : Nat) (x1 : Int32) (M : zH) : Option (zH) :=
  (zgR S a0 11 49).bind fun b_4 =>
  (zgI S M a0 11 23).bind fun v_5 =>
  (zstI S M b_4 x1 v_5).bind fun m_6 =>
  (zgI S m_6 a0 11 19).bind fun v_7 =>
  if v_7 = 0 then
    (F_Mo_readExpression n E S a0 0 m_6).bind fun q_9 =>
    F_Mo_readSum_b22 n E S a0 x1 q_9
  else
    F_Mo_readSum_b22 n E S a0 x1 m_6
theorem K_Mo_readSum_b22 (n : Nat) (E : zE) (S : zS) (a0 : Nat) (x1 : Int32) (M : zH) (M' : zH)  (h : F_Mo_readSum_b22 n E S a0 x1 M = some M') : zG E Y_Mo_readSum (none, S, M') 22 [(0, .ref a0), (1, .int x1)] [] S M 0 0 := by
  unfold F_Mo_readSum_b22 at h
  refine zi_aload_n 0 d_Mo_readSum_22 rfl ?_
  obtain ⟨b_1, eb_1, h⟩ := zbind h
  refine zo_getR 26 zkd_11 49 d_Mo_readSum_23 eb_1 rfl tw_1280 rfl ?_
  refine zi_iload_n 1 d_Mo_readSum_26 rfl ?_
  refine zi_iconst 1 d_Mo_readSum_27 rfl ?_
  refine zi_iadd d_Mo_readSum_28 ?_
  refine zi_aload_n 0 d_Mo_readSum_29 rfl ?_
  obtain ⟨v_2, ev_2, h⟩ := zbind h
  refine zo_getI 33 zkd_11 23 d_Mo_readSum_30 ev_2 rfl tw_1254 rfl ?_
  obtain ⟨m_3, em_3, h⟩ := zbind h
  refine zo_iast 34 d_Mo_readSum_33 em_3 rfl ?_
  cases h
  exact zo_ret d_Mo_readSum_34 (Nat.le_of_ble_eq_true rfl) (Nat.le_of_ble_eq_true rfl) rfl
theorem K_Mo_readSum (n : Nat) (E : zE) (S : zS) (a0 : Nat) (x1 : Int32) (M : zH) (M' : zH)  (h : F_Mo_readSum n E S a0 x1 M = some M') : zG E Y_Mo_readSum (none, S, M') 0 [(0, .ref a0), (1, .int x1)] [] S M 0 0 := by
  unfold F_Mo_readSum at h
  refine zi_aload_n 0 d_Mo_readSum_0 rfl ?_
  obtain ⟨b_4, eb_4, h⟩ := zbind h
  refine zo_getR 4 zkd_11 49 d_Mo_readSum_1 eb_4 rfl tw_1280 rfl ?_
  refine zi_iload_n 1 d_Mo_readSum_4 rfl ?_
  refine zi_aload_n 0 d_Mo_readSum_5 rfl ?_
  obtain ⟨v_5, ev_5, h⟩ := zbind h
  refine zo_getI 9 zkd_11 23 d_Mo_readSum_6 ev_5 rfl tw_1254 rfl ?_
  obtain ⟨m_6, em_6, h⟩ := zbind h
  refine zo_iast 10 d_Mo_readSum_9 em_6 rfl ?_
  refine zi_aload_n 0 d_Mo_readSum_10 rfl ?_
  obtain ⟨v_7, ev_7, h⟩ := zbind h
  refine zo_getI 14 zkd_11 19 d_Mo_readSum_11 ev_7 rfl tw_1250 rfl ?_
  refine zi_if_ne (tgt := 22) d_Mo_readSum_14 rfl (fun c_8 => ?_) (fun c_8 => ?_)
  · rw [if_neg c_8] at h
    refine zi_lo [(0, .ref a0), (1, .int x1)] [0, 1] rfl ?_
    exact K_Mo_readSum_b22 n E S a0 x1 m_6 M'  h
  · rw [if_pos c_8] at h
    refine zi_aload_n 0 d_Mo_readSum_17 rfl ?_
    refine zi_iconst 0 d_Mo_readSum_18 rfl ?_
    obtain ⟨q_9, eq_9, h⟩ := zbind h
    refine zo_virt (k' := 0) (n' := 0) 22 [.int 0] [] [] zkd_11 (zgR_s eb_4).1 (C_Mo_readExpression n E S a0 0 m_6 q_9 eq_9) d_Mo_readSum_19 tw_1605 tw_1602 tw_1604 ts_60 tw_13 dd_Mo_readExpression ⟨Nat.le_of_ble_eq_true rfl, Nat.le_of_ble_eq_true rfl, Nat.le_of_ble_eq_true rfl, Nat.le_of_ble_eq_true rfl⟩ (Nat.le_of_ble_eq_true rfl) rfl rfl rfl rfl ?_
    refine zi_lo [(0, .ref a0), (1, .int x1)] [0, 1] rfl ?_
    exact K_Mo_readSum_b22 n E S a0 x1 q_9 M'  h
theorem C_Mo_readSum (n : Nat) (E : zE) (S : zS) (a0 : Nat) (x1 : Int32) (M : zH) (M' : zH) (h : F_Mo_readSum n E S a0 x1 M = some M') : zC E Y_Mo_readSum [.ref a0, .int x1] S M (none, S, M') :=
  zC.of (Or.inl (show plainName "NightColanderModel" = true by decide)) (Nat.le_of_ble_eq_true rfl) (trivial) (K_Mo_readSum n E S a0 x1 M M' h)
theorem d_Mo_readOrder_0 : decode (yB Y_Mo_readOrder) 0 = .ok (.iconst (-1), 1) := by decide +kernel
theorem d_Mo_readOrder_1 : decode (yB Y_Mo_readOrder) 1 = .ok (.istore_n 1, 1) := by decide +kernel
theorem d_Mo_readOrder_2 : decode (yB Y_Mo_readOrder) 2 = .ok (.iconst 0, 1) := by decide +kernel
theorem d_Mo_readOrder_3 : decode (yB Y_Mo_readOrder) 3 = .ok (.istore_n 2, 1) := by decide +kernel
theorem d_Mo_readOrder_4 : decode (yB Y_Mo_readOrder) 4 = .ok (.iload_n 2, 1) := by decide +kernel
theorem d_Mo_readOrder_5 : decode (yB Y_Mo_readOrder) 5 = .ok (.iconst 4, 1) := by decide +kernel
theorem d_Mo_readOrder_6 : decode (yB Y_Mo_readOrder) 6 = .ok (.if_icmp .ge 28, 3) := by decide +kernel
theorem d_Mo_readOrder_9 : decode (yB Y_Mo_readOrder) 9 = .ok (.aload_n 0, 1) := by decide +kernel
theorem d_Mo_readOrder_10 : decode (yB Y_Mo_readOrder) 10 = .ok (.aload_n 0, 1) := by decide +kernel
theorem d_Mo_readOrder_11 : decode (yB Y_Mo_readOrder) 11 = .ok (.getfield 141, 3) := by decide +kernel
theorem d_Mo_readOrder_14 : decode (yB Y_Mo_readOrder) 14 = .ok (.iload_n 2, 1) := by decide +kernel
theorem d_Mo_readOrder_15 : decode (yB Y_Mo_readOrder) 15 = .ok (.laload, 1) := by decide +kernel
theorem d_Mo_readOrder_16 : decode (yB Y_Mo_readOrder) 16 = .ok (.invokevirtual 312, 3) := by decide +kernel
theorem d_Mo_readOrder_19 : decode (yB Y_Mo_readOrder) 19 = .ok (.ifCond .eq 7, 3) := by decide +kernel
theorem d_Mo_readOrder_22 : decode (yB Y_Mo_readOrder) 22 = .ok (.iload_n 2, 1) := by decide +kernel
theorem d_Mo_readOrder_23 : decode (yB Y_Mo_readOrder) 23 = .ok (.goto 4, 3) := by decide +kernel
theorem d_Mo_readOrder_26 : decode (yB Y_Mo_readOrder) 26 = .ok (.iload_n 1, 1) := by decide +kernel
theorem d_Mo_readOrder_27 : decode (yB Y_Mo_readOrder) 27 = .ok (.istore_n 1, 1) := by decide +kernel
theorem d_Mo_readOrder_28 : decode (yB Y_Mo_readOrder) 28 = .ok (.iinc 2 1, 3) := by decide +kernel
theorem d_Mo_readOrder_31 : decode (yB Y_Mo_readOrder) 31 = .ok (.goto (-27), 3) := by decide +kernel
theorem d_Mo_readOrder_34 : decode (yB Y_Mo_readOrder) 34 = .ok (.aload_n 0, 1) := by decide +kernel
theorem d_Mo_readOrder_35 : decode (yB Y_Mo_readOrder) 35 = .ok (.iload_n 1, 1) := by decide +kernel
theorem d_Mo_readOrder_36 : decode (yB Y_Mo_readOrder) 36 = .ok (.iconst (-1), 1) := by decide +kernel
theorem d_Mo_readOrder_37 : decode (yB Y_Mo_readOrder) 37 = .ok (.if_icmp .eq 16, 3) := by decide +kernel
theorem d_Mo_readOrder_40 : decode (yB Y_Mo_readOrder) 40 = .ok (.aload_n 0, 1) := by decide +kernel
theorem d_Mo_readOrder_41 : decode (yB Y_Mo_readOrder) 41 = .ok (.getfield 385, 3) := by decide +kernel
theorem d_Mo_readOrder_44 : decode (yB Y_Mo_readOrder) 44 = .ok (.bipush 12, 2) := by decide +kernel
theorem d_Mo_readOrder_46 : decode (yB Y_Mo_readOrder) 46 = .ok (.if_icmp .ge 7, 3) := by decide +kernel
theorem d_Mo_readOrder_49 : decode (yB Y_Mo_readOrder) 49 = .ok (.iconst 1, 1) := by decide +kernel
theorem d_Mo_readOrder_50 : decode (yB Y_Mo_readOrder) 50 = .ok (.goto 4, 3) := by decide +kernel
theorem d_Mo_readOrder_53 : decode (yB Y_Mo_readOrder) 53 = .ok (.iconst 0, 1) := by decide +kernel
theorem d_Mo_readOrder_54 : decode (yB Y_Mo_readOrder) 54 = .ok (.invokevirtual 287, 3) := by decide +kernel
theorem d_Mo_readOrder_57 : decode (yB Y_Mo_readOrder) 57 = .ok (.aload_n 0, 1) := by decide +kernel
theorem d_Mo_readOrder_58 : decode (yB Y_Mo_readOrder) 58 = .ok (.getfield 256, 3) := by decide +kernel
theorem d_Mo_readOrder_61 : decode (yB Y_Mo_readOrder) 61 = .ok (.ifCond .eq 4, 3) := by decide +kernel
theorem d_Mo_readOrder_64 : decode (yB Y_Mo_readOrder) 64 = .ok (.return_, 1) := by decide +kernel
theorem d_Mo_readOrder_65 : decode (yB Y_Mo_readOrder) 65 = .ok (.bipush 8, 2) := by decide +kernel
theorem d_Mo_readOrder_67 : decode (yB Y_Mo_readOrder) 67 = .ok (.aload_n 0, 1) := by decide +kernel
theorem d_Mo_readOrder_68 : decode (yB Y_Mo_readOrder) 68 = .ok (.getfield 385, 3) := by decide +kernel
theorem d_Mo_readOrder_71 : decode (yB Y_Mo_readOrder) 71 = .ok (.imul, 1) := by decide +kernel
theorem d_Mo_readOrder_72 : decode (yB Y_Mo_readOrder) 72 = .ok (.istore_n 2, 1) := by decide +kernel
theorem d_Mo_readOrder_73 : decode (yB Y_Mo_readOrder) 73 = .ok (.aload_n 0, 1) := by decide +kernel
theorem d_Mo_readOrder_74 : decode (yB Y_Mo_readOrder) 74 = .ok (.dup, 1) := by decide +kernel
theorem d_Mo_readOrder_75 : decode (yB Y_Mo_readOrder) 75 = .ok (.getfield 385, 3) := by decide +kernel
theorem d_Mo_readOrder_78 : decode (yB Y_Mo_readOrder) 78 = .ok (.iconst 1, 1) := by decide +kernel
theorem d_Mo_readOrder_79 : decode (yB Y_Mo_readOrder) 79 = .ok (.iadd, 1) := by decide +kernel
theorem d_Mo_readOrder_80 : decode (yB Y_Mo_readOrder) 80 = .ok (.putfield 385, 3) := by decide +kernel
theorem d_Mo_readOrder_83 : decode (yB Y_Mo_readOrder) 83 = .ok (.iconst 0, 1) := by decide +kernel
theorem d_Mo_readOrder_84 : decode (yB Y_Mo_readOrder) 84 = .ok (.istore_n 3, 1) := by decide +kernel
theorem d_Mo_readOrder_85 : decode (yB Y_Mo_readOrder) 85 = .ok (.iload_n 3, 1) := by decide +kernel
theorem d_Mo_readOrder_86 : decode (yB Y_Mo_readOrder) 86 = .ok (.bipush 8, 2) := by decide +kernel
theorem d_Mo_readOrder_88 : decode (yB Y_Mo_readOrder) 88 = .ok (.if_icmp .ge 18, 3) := by decide +kernel
theorem d_Mo_readOrder_91 : decode (yB Y_Mo_readOrder) 91 = .ok (.aload_n 0, 1) := by decide +kernel
theorem d_Mo_readOrder_92 : decode (yB Y_Mo_readOrder) 92 = .ok (.getfield 144, 3) := by decide +kernel
theorem d_Mo_readOrder_95 : decode (yB Y_Mo_readOrder) 95 = .ok (.iload_n 2, 1) := by decide +kernel
theorem d_Mo_readOrder_96 : decode (yB Y_Mo_readOrder) 96 = .ok (.iload_n 3, 1) := by decide +kernel
theorem d_Mo_readOrder_97 : decode (yB Y_Mo_readOrder) 97 = .ok (.iadd, 1) := by decide +kernel
theorem d_Mo_readOrder_98 : decode (yB Y_Mo_readOrder) 98 = .ok (.iconst 0, 1) := by decide +kernel
theorem d_Mo_readOrder_99 : decode (yB Y_Mo_readOrder) 99 = .ok (.iastore, 1) := by decide +kernel
theorem d_Mo_readOrder_100 : decode (yB Y_Mo_readOrder) 100 = .ok (.iinc 3 1, 3) := by decide +kernel
theorem d_Mo_readOrder_103 : decode (yB Y_Mo_readOrder) 103 = .ok (.goto (-18), 3) := by decide +kernel
theorem d_Mo_readOrder_106 : decode (yB Y_Mo_readOrder) 106 = .ok (.aload_n 0, 1) := by decide +kernel
theorem d_Mo_readOrder_107 : decode (yB Y_Mo_readOrder) 107 = .ok (.getfield 144, 3) := by decide +kernel
theorem d_Mo_readOrder_110 : decode (yB Y_Mo_readOrder) 110 = .ok (.iload_n 2, 1) := by decide +kernel
theorem d_Mo_readOrder_111 : decode (yB Y_Mo_readOrder) 111 = .ok (.iload_n 1, 1) := by decide +kernel
theorem d_Mo_readOrder_112 : decode (yB Y_Mo_readOrder) 112 = .ok (.iastore, 1) := by decide +kernel
theorem d_Mo_readOrder_113 : decode (yB Y_Mo_readOrder) 113 = .ok (.iload_n 1, 1) := by decide +kernel
theorem d_Mo_readOrder_114 : decode (yB Y_Mo_readOrder) 114 = .ok (.iconst 3, 1) := by decide +kernel
theorem d_Mo_readOrder_115 : decode (yB Y_Mo_readOrder) 115 = .ok (.if_icmp .eq 46, 3) := by decide +kernel
theorem d_Mo_readOrder_118 : decode (yB Y_Mo_readOrder) 118 = .ok (.aload_n 0, 1) := by decide +kernel
theorem d_Mo_readOrder_119 : decode (yB Y_Mo_readOrder) 119 = .ok (.iload_n 2, 1) := by decide +kernel
theorem d_Mo_readOrder_120 : decode (yB Y_Mo_readOrder) 120 = .ok (.iconst 1, 1) := by decide +kernel
theorem d_Mo_readOrder_121 : decode (yB Y_Mo_readOrder) 121 = .ok (.iadd, 1) := by decide +kernel
theorem d_Mo_readOrder_122 : decode (yB Y_Mo_readOrder) 122 = .ok (.invokevirtual 505, 3) := by decide +kernel
theorem d_Mo_readOrder_125 : decode (yB Y_Mo_readOrder) 125 = .ok (.aload_n 0, 1) := by decide +kernel
theorem d_Mo_readOrder_126 : decode (yB Y_Mo_readOrder) 126 = .ok (.getfield 256, 3) := by decide +kernel
theorem d_Mo_readOrder_129 : decode (yB Y_Mo_readOrder) 129 = .ok (.ifCond .ne 25, 3) := by decide +kernel
theorem d_Mo_readOrder_132 : decode (yB Y_Mo_readOrder) 132 = .ok (.aload_n 0, 1) := by decide +kernel
theorem d_Mo_readOrder_133 : decode (yB Y_Mo_readOrder) 133 = .ok (.aload_n 0, 1) := by decide +kernel
theorem d_Mo_readOrder_134 : decode (yB Y_Mo_readOrder) 134 = .ok (.iload_n 1, 1) := by decide +kernel
theorem d_Mo_readOrder_135 : decode (yB Y_Mo_readOrder) 135 = .ok (.iconst 2, 1) := by decide +kernel
theorem d_Mo_readOrder_136 : decode (yB Y_Mo_readOrder) 136 = .ok (.if_icmp .ne 9, 3) := by decide +kernel
theorem d_Mo_readOrder_139 : decode (yB Y_Mo_readOrder) 139 = .ok (.ldc2_w 508, 3) := by decide +kernel
theorem d_Mo_readOrder_142 : decode (yB Y_Mo_readOrder) 142 = .ok (.goto 6, 3) := by decide +kernel
theorem d_Mo_readOrder_145 : decode (yB Y_Mo_readOrder) 145 = .ok (.ldc2_w 510, 3) := by decide +kernel
theorem d_Mo_readOrder_148 : decode (yB Y_Mo_readOrder) 148 = .ok (.invokevirtual 312, 3) := by decide +kernel
theorem d_Mo_readOrder_151 : decode (yB Y_Mo_readOrder) 151 = .ok (.invokevirtual 287, 3) := by decide +kernel
theorem d_Mo_readOrder_154 : decode (yB Y_Mo_readOrder) 154 = .ok (.aload_n 0, 1) := by decide +kernel
theorem d_Mo_readOrder_155 : decode (yB Y_Mo_readOrder) 155 = .ok (.iload_n 2, 1) := by decide +kernel
theorem d_Mo_readOrder_156 : decode (yB Y_Mo_readOrder) 156 = .ok (.iconst 3, 1) := by decide +kernel
theorem d_Mo_readOrder_157 : decode (yB Y_Mo_readOrder) 157 = .ok (.iadd, 1) := by decide +kernel
theorem d_Mo_readOrder_158 : decode (yB Y_Mo_readOrder) 158 = .ok (.invokevirtual 505, 3) := by decide +kernel
theorem d_Mo_readOrder_161 : decode (yB Y_Mo_readOrder) 161 = .ok (.aload_n 0, 1) := by decide +kernel
theorem d_Mo_readOrder_162 : decode (yB Y_Mo_readOrder) 162 = .ok (.getfield 144, 3) := by decide +kernel
theorem d_Mo_readOrder_165 : decode (yB Y_Mo_readOrder) 165 = .ok (.iload_n 2, 1) := by decide +kernel
theorem d_Mo_readOrder_166 : decode (yB Y_Mo_readOrder) 166 = .ok (.bipush 7, 2) := by decide +kernel
theorem d_Mo_readOrder_168 : decode (yB Y_Mo_readOrder) 168 = .ok (.iadd, 1) := by decide +kernel
theorem d_Mo_readOrder_169 : decode (yB Y_Mo_readOrder) 169 = .ok (.iconst 1, 1) := by decide +kernel
theorem d_Mo_readOrder_170 : decode (yB Y_Mo_readOrder) 170 = .ok (.iastore, 1) := by decide +kernel
theorem d_Mo_readOrder_171 : decode (yB Y_Mo_readOrder) 171 = .ok (.aload_n 0, 1) := by decide +kernel
theorem d_Mo_readOrder_172 : decode (yB Y_Mo_readOrder) 172 = .ok (.getfield 256, 3) := by decide +kernel
theorem d_Mo_readOrder_175 : decode (yB Y_Mo_readOrder) 175 = .ok (.ifCond .ne 34, 3) := by decide +kernel
theorem d_Mo_readOrder_178 : decode (yB Y_Mo_readOrder) 178 = .ok (.aload_n 0, 1) := by decide +kernel
theorem d_Mo_readOrder_179 : decode (yB Y_Mo_readOrder) 179 = .ok (.ldc2_w 512, 3) := by decide +kernel
theorem d_Mo_readOrder_182 : decode (yB Y_Mo_readOrder) 182 = .ok (.invokevirtual 312, 3) := by decide +kernel
theorem d_Mo_readOrder_185 : decode (yB Y_Mo_readOrder) 185 = .ok (.ifCond .eq 24, 3) := by decide +kernel
theorem d_Mo_readOrder_188 : decode (yB Y_Mo_readOrder) 188 = .ok (.aload_n 0, 1) := by decide +kernel
theorem d_Mo_readOrder_189 : decode (yB Y_Mo_readOrder) 189 = .ok (.invokevirtual 260, 3) := by decide +kernel
theorem d_Mo_readOrder_192 : decode (yB Y_Mo_readOrder) 192 = .ok (.aload_n 0, 1) := by decide +kernel
theorem d_Mo_readOrder_193 : decode (yB Y_Mo_readOrder) 193 = .ok (.getfield 144, 3) := by decide +kernel
theorem d_Mo_readOrder_196 : decode (yB Y_Mo_readOrder) 196 = .ok (.iload_n 2, 1) := by decide +kernel
theorem d_Mo_readOrder_197 : decode (yB Y_Mo_readOrder) 197 = .ok (.bipush 7, 2) := by decide +kernel
theorem d_Mo_readOrder_199 : decode (yB Y_Mo_readOrder) 199 = .ok (.iadd, 1) := by decide +kernel
theorem d_Mo_readOrder_200 : decode (yB Y_Mo_readOrder) 200 = .ok (.aload_n 0, 1) := by decide +kernel
theorem d_Mo_readOrder_201 : decode (yB Y_Mo_readOrder) 201 = .ok (.lconst 1, 1) := by decide +kernel
theorem d_Mo_readOrder_202 : decode (yB Y_Mo_readOrder) 202 = .ok (.ldc2_w 304, 3) := by decide +kernel
theorem d_Mo_readOrder_205 : decode (yB Y_Mo_readOrder) 205 = .ok (.invokevirtual 349, 3) := by decide +kernel
theorem d_Mo_readOrder_208 : decode (yB Y_Mo_readOrder) 208 = .ok (.iastore, 1) := by decide +kernel
theorem d_Mo_readOrder_209 : decode (yB Y_Mo_readOrder) 209 = .ok (.aload_n 0, 1) := by decide +kernel
theorem d_Mo_readOrder_210 : decode (yB Y_Mo_readOrder) 210 = .ok (.getfield 144, 3) := by decide +kernel
theorem d_Mo_readOrder_213 : decode (yB Y_Mo_readOrder) 213 = .ok (.iload_n 2, 1) := by decide +kernel
theorem d_Mo_readOrder_214 : decode (yB Y_Mo_readOrder) 214 = .ok (.iconst 5, 1) := by decide +kernel
theorem d_Mo_readOrder_215 : decode (yB Y_Mo_readOrder) 215 = .ok (.iadd, 1) := by decide +kernel
theorem d_Mo_readOrder_216 : decode (yB Y_Mo_readOrder) 216 = .ok (.aload_n 0, 1) := by decide +kernel
theorem d_Mo_readOrder_217 : decode (yB Y_Mo_readOrder) 217 = .ok (.getfield 291, 3) := by decide +kernel
theorem d_Mo_readOrder_220 : decode (yB Y_Mo_readOrder) 220 = .ok (.iastore, 1) := by decide +kernel
theorem d_Mo_readOrder_221 : decode (yB Y_Mo_readOrder) 221 = .ok (.aload_n 0, 1) := by decide +kernel
theorem d_Mo_readOrder_222 : decode (yB Y_Mo_readOrder) 222 = .ok (.getfield 256, 3) := by decide +kernel
theorem d_Mo_readOrder_225 : decode (yB Y_Mo_readOrder) 225 = .ok (.ifCond .ne 22, 3) := by decide +kernel
theorem d_Mo_readOrder_228 : decode (yB Y_Mo_readOrder) 228 = .ok (.aload_n 0, 1) := by decide +kernel
theorem d_Mo_readOrder_229 : decode (yB Y_Mo_readOrder) 229 = .ok (.ldc2_w 391, 3) := by decide +kernel
theorem d_Mo_readOrder_232 : decode (yB Y_Mo_readOrder) 232 = .ok (.invokevirtual 312, 3) := by decide +kernel
theorem d_Mo_readOrder_235 : decode (yB Y_Mo_readOrder) 235 = .ok (.ifCond .eq 12, 3) := by decide +kernel
theorem d_Mo_readOrder_238 : decode (yB Y_Mo_readOrder) 238 = .ok (.aload_n 0, 1) := by decide +kernel
theorem d_Mo_readOrder_239 : decode (yB Y_Mo_readOrder) 239 = .ok (.invokevirtual 260, 3) := by decide +kernel
theorem d_Mo_readOrder_242 : decode (yB Y_Mo_readOrder) 242 = .ok (.aload_n 0, 1) := by decide +kernel
theorem d_Mo_readOrder_243 : decode (yB Y_Mo_readOrder) 243 = .ok (.iconst 1, 1) := by decide +kernel
theorem d_Mo_readOrder_244 : decode (yB Y_Mo_readOrder) 244 = .ok (.invokevirtual 388, 3) := by decide +kernel
theorem d_Mo_readOrder_247 : decode (yB Y_Mo_readOrder) 247 = .ok (.aload_n 0, 1) := by decide +kernel
theorem d_Mo_readOrder_248 : decode (yB Y_Mo_readOrder) 248 = .ok (.getfield 144, 3) := by decide +kernel
theorem d_Mo_readOrder_251 : decode (yB Y_Mo_readOrder) 251 = .ok (.iload_n 2, 1) := by decide +kernel
theorem d_Mo_readOrder_252 : decode (yB Y_Mo_readOrder) 252 = .ok (.bipush 6, 2) := by decide +kernel
theorem d_Mo_readOrder_254 : decode (yB Y_Mo_readOrder) 254 = .ok (.iadd, 1) := by decide +kernel
theorem d_Mo_readOrder_255 : decode (yB Y_Mo_readOrder) 255 = .ok (.aload_n 0, 1) := by decide +kernel
theorem d_Mo_readOrder_256 : decode (yB Y_Mo_readOrder) 256 = .ok (.getfield 291, 3) := by decide +kernel
theorem d_Mo_readOrder_259 : decode (yB Y_Mo_readOrder) 259 = .ok (.iastore, 1) := by decide +kernel
theorem d_Mo_readOrder_260 : decode (yB Y_Mo_readOrder) 260 = .ok (.return_, 1) := by decide +kernel
def F_Mo_readOrder_b27 (n : Nat) (E : zE) (S : zS) (r4 : Nat × Int32 × Int32 × zH → Option (zH)) (a0 : Nat) (x2 : Int32) (s0 : Int32) (M : zH) : Option (zH) :=
  r4 (a0, s0, x2 + 1, M)
def F_Mo_readOrder_b247 (n : Nat) (E : zE) (S : zS) (a0 : Nat) (x2 : Int32) (M : zH) : Option (zH) :=
  (zgR S a0 11 49).bind fun b_1 =>
  (zgI S M a0 11 23).bind fun v_2 =>
  (zstI S M b_1 (x2 + 6) v_2).bind fun m_3 =>
  some (m_3)
def F_Mo_readOrder_b209 (n : Nat) (E : zE) (S : zS) (a0 : Nat) (x2 : Int32) (M : zH) : Option (zH) :=
  (zgR S a0 11 49).bind fun b_4 =>
  (zgI S M a0 11 23).bind fun v_5 =>
  (zstI S M b_4 (x2 + 5) v_5).bind fun m_6 =>
  (zgI S m_6 a0 11 19).bind fun v_7 =>
  if v_7 = 0 then
    (F_Mo_isWord n E S a0 294 m_6).bind fun q_9 =>
    if q_9.1 = true then
      (F_Mo_next n E S a0 q_9.2).bind fun q_11 =>
      (F_Mo_readExpression n E S a0 1 q_11).bind fun q_12 =>
      F_Mo_readOrder_b247 n E S a0 x2 q_12
    else
      F_Mo_readOrder_b247 n E S a0 x2 q_9.2
  else
    F_Mo_readOrder_b247 n E S a0 x2 m_6
def F_Mo_readOrder_b161 (n : Nat) (E : zE) (S : zS) (a0 : Nat) (x2 : Int32) (M : zH) : Option (zH) :=
  (zgR S a0 11 49).bind fun b_13 =>
  (zstI S M b_13 (x2 + 7) 1).bind fun m_14 =>
  (zgI S m_14 a0 11 19).bind fun v_15 =>
  if v_15 = 0 then
    (F_Mo_isWord n E S a0 21279923 m_14).bind fun q_17 =>
    if q_17.1 = true then
      (F_Mo_next n E S a0 q_17.2).bind fun q_19 =>
      (F_Mo_number n E S a0 1 20 q_19).bind fun q_20 =>
      (zstI S q_20.2 b_13 (x2 + 7) q_20.1).bind fun m_21 =>
      F_Mo_readOrder_b209 n E S a0 x2 m_21
    else
      F_Mo_readOrder_b209 n E S a0 x2 q_17.2
  else
    F_Mo_readOrder_b209 n E S a0 x2 m_14
def F_Mo_readOrder_b154 (n : Nat) (E : zE) (S : zS) (a0 : Nat) (x2 : Int32) (M : zH) : Option (zH) :=
  (zck S a0 11).bind fun u_22 =>
  (F_Mo_readSum n E S a0 (x2 + 3) M).bind fun q_23 =>
  F_Mo_readOrder_b161 n E S a0 x2 q_23
def F_Mo_readOrder_b148 (n : Nat) (E : zE) (S : zS) (a0 : Nat) (x2 : Int32) (t0 : Int64) (u1 : Nat) (u2 : Nat) (M : zH) : Option (zH) :=
  (zck S u1 11).bind fun u_24 =>
  (F_Mo_isWord n E S u1 t0 M).bind fun q_25 =>
  (zck S u2 11).bind fun u_26 =>
  (F_Mo_must n E S u2 (bI q_25.1) q_25.2).bind fun q_27 =>
  F_Mo_readOrder_b154 n E S a0 x2 q_27
def F_Mo_readOrder_L85 (n : Nat) (E : zE) (S : zS) (r85 : Nat × Int32 × Int32 × Int32 × zH → Option (zH)) (a0 : Nat) (x1 : Int32) (x2 : Int32) (x3 : Int32) (M : zH) : Option (zH) :=
  if 8 ≤ x3 then
    (zgR S a0 11 49).bind fun b_29 =>
    (zstI S M b_29 x2 x1).bind fun m_30 =>
    if x1 = 3 then
      F_Mo_readOrder_b161 n E S a0 x2 m_30
    else
      (F_Mo_readSum n E S a0 (x2 + 1) m_30).bind fun q_32 =>
      (zgI S q_32 a0 11 19).bind fun v_33 =>
      if v_33 = 0 then
        if x1 = 2 then
          F_Mo_readOrder_b148 n E S a0 x2 52 a0 a0 q_32
        else
          F_Mo_readOrder_b148 n E S a0 x2 486 a0 a0 q_32
      else
        F_Mo_readOrder_b154 n E S a0 x2 q_32
  else
    (zgR S a0 11 49).bind fun b_36 =>
    (zstI S M b_36 (x2 + x3) 0).bind fun m_37 =>
    r85 (a0, x1, x2, x3 + 1, m_37)
def F_Mo_readOrder_b85 (n : Nat) (E : zE) (S : zS) : Nat × Int32 × Int32 × Int32 × zH → Option (zH) := zfix (fun r85 s => F_Mo_readOrder_L85 n E S r85 s.1 s.2.1 s.2.2.1 s.2.2.2.1 s.2.2.2.2) n
def F_Mo_readOrder_b54 (n : Nat) (E : zE) (S : zS) (a0 : Nat) (x1 : Int32) (s0 : Int32) (u1 : Nat) (M : zH) : Option (zH) :=
  (zck S u1 11).bind fun u_38 =>
  (F_Mo_must n E S u1 s0 M).bind fun q_39 =>
  (zgI S q_39 a0 11 19).bind fun v_40 =>
  if v_40 = 0 then
    (zgI S q_39 a0 11 21).bind fun v_42 =>
    (zgI S q_39 a0 11 21).bind fun v_43 =>
    (zpI S q_39 a0 11 21 (v_43 + 1)).bind fun m_44 =>
    F_Mo_readOrder_b85 n E S (a0, x1, 8 * v_42, 0, m_44)
  else
    some (q_39)
def F_Mo_readOrder_b53 (n : Nat) (E : zE) (S : zS) (a0 : Nat) (x1 : Int32) (u0 : Nat) (M : zH) : Option (zH) :=
  F_Mo_readOrder_b54 n E S a0 x1 0 u0 M
def F_Mo_readOrder_L4 (n : Nat) (E : zE) (S : zS) (r4 : Nat × Int32 × Int32 × zH → Option (zH)) (a0 : Nat) (x1 : Int32) (x2 : Int32) (M : zH) : Option (zH) :=
  if 4 ≤ x2 then
    if x1 = (-1) then
      F_Mo_readOrder_b53 n E S a0 x1 a0 M
    else
      (zgI S M a0 11 21).bind fun v_47 =>
      if 12 ≤ v_47 then
        F_Mo_readOrder_b53 n E S a0 x1 a0 M
      else
        F_Mo_readOrder_b54 n E S a0 x1 1 a0 M
  else
    (zgR S a0 11 48).bind fun b_49 =>
    (zldJ S M b_49 x2).bind fun v_50 =>
    (F_Mo_isWord n E S a0 v_50 M).bind fun q_51 =>
    if q_51.1 = true then
      F_Mo_readOrder_b27 n E S r4 a0 x2 x2 q_51.2
    else
      F_Mo_readOrder_b27 n E S r4 a0 x2 x1 q_51.2
def F_Mo_readOrder_b4 (n : Nat) (E : zE) (S : zS) : Nat × Int32 × Int32 × zH → Option (zH) := zfix (fun r4 s => F_Mo_readOrder_L4 n E S r4 s.1 s.2.1 s.2.2.1 s.2.2.2) n
def F_Mo_readOrder (n : Nat) (E : zE) (S : zS) (a0 : Nat) (M : zH) : Option (zH) :=
  F_Mo_readOrder_b4 n E S (a0, (-1), 0, M)
theorem K_Mo_readOrder_b27 (n : Nat) (E : zE) (S : zS) (r4 : Nat × Int32 × Int32 × zH → Option (zH)) (a0 : Nat) (x2 : Int32) (s0 : Int32) (M : zH) (M' : zH) (hr4 : ∀ (a0 : Nat) (x1 : Int32) (x2 : Int32) (M : zH), r4 (a0, x1, x2, M) = some M' → zG E Y_Mo_readOrder (none, S, M') 4 [(0, .ref a0), (1, .int x1), (2, .int x2)] [] S M 0 0) (h : F_Mo_readOrder_b27 n E S r4 a0 x2 s0 M = some M') : zG E Y_Mo_readOrder (none, S, M') 27 [(0, .ref a0), (2, .int x2)] [.int s0] S M 0 0 := by
  unfold F_Mo_readOrder_b27 at h
  refine zi_istore_n [(1, .int s0), (0, .ref a0), (2, .int x2)] d_Mo_readOrder_27 (by decide) rfl ?_
  refine zi_iinc 2 (x2 + 1) [(2, .int (x2 + 1)), (1, .int s0), (0, .ref a0)] d_Mo_readOrder_28 rfl rfl (by decide) rfl ?_
  refine zi_goto (tgt := 4) d_Mo_readOrder_31 rfl ?_
  refine zi_lo [(0, .ref a0), (1, .int s0), (2, .int (x2 + 1))] [2, 1, 0] rfl ?_
  exact hr4 a0 s0 (x2 + 1) M h
theorem K_Mo_readOrder_b247 (n : Nat) (E : zE) (S : zS) (a0 : Nat) (x2 : Int32) (M : zH) (M' : zH)  (h : F_Mo_readOrder_b247 n E S a0 x2 M = some M') : zG E Y_Mo_readOrder (none, S, M') 247 [(0, .ref a0), (2, .int x2)] [] S M 0 0 := by
  unfold F_Mo_readOrder_b247 at h
  refine zi_aload_n 0 d_Mo_readOrder_247 rfl ?_
  obtain ⟨b_1, eb_1, h⟩ := zbind h
  refine zo_getR 251 zkd_11 49 d_Mo_readOrder_248 eb_1 rfl tw_1280 rfl ?_
  refine zi_iload_n 1 d_Mo_readOrder_251 rfl ?_
  refine zi_bipush 6 d_Mo_readOrder_252 rfl ?_
  refine zi_iadd d_Mo_readOrder_254 ?_
  refine zi_aload_n 0 d_Mo_readOrder_255 rfl ?_
  obtain ⟨v_2, ev_2, h⟩ := zbind h
  refine zo_getI 259 zkd_11 23 d_Mo_readOrder_256 ev_2 rfl tw_1254 rfl ?_
  obtain ⟨m_3, em_3, h⟩ := zbind h
  refine zo_iast 260 d_Mo_readOrder_259 em_3 rfl ?_
  cases h
  exact zo_ret d_Mo_readOrder_260 (Nat.le_of_ble_eq_true rfl) (Nat.le_of_ble_eq_true rfl) rfl
theorem K_Mo_readOrder_b209 (n : Nat) (E : zE) (S : zS) (a0 : Nat) (x2 : Int32) (M : zH) (M' : zH)  (h : F_Mo_readOrder_b209 n E S a0 x2 M = some M') : zG E Y_Mo_readOrder (none, S, M') 209 [(0, .ref a0), (2, .int x2)] [] S M 0 0 := by
  unfold F_Mo_readOrder_b209 at h
  refine zi_aload_n 0 d_Mo_readOrder_209 rfl ?_
  obtain ⟨b_4, eb_4, h⟩ := zbind h
  refine zo_getR 213 zkd_11 49 d_Mo_readOrder_210 eb_4 rfl tw_1280 rfl ?_
  refine zi_iload_n 1 d_Mo_readOrder_213 rfl ?_
  refine zi_iconst 5 d_Mo_readOrder_214 rfl ?_
  refine zi_iadd d_Mo_readOrder_215 ?_
  refine zi_aload_n 0 d_Mo_readOrder_216 rfl ?_
  obtain ⟨v_5, ev_5, h⟩ := zbind h
  refine zo_getI 220 zkd_11 23 d_Mo_readOrder_217 ev_5 rfl tw_1254 rfl ?_
  obtain ⟨m_6, em_6, h⟩ := zbind h
  refine zo_iast 221 d_Mo_readOrder_220 em_6 rfl ?_
  refine zi_aload_n 0 d_Mo_readOrder_221 rfl ?_
  obtain ⟨v_7, ev_7, h⟩ := zbind h
  refine zo_getI 225 zkd_11 19 d_Mo_readOrder_222 ev_7 rfl tw_1250 rfl ?_
  refine zi_if_ne (tgt := 247) d_Mo_readOrder_225 rfl (fun c_8 => ?_) (fun c_8 => ?_)
  · rw [if_neg c_8] at h
    refine zi_lo [(0, .ref a0), (2, .int x2)] [0, 1] rfl ?_
    exact K_Mo_readOrder_b247 n E S a0 x2 m_6 M'  h
  · rw [if_pos c_8] at h
    refine zi_aload_n 0 d_Mo_readOrder_228 rfl ?_
    refine zi_ldc2 d_Mo_readOrder_229 tw_1678 ?_
    obtain ⟨q_9, eq_9, h⟩ := zbind h
    refine zo_virt (k' := 0) (n' := 0) 235 [.long 294] [] [.int (bI q_9.1)] zkd_11 (zgR_s eb_4).1 (C_Mo_isWord n E S a0 294 m_6 q_9.1 q_9.2 eq_9) d_Mo_readOrder_232 tw_1597 tw_1594 tw_1596 ts_58 tw_13 dd_Mo_isWord ⟨Nat.le_of_ble_eq_true rfl, Nat.le_of_ble_eq_true rfl, Nat.le_of_ble_eq_true rfl, Nat.le_of_ble_eq_true rfl⟩ (Nat.le_of_ble_eq_true rfl) rfl rfl rfl rfl ?_
    refine zo_ifeqB d_Mo_readOrder_235 rfl 238 rfl (fun c_10 => ?_) (fun c_10 => ?_)
    · rw [if_neg c_10] at h
      refine zi_lo [(0, .ref a0), (2, .int x2)] [0, 1] rfl ?_
      exact K_Mo_readOrder_b247 n E S a0 x2 q_9.2 M'  h
    · rw [if_pos c_10] at h
      refine zi_aload_n 0 d_Mo_readOrder_238 rfl ?_
      obtain ⟨q_11, eq_11, h⟩ := zbind h
      refine zo_virt (k' := 0) (n' := 0) 242 [] [] [] zkd_11 (zgR_s eb_4).1 (C_Mo_next n E S a0 q_9.2 q_11 eq_11) d_Mo_readOrder_239 tw_1579 tw_1576 tw_1578 ts_56 tw_13 dd_Mo_next ⟨Nat.le_of_ble_eq_true rfl, Nat.le_of_ble_eq_true rfl, Nat.le_of_ble_eq_true rfl, Nat.le_of_ble_eq_true rfl⟩ (Nat.le_of_ble_eq_true rfl) rfl rfl rfl rfl ?_
      refine zi_aload_n 0 d_Mo_readOrder_242 rfl ?_
      refine zi_iconst 1 d_Mo_readOrder_243 rfl ?_
      obtain ⟨q_12, eq_12, h⟩ := zbind h
      refine zo_virt (k' := 0) (n' := 0) 247 [.int 1] [] [] zkd_11 (zgR_s eb_4).1 (C_Mo_readExpression n E S a0 1 q_11 q_12 eq_12) d_Mo_readOrder_244 tw_1605 tw_1602 tw_1604 ts_60 tw_13 dd_Mo_readExpression ⟨Nat.le_of_ble_eq_true rfl, Nat.le_of_ble_eq_true rfl, Nat.le_of_ble_eq_true rfl, Nat.le_of_ble_eq_true rfl⟩ (Nat.le_of_ble_eq_true rfl) rfl rfl rfl rfl ?_
      refine zi_lo [(0, .ref a0), (2, .int x2)] [0, 1] rfl ?_
      exact K_Mo_readOrder_b247 n E S a0 x2 q_12 M'  h
theorem K_Mo_readOrder_b161 (n : Nat) (E : zE) (S : zS) (a0 : Nat) (x2 : Int32) (M : zH) (M' : zH)  (h : F_Mo_readOrder_b161 n E S a0 x2 M = some M') : zG E Y_Mo_readOrder (none, S, M') 161 [(0, .ref a0), (2, .int x2)] [] S M 0 0 := by
  unfold F_Mo_readOrder_b161 at h
  refine zi_aload_n 0 d_Mo_readOrder_161 rfl ?_
  obtain ⟨b_13, eb_13, h⟩ := zbind h
  refine zo_getR 165 zkd_11 49 d_Mo_readOrder_162 eb_13 rfl tw_1280 rfl ?_
  refine zi_iload_n 1 d_Mo_readOrder_165 rfl ?_
  refine zi_bipush 7 d_Mo_readOrder_166 rfl ?_
  refine zi_iadd d_Mo_readOrder_168 ?_
  refine zi_iconst 1 d_Mo_readOrder_169 rfl ?_
  obtain ⟨m_14, em_14, h⟩ := zbind h
  refine zo_iast 171 d_Mo_readOrder_170 em_14 rfl ?_
  refine zi_aload_n 0 d_Mo_readOrder_171 rfl ?_
  obtain ⟨v_15, ev_15, h⟩ := zbind h
  refine zo_getI 175 zkd_11 19 d_Mo_readOrder_172 ev_15 rfl tw_1250 rfl ?_
  refine zi_if_ne (tgt := 209) d_Mo_readOrder_175 rfl (fun c_16 => ?_) (fun c_16 => ?_)
  · rw [if_neg c_16] at h
    refine zi_lo [(0, .ref a0), (2, .int x2)] [0, 1] rfl ?_
    exact K_Mo_readOrder_b209 n E S a0 x2 m_14 M'  h
  · rw [if_pos c_16] at h
    refine zi_aload_n 0 d_Mo_readOrder_178 rfl ?_
    refine zi_ldc2 d_Mo_readOrder_179 tw_1860 ?_
    obtain ⟨q_17, eq_17, h⟩ := zbind h
    refine zo_virt (k' := 0) (n' := 0) 185 [.long 21279923] [] [.int (bI q_17.1)] zkd_11 (zgR_s eb_13).1 (C_Mo_isWord n E S a0 21279923 m_14 q_17.1 q_17.2 eq_17) d_Mo_readOrder_182 tw_1597 tw_1594 tw_1596 ts_58 tw_13 dd_Mo_isWord ⟨Nat.le_of_ble_eq_true rfl, Nat.le_of_ble_eq_true rfl, Nat.le_of_ble_eq_true rfl, Nat.le_of_ble_eq_true rfl⟩ (Nat.le_of_ble_eq_true rfl) rfl rfl rfl rfl ?_
    refine zo_ifeqB d_Mo_readOrder_185 rfl 188 rfl (fun c_18 => ?_) (fun c_18 => ?_)
    · rw [if_neg c_18] at h
      refine zi_lo [(0, .ref a0), (2, .int x2)] [0, 1] rfl ?_
      exact K_Mo_readOrder_b209 n E S a0 x2 q_17.2 M'  h
    · rw [if_pos c_18] at h
      refine zi_aload_n 0 d_Mo_readOrder_188 rfl ?_
      obtain ⟨q_19, eq_19, h⟩ := zbind h
      refine zo_virt (k' := 0) (n' := 0) 192 [] [] [] zkd_11 (zgR_s eb_13).1 (C_Mo_next n E S a0 q_17.2 q_19 eq_19) d_Mo_readOrder_189 tw_1579 tw_1576 tw_1578 ts_56 tw_13 dd_Mo_next ⟨Nat.le_of_ble_eq_true rfl, Nat.le_of_ble_eq_true rfl, Nat.le_of_ble_eq_true rfl, Nat.le_of_ble_eq_true rfl⟩ (Nat.le_of_ble_eq_true rfl) rfl rfl rfl rfl ?_
      refine zi_aload_n 0 d_Mo_readOrder_192 rfl ?_
      refine zo_getR 196 zkd_11 49 d_Mo_readOrder_193 eb_13 rfl tw_1280 rfl ?_
      refine zi_iload_n 1 d_Mo_readOrder_196 rfl ?_
      refine zi_bipush 7 d_Mo_readOrder_197 rfl ?_
      refine zi_iadd d_Mo_readOrder_199 ?_
      refine zi_aload_n 0 d_Mo_readOrder_200 rfl ?_
      refine zi_lconst 1 d_Mo_readOrder_201 rfl ?_
      refine zi_ldc2 d_Mo_readOrder_202 tw_1668 ?_
      obtain ⟨q_20, eq_20, h⟩ := zbind h
      refine zo_virt (k' := 0) (n' := 0) 208 [.long 1, .long 20] [.int (x2 + 7), .ref b_13] [.int q_20.1, .int (x2 + 7), .ref b_13] zkd_11 (zgR_s eb_13).1 (C_Mo_number n E S a0 1 20 q_19 q_20.1 q_20.2 eq_20) d_Mo_readOrder_205 tw_1648 tw_1645 tw_1647 ts_70 tw_13 dd_Mo_number ⟨Nat.le_of_ble_eq_true rfl, Nat.le_of_ble_eq_true rfl, Nat.le_of_ble_eq_true rfl, Nat.le_of_ble_eq_true rfl⟩ (Nat.le_of_ble_eq_true rfl) rfl rfl rfl rfl ?_
      obtain ⟨m_21, em_21, h⟩ := zbind h
      refine zo_iast 209 d_Mo_readOrder_208 em_21 rfl ?_
      refine zi_lo [(0, .ref a0), (2, .int x2)] [0, 1] rfl ?_
      exact K_Mo_readOrder_b209 n E S a0 x2 m_21 M'  h
theorem K_Mo_readOrder_b154 (n : Nat) (E : zE) (S : zS) (a0 : Nat) (x2 : Int32) (M : zH) (M' : zH)  (h : F_Mo_readOrder_b154 n E S a0 x2 M = some M') : zG E Y_Mo_readOrder (none, S, M') 154 [(0, .ref a0), (2, .int x2)] [] S M 0 0 := by
  unfold F_Mo_readOrder_b154 at h
  refine zi_aload_n 0 d_Mo_readOrder_154 rfl ?_
  refine zi_iload_n 1 d_Mo_readOrder_155 rfl ?_
  refine zi_iconst 3 d_Mo_readOrder_156 rfl ?_
  refine zi_iadd d_Mo_readOrder_157 ?_
  obtain ⟨u_22, eu_22, h⟩ := zbind h
  obtain ⟨q_23, eq_23, h⟩ := zbind h
  refine zo_virt (k' := 0) (n' := 0) 161 [.int (x2 + 3)] [] [] zkd_11 (zck_s eu_22) (C_Mo_readSum n E S a0 (x2 + 3) M q_23 eq_23) d_Mo_readOrder_158 tw_1857 tw_1854 tw_1856 ts_97 tw_13 dd_Mo_readSum ⟨Nat.le_of_ble_eq_true rfl, Nat.le_of_ble_eq_true rfl, Nat.le_of_ble_eq_true rfl, Nat.le_of_ble_eq_true rfl⟩ (Nat.le_of_ble_eq_true rfl) rfl rfl rfl rfl ?_
  refine zi_lo [(0, .ref a0), (2, .int x2)] [0, 1] rfl ?_
  exact K_Mo_readOrder_b161 n E S a0 x2 q_23 M'  h
theorem K_Mo_readOrder_b148 (n : Nat) (E : zE) (S : zS) (a0 : Nat) (x2 : Int32) (t0 : Int64) (u1 : Nat) (u2 : Nat) (M : zH) (M' : zH)  (h : F_Mo_readOrder_b148 n E S a0 x2 t0 u1 u2 M = some M') : zG E Y_Mo_readOrder (none, S, M') 148 [(0, .ref a0), (2, .int x2)] [.long t0, .ref u1, .ref u2] S M 0 0 := by
  unfold F_Mo_readOrder_b148 at h
  obtain ⟨u_24, eu_24, h⟩ := zbind h
  obtain ⟨q_25, eq_25, h⟩ := zbind h
  refine zo_virt (k' := 0) (n' := 0) 151 [.long t0] [.ref u2] [.int (bI q_25.1), .ref u2] zkd_11 (zck_s eu_24) (C_Mo_isWord n E S u1 t0 M q_25.1 q_25.2 eq_25) d_Mo_readOrder_148 tw_1597 tw_1594 tw_1596 ts_58 tw_13 dd_Mo_isWord ⟨Nat.le_of_ble_eq_true rfl, Nat.le_of_ble_eq_true rfl, Nat.le_of_ble_eq_true rfl, Nat.le_of_ble_eq_true rfl⟩ (Nat.le_of_ble_eq_true rfl) rfl rfl rfl rfl ?_
  obtain ⟨u_26, eu_26, h⟩ := zbind h
  obtain ⟨q_27, eq_27, h⟩ := zbind h
  refine zo_virt (k' := 0) (n' := 0) 154 [.int (bI q_25.1)] [] [] zkd_11 (zck_s eu_26) (C_Mo_must n E S u2 (bI q_25.1) q_25.2 q_27 eq_27) d_Mo_readOrder_151 tw_1601 tw_1598 tw_1600 ts_59 tw_13 dd_Mo_must ⟨Nat.le_of_ble_eq_true rfl, Nat.le_of_ble_eq_true rfl, Nat.le_of_ble_eq_true rfl, Nat.le_of_ble_eq_true rfl⟩ (Nat.le_of_ble_eq_true rfl) rfl rfl rfl rfl ?_
  refine zi_lo [(0, .ref a0), (2, .int x2)] [0, 1] rfl ?_
  exact K_Mo_readOrder_b154 n E S a0 x2 q_27 M'  h
theorem K_Mo_readOrder_L85 (n : Nat) (E : zE) (S : zS) (r85 : Nat × Int32 × Int32 × Int32 × zH → Option (zH)) (a0 : Nat) (x1 : Int32) (x2 : Int32) (x3 : Int32) (M : zH) (M' : zH) (hr85 : ∀ (a0 : Nat) (x1 : Int32) (x2 : Int32) (x3 : Int32) (M : zH), r85 (a0, x1, x2, x3, M) = some M' → zG E Y_Mo_readOrder (none, S, M') 85 [(0, .ref a0), (1, .int x1), (2, .int x2), (3, .int x3)] [] S M 0 0) (h : F_Mo_readOrder_L85 n E S r85 a0 x1 x2 x3 M = some M') : zG E Y_Mo_readOrder (none, S, M') 85 [(0, .ref a0), (1, .int x1), (2, .int x2), (3, .int x3)] [] S M 0 0 := by
  unfold F_Mo_readOrder_L85 at h
  refine zi_iload_n 3 d_Mo_readOrder_85 rfl ?_
  refine zi_bipush 8 d_Mo_readOrder_86 rfl ?_
  refine zi_icmp_ge (tgt := 106) d_Mo_readOrder_88 rfl (fun c_28 => ?_) (fun c_28 => ?_)
  · rw [if_pos c_28] at h
    refine zi_aload_n 0 d_Mo_readOrder_106 rfl ?_
    obtain ⟨b_29, eb_29, h⟩ := zbind h
    refine zo_getR 110 zkd_11 49 d_Mo_readOrder_107 eb_29 rfl tw_1280 rfl ?_
    refine zi_iload_n 2 d_Mo_readOrder_110 rfl ?_
    refine zi_iload_n 1 d_Mo_readOrder_111 rfl ?_
    obtain ⟨m_30, em_30, h⟩ := zbind h
    refine zo_iast 113 d_Mo_readOrder_112 em_30 rfl ?_
    refine zi_iload_n 1 d_Mo_readOrder_113 rfl ?_
    refine zi_iconst 3 d_Mo_readOrder_114 rfl ?_
    refine zi_icmp_eq (tgt := 161) d_Mo_readOrder_115 rfl (fun c_31 => ?_) (fun c_31 => ?_)
    · rw [if_pos c_31] at h
      refine zi_lo [(0, .ref a0), (2, .int x2)] [0, 2] rfl ?_
      exact K_Mo_readOrder_b161 n E S a0 x2 m_30 M'  h
    · rw [if_neg c_31] at h
      refine zi_aload_n 0 d_Mo_readOrder_118 rfl ?_
      refine zi_iload_n 2 d_Mo_readOrder_119 rfl ?_
      refine zi_iconst 1 d_Mo_readOrder_120 rfl ?_
      refine zi_iadd d_Mo_readOrder_121 ?_
      obtain ⟨q_32, eq_32, h⟩ := zbind h
      refine zo_virt (k' := 0) (n' := 0) 125 [.int (x2 + 1)] [] [] zkd_11 (zgR_s eb_29).1 (C_Mo_readSum n E S a0 (x2 + 1) m_30 q_32 eq_32) d_Mo_readOrder_122 tw_1857 tw_1854 tw_1856 ts_97 tw_13 dd_Mo_readSum ⟨Nat.le_of_ble_eq_true rfl, Nat.le_of_ble_eq_true rfl, Nat.le_of_ble_eq_true rfl, Nat.le_of_ble_eq_true rfl⟩ (Nat.le_of_ble_eq_true rfl) rfl rfl rfl rfl ?_
      refine zi_aload_n 0 d_Mo_readOrder_125 rfl ?_
      obtain ⟨v_33, ev_33, h⟩ := zbind h
      refine zo_getI 129 zkd_11 19 d_Mo_readOrder_126 ev_33 rfl tw_1250 rfl ?_
      refine zi_if_ne (tgt := 154) d_Mo_readOrder_129 rfl (fun c_34 => ?_) (fun c_34 => ?_)
      · rw [if_neg c_34] at h
        refine zi_lo [(0, .ref a0), (2, .int x2)] [0, 2] rfl ?_
        exact K_Mo_readOrder_b154 n E S a0 x2 q_32 M'  h
      · rw [if_pos c_34] at h
        refine zi_aload_n 0 d_Mo_readOrder_132 rfl ?_
        refine zi_aload_n 0 d_Mo_readOrder_133 rfl ?_
        refine zi_iload_n 1 d_Mo_readOrder_134 rfl ?_
        refine zi_iconst 2 d_Mo_readOrder_135 rfl ?_
        refine zi_icmp_ne (tgt := 145) d_Mo_readOrder_136 rfl (fun c_35 => ?_) (fun c_35 => ?_)
        · rw [if_neg c_35] at h
          refine zi_ldc2 d_Mo_readOrder_145 tw_1859 ?_
          refine zi_lo [(0, .ref a0), (2, .int x2)] [0, 2] rfl ?_
          exact K_Mo_readOrder_b148 n E S a0 x2 486 a0 a0 q_32 M'  h
        · rw [if_pos c_35] at h
          refine zi_ldc2 d_Mo_readOrder_139 tw_1858 ?_
          refine zi_goto (tgt := 148) d_Mo_readOrder_142 rfl ?_
          refine zi_lo [(0, .ref a0), (2, .int x2)] [0, 2] rfl ?_
          exact K_Mo_readOrder_b148 n E S a0 x2 52 a0 a0 q_32 M'  h
  · rw [if_neg c_28] at h
    refine zi_aload_n 0 d_Mo_readOrder_91 rfl ?_
    obtain ⟨b_36, eb_36, h⟩ := zbind h
    refine zo_getR 95 zkd_11 49 d_Mo_readOrder_92 eb_36 rfl tw_1280 rfl ?_
    refine zi_iload_n 2 d_Mo_readOrder_95 rfl ?_
    refine zi_iload_n 3 d_Mo_readOrder_96 rfl ?_
    refine zi_iadd d_Mo_readOrder_97 ?_
    refine zi_iconst 0 d_Mo_readOrder_98 rfl ?_
    obtain ⟨m_37, em_37, h⟩ := zbind h
    refine zo_iast 100 d_Mo_readOrder_99 em_37 rfl ?_
    refine zi_iinc 3 (x3 + 1) [(3, .int (x3 + 1)), (0, .ref a0), (1, .int x1), (2, .int x2)] d_Mo_readOrder_100 rfl rfl (by decide) rfl ?_
    refine zi_goto (tgt := 85) d_Mo_readOrder_103 rfl ?_
    refine zi_lo [(0, .ref a0), (1, .int x1), (2, .int x2), (3, .int (x3 + 1))] [1, 2, 3, 0] rfl ?_
    exact hr85 a0 x1 x2 (x3 + 1) m_37 h
theorem K_Mo_readOrder_b85 (n : Nat) (E : zE) (S : zS) (a0 : Nat) (x1 : Int32) (x2 : Int32) (x3 : Int32) (M : zH) (M' : zH)  (h : F_Mo_readOrder_b85 n E S (a0, x1, x2, x3, M) = some M') : zG E Y_Mo_readOrder (none, S, M') 85 [(0, .ref a0), (1, .int x1), (2, .int x2), (3, .int x3)] [] S M 0 0 := by
  have key : ∀ (k : Nat) (a0 : Nat) (x1 : Int32) (x2 : Int32) (x3 : Int32) (M : zH), zfix (fun r85 s => F_Mo_readOrder_L85 n E S r85 s.1 s.2.1 s.2.2.1 s.2.2.2.1 s.2.2.2.2) k (a0, x1, x2, x3, M) = some M' → zG E Y_Mo_readOrder (none, S, M') 85 [(0, .ref a0), (1, .int x1), (2, .int x2), (3, .int x3)] [] S M 0 0 := by
    intro k
    induction k with
    | zero => intro a0 x1 x2 x3 M h; cases h
    | succ k ih => intro a0 x1 x2 x3 M h; exact K_Mo_readOrder_L85 n E S _ a0 x1 x2 x3 M M'  (fun a0 x1 x2 x3 M h => ih a0 x1 x2 x3 M h) h
  exact key n a0 x1 x2 x3 M h
theorem K_Mo_readOrder_b54 (n : Nat) (E : zE) (S : zS) (a0 : Nat) (x1 : Int32) (s0 : Int32) (u1 : Nat) (M : zH) (M' : zH)  (h : F_Mo_readOrder_b54 n E S a0 x1 s0 u1 M = some M') : zG E Y_Mo_readOrder (none, S, M') 54 [(0, .ref a0), (1, .int x1)] [.int s0, .ref u1] S M 0 0 := by
  unfold F_Mo_readOrder_b54 at h
  obtain ⟨u_38, eu_38, h⟩ := zbind h
  obtain ⟨q_39, eq_39, h⟩ := zbind h
  refine zo_virt (k' := 0) (n' := 0) 57 [.int s0] [] [] zkd_11 (zck_s eu_38) (C_Mo_must n E S u1 s0 M q_39 eq_39) d_Mo_readOrder_54 tw_1601 tw_1598 tw_1600 ts_59 tw_13 dd_Mo_must ⟨Nat.le_of_ble_eq_true rfl, Nat.le_of_ble_eq_true rfl, Nat.le_of_ble_eq_true rfl, Nat.le_of_ble_eq_true rfl⟩ (Nat.le_of_ble_eq_true rfl) rfl rfl rfl rfl ?_
  refine zi_aload_n 0 d_Mo_readOrder_57 rfl ?_
  obtain ⟨v_40, ev_40, h⟩ := zbind h
  refine zo_getI 61 zkd_11 19 d_Mo_readOrder_58 ev_40 rfl tw_1250 rfl ?_
  refine zi_if_eq (tgt := 65) d_Mo_readOrder_61 rfl (fun c_41 => ?_) (fun c_41 => ?_)
  · rw [if_pos c_41] at h
    refine zi_bipush 8 d_Mo_readOrder_65 rfl ?_
    refine zi_aload_n 0 d_Mo_readOrder_67 rfl ?_
    obtain ⟨v_42, ev_42, h⟩ := zbind h
    refine zo_getI 71 zkd_11 21 d_Mo_readOrder_68 ev_42 rfl tw_1252 rfl ?_
    refine zi_imul d_Mo_readOrder_71 ?_
    refine zi_istore_n [(2, .int (8 * v_42)), (0, .ref a0), (1, .int x1)] d_Mo_readOrder_72 (by decide) rfl ?_
    refine zi_aload_n 1 d_Mo_readOrder_73 rfl ?_
    refine zi_dup d_Mo_readOrder_74 rfl ?_
    obtain ⟨v_43, ev_43, h⟩ := zbind h
    refine zo_getI 78 zkd_11 21 d_Mo_readOrder_75 ev_43 rfl tw_1252 rfl ?_
    refine zi_iconst 1 d_Mo_readOrder_78 rfl ?_
    refine zi_iadd d_Mo_readOrder_79 ?_
    obtain ⟨m_44, em_44, h⟩ := zbind h
    refine zo_putI 83 zkd_11 21 d_Mo_readOrder_80 em_44 rfl rfl rfl tw_1252 rfl ?_
    refine zi_iconst 0 d_Mo_readOrder_83 rfl ?_
    refine zi_istore_n [(3, .int 0), (2, .int (8 * v_42)), (0, .ref a0), (1, .int x1)] d_Mo_readOrder_84 (by decide) rfl ?_
    refine zi_lo [(0, .ref a0), (1, .int x1), (2, .int (8 * v_42)), (3, .int 0)] [2, 3, 1, 0] rfl ?_
    exact K_Mo_readOrder_b85 n E S a0 x1 (8 * v_42) 0 m_44 M'  h
  · rw [if_neg c_41] at h
    cases h
    exact zo_ret d_Mo_readOrder_64 (Nat.le_of_ble_eq_true rfl) (Nat.le_of_ble_eq_true rfl) rfl
theorem K_Mo_readOrder_b53 (n : Nat) (E : zE) (S : zS) (a0 : Nat) (x1 : Int32) (u0 : Nat) (M : zH) (M' : zH)  (h : F_Mo_readOrder_b53 n E S a0 x1 u0 M = some M') : zG E Y_Mo_readOrder (none, S, M') 53 [(0, .ref a0), (1, .int x1)] [.ref u0] S M 0 0 := by
  unfold F_Mo_readOrder_b53 at h
  refine zi_iconst 0 d_Mo_readOrder_53 rfl ?_
  refine zi_lo [(0, .ref a0), (1, .int x1)] [0, 1] rfl ?_
  exact K_Mo_readOrder_b54 n E S a0 x1 0 u0 M M'  h
theorem K_Mo_readOrder_L4 (n : Nat) (E : zE) (S : zS) (r4 : Nat × Int32 × Int32 × zH → Option (zH)) (a0 : Nat) (x1 : Int32) (x2 : Int32) (M : zH) (M' : zH) (hr4 : ∀ (a0 : Nat) (x1 : Int32) (x2 : Int32) (M : zH), r4 (a0, x1, x2, M) = some M' → zG E Y_Mo_readOrder (none, S, M') 4 [(0, .ref a0), (1, .int x1), (2, .int x2)] [] S M 0 0) (h : F_Mo_readOrder_L4 n E S r4 a0 x1 x2 M = some M') : zG E Y_Mo_readOrder (none, S, M') 4 [(0, .ref a0), (1, .int x1), (2, .int x2)] [] S M 0 0 := by
  unfold F_Mo_readOrder_L4 at h
  refine zi_iload_n 2 d_Mo_readOrder_4 rfl ?_
  refine zi_iconst 4 d_Mo_readOrder_5 rfl ?_
  refine zi_icmp_ge (tgt := 34) d_Mo_readOrder_6 rfl (fun c_45 => ?_) (fun c_45 => ?_)
  · rw [if_pos c_45] at h
    refine zi_aload_n 0 d_Mo_readOrder_34 rfl ?_
    refine zi_iload_n 1 d_Mo_readOrder_35 rfl ?_
    refine zi_iconst (-1) d_Mo_readOrder_36 rfl ?_
    refine zi_icmp_eq (tgt := 53) d_Mo_readOrder_37 rfl (fun c_46 => ?_) (fun c_46 => ?_)
    · rw [if_pos c_46] at h
      refine zi_lo [(0, .ref a0), (1, .int x1)] [0, 1] rfl ?_
      exact K_Mo_readOrder_b53 n E S a0 x1 a0 M M'  h
    · rw [if_neg c_46] at h
      refine zi_aload_n 0 d_Mo_readOrder_40 rfl ?_
      obtain ⟨v_47, ev_47, h⟩ := zbind h
      refine zo_getI 44 zkd_11 21 d_Mo_readOrder_41 ev_47 rfl tw_1252 rfl ?_
      refine zi_bipush 12 d_Mo_readOrder_44 rfl ?_
      refine zi_icmp_ge (tgt := 53) d_Mo_readOrder_46 rfl (fun c_48 => ?_) (fun c_48 => ?_)
      · rw [if_pos c_48] at h
        refine zi_lo [(0, .ref a0), (1, .int x1)] [0, 1] rfl ?_
        exact K_Mo_readOrder_b53 n E S a0 x1 a0 M M'  h
      · rw [if_neg c_48] at h
        refine zi_iconst 1 d_Mo_readOrder_49 rfl ?_
        refine zi_goto (tgt := 54) d_Mo_readOrder_50 rfl ?_
        refine zi_lo [(0, .ref a0), (1, .int x1)] [0, 1] rfl ?_
        exact K_Mo_readOrder_b54 n E S a0 x1 1 a0 M M'  h
  · rw [if_neg c_45] at h
    refine zi_aload_n 0 d_Mo_readOrder_9 rfl ?_
    refine zi_aload_n 0 d_Mo_readOrder_10 rfl ?_
    obtain ⟨b_49, eb_49, h⟩ := zbind h
    refine zo_getR 14 zkd_11 48 d_Mo_readOrder_11 eb_49 rfl tw_1279 rfl ?_
    refine zi_iload_n 2 d_Mo_readOrder_14 rfl ?_
    obtain ⟨v_50, ev_50, h⟩ := zbind h
    refine zo_lald 16 d_Mo_readOrder_15 ev_50 rfl ?_
    obtain ⟨q_51, eq_51, h⟩ := zbind h
    refine zo_virt (k' := 0) (n' := 0) 19 [.long v_50] [] [.int (bI q_51.1)] zkd_11 (zgR_s eb_49).1 (C_Mo_isWord n E S a0 v_50 M q_51.1 q_51.2 eq_51) d_Mo_readOrder_16 tw_1597 tw_1594 tw_1596 ts_58 tw_13 dd_Mo_isWord ⟨Nat.le_of_ble_eq_true rfl, Nat.le_of_ble_eq_true rfl, Nat.le_of_ble_eq_true rfl, Nat.le_of_ble_eq_true rfl⟩ (Nat.le_of_ble_eq_true rfl) rfl rfl rfl rfl ?_
    refine zo_ifeqB d_Mo_readOrder_19 rfl 22 rfl (fun c_52 => ?_) (fun c_52 => ?_)
    · rw [if_neg c_52] at h
      refine zi_iload_n 1 d_Mo_readOrder_26 rfl ?_
      refine zi_lo [(0, .ref a0), (2, .int x2)] [0, 2] rfl ?_
      exact K_Mo_readOrder_b27 n E S r4 a0 x2 x1 q_51.2 M' hr4 h
    · rw [if_pos c_52] at h
      refine zi_iload_n 2 d_Mo_readOrder_22 rfl ?_
      refine zi_goto (tgt := 27) d_Mo_readOrder_23 rfl ?_
      refine zi_lo [(0, .ref a0), (2, .int x2)] [0, 2] rfl ?_
      exact K_Mo_readOrder_b27 n E S r4 a0 x2 x2 q_51.2 M' hr4 h
theorem K_Mo_readOrder_b4 (n : Nat) (E : zE) (S : zS) (a0 : Nat) (x1 : Int32) (x2 : Int32) (M : zH) (M' : zH)  (h : F_Mo_readOrder_b4 n E S (a0, x1, x2, M) = some M') : zG E Y_Mo_readOrder (none, S, M') 4 [(0, .ref a0), (1, .int x1), (2, .int x2)] [] S M 0 0 := by
  have key : ∀ (k : Nat) (a0 : Nat) (x1 : Int32) (x2 : Int32) (M : zH), zfix (fun r4 s => F_Mo_readOrder_L4 n E S r4 s.1 s.2.1 s.2.2.1 s.2.2.2) k (a0, x1, x2, M) = some M' → zG E Y_Mo_readOrder (none, S, M') 4 [(0, .ref a0), (1, .int x1), (2, .int x2)] [] S M 0 0 := by
    intro k
    induction k with
    | zero => intro a0 x1 x2 M h; cases h
    | succ k ih => intro a0 x1 x2 M h; exact K_Mo_readOrder_L4 n E S _ a0 x1 x2 M M'  (fun a0 x1 x2 M h => ih a0 x1 x2 M h) h
  exact key n a0 x1 x2 M h
theorem K_Mo_readOrder (n : Nat) (E : zE) (S : zS) (a0 : Nat) (M : zH) (M' : zH)  (h : F_Mo_readOrder n E S a0 M = some M') : zG E Y_Mo_readOrder (none, S, M') 0 [(0, .ref a0)] [] S M 0 0 := by
  unfold F_Mo_readOrder at h
  refine zi_iconst (-1) d_Mo_readOrder_0 rfl ?_
  refine zi_istore_n [(1, .int (-1)), (0, .ref a0)] d_Mo_readOrder_1 (by decide) rfl ?_
  refine zi_iconst 0 d_Mo_readOrder_2 rfl ?_
  refine zi_istore_n [(2, .int 0), (1, .int (-1)), (0, .ref a0)] d_Mo_readOrder_3 (by decide) rfl ?_
  refine zi_lo [(0, .ref a0), (1, .int (-1)), (2, .int 0)] [2, 1, 0] rfl ?_
  exact K_Mo_readOrder_b4 n E S a0 (-1) 0 M M'  h
theorem C_Mo_readOrder (n : Nat) (E : zE) (S : zS) (a0 : Nat) (M : zH) (M' : zH) (h : F_Mo_readOrder n E S a0 M = some M') : zC E Y_Mo_readOrder [.ref a0] S M (none, S, M') :=
  zC.of (Or.inl (show plainName "NightColanderModel" = true by decide)) (Nat.le_of_ble_eq_true rfl) (trivial) (K_Mo_readOrder n E S a0 M M' h)
theorem d_Mo_act_0 : decode (yB Y_Mo_act) 0 = .ok (.iload_n 1, 1) := by decide +kernel
theorem d_Mo_act_1 : decode (yB Y_Mo_act) 1 = .ok (.tableswitch 48 0 2 #[27, 34, 41], 27) := by decide +kernel
theorem d_Mo_act_28 : decode (yB Y_Mo_act) 28 = .ok (.aload_n 0, 1) := by decide +kernel
theorem d_Mo_act_29 : decode (yB Y_Mo_act) 29 = .ok (.iload_n 2, 1) := by decide +kernel
theorem d_Mo_act_30 : decode (yB Y_Mo_act) 30 = .ok (.iload_n 3, 1) := by decide +kernel
theorem d_Mo_act_31 : decode (yB Y_Mo_act) 31 = .ok (.invokevirtual 448, 3) := by decide +kernel
theorem d_Mo_act_34 : decode (yB Y_Mo_act) 34 = .ok (.ireturn, 1) := by decide +kernel
theorem d_Mo_act_35 : decode (yB Y_Mo_act) 35 = .ok (.aload_n 0, 1) := by decide +kernel
theorem d_Mo_act_36 : decode (yB Y_Mo_act) 36 = .ok (.iload_n 2, 1) := by decide +kernel
theorem d_Mo_act_37 : decode (yB Y_Mo_act) 37 = .ok (.iload_n 3, 1) := by decide +kernel
theorem d_Mo_act_38 : decode (yB Y_Mo_act) 38 = .ok (.invokevirtual 451, 3) := by decide +kernel
theorem d_Mo_act_41 : decode (yB Y_Mo_act) 41 = .ok (.ireturn, 1) := by decide +kernel
theorem d_Mo_act_42 : decode (yB Y_Mo_act) 42 = .ok (.aload_n 0, 1) := by decide +kernel
theorem d_Mo_act_43 : decode (yB Y_Mo_act) 43 = .ok (.iload_n 2, 1) := by decide +kernel
theorem d_Mo_act_44 : decode (yB Y_Mo_act) 44 = .ok (.iload_n 3, 1) := by decide +kernel
theorem d_Mo_act_45 : decode (yB Y_Mo_act) 45 = .ok (.invokevirtual 454, 3) := by decide +kernel
theorem d_Mo_act_48 : decode (yB Y_Mo_act) 48 = .ok (.ireturn, 1) := by decide +kernel
theorem d_Mo_act_49 : decode (yB Y_Mo_act) 49 = .ok (.aload_n 0, 1) := by decide +kernel
theorem d_Mo_act_50 : decode (yB Y_Mo_act) 50 = .ok (.invokevirtual 469, 3) := by decide +kernel
theorem d_Mo_act_53 : decode (yB Y_Mo_act) 53 = .ok (.ireturn, 1) := by decide +kernel
def F_Mo_act (n : Nat) (E : zE) (S : zS) (a0 : Nat) (x1 : Int32) (x2 : Int32) (x3 : Int32) (M : zH) : Option (Int32 × zH) :=
  if x1 = 0 then
    (zck S a0 11).bind fun u_2 =>
    (F_Mo_blockNow n E S a0 x2 x3 M).bind fun q_3 =>
    some (q_3.1, q_3.2)
  else
  if x1 = 1 then
    (zck S a0 11).bind fun u_5 =>
    (F_Mo_reamNow n E S a0 x2 x3 M).bind fun q_6 =>
    some (q_6.1, q_6.2)
  else
  if x1 = 2 then
    (zck S a0 11).bind fun u_8 =>
    (F_Mo_setNow n E S a0 x2 x3 M).bind fun q_9 =>
    some (q_9.1, q_9.2)
  else
    (zck S a0 11).bind fun u_10 =>
    (F_Mo_passNow n E S a0 M).bind fun q_11 =>
    some (q_11.1, q_11.2)
theorem K_Mo_act (n : Nat) (E : zE) (S : zS) (a0 : Nat) (x1 : Int32) (x2 : Int32) (x3 : Int32) (M : zH) (r : Int32) (M' : zH)  (h : F_Mo_act n E S a0 x1 x2 x3 M = some (r, M')) : zG E Y_Mo_act (some (.int r), S, M') 0 [(0, .ref a0), (1, .int x1), (2, .int x2), (3, .int x3)] [] S M 0 0 := by
  unfold F_Mo_act at h
  refine zi_iload_n 1 d_Mo_act_0 rfl ?_
  by_cases c_1 : x1 = 0
  · rw [if_pos c_1] at h
    refine zo_tab (tgt := 28) 0 d_Mo_act_1 c_1 (by decide) (by decide) rfl rfl ?_
    refine zi_aload_n 0 d_Mo_act_28 rfl ?_
    refine zi_iload_n 2 d_Mo_act_29 rfl ?_
    refine zi_iload_n 3 d_Mo_act_30 rfl ?_
    obtain ⟨u_2, eu_2, h⟩ := zbind h
    obtain ⟨q_3, eq_3, h⟩ := zbind h
    refine zo_virt (k' := 0) (n' := 0) 34 [.int x2, .int x3] [] [.int q_3.1] zkd_11 (zck_s eu_2) (C_Mo_blockNow n E S a0 x2 x3 M q_3.1 q_3.2 eq_3) d_Mo_act_31 tw_1698 tw_1695 tw_1697 ts_78 tw_13 dd_Mo_blockNow ⟨Nat.le_of_ble_eq_true rfl, Nat.le_of_ble_eq_true rfl, Nat.le_of_ble_eq_true rfl, Nat.le_of_ble_eq_true rfl⟩ (Nat.le_of_ble_eq_true rfl) rfl rfl rfl rfl ?_
    cases h
    exact zo_ret d_Mo_act_34 (Nat.le_of_ble_eq_true rfl) (Nat.le_of_ble_eq_true rfl) rfl
  rw [if_neg c_1] at h
  by_cases c_4 : x1 = 1
  · rw [if_pos c_4] at h
    refine zo_tab (tgt := 35) 1 d_Mo_act_1 c_4 (by decide) (by decide) rfl rfl ?_
    refine zi_aload_n 0 d_Mo_act_35 rfl ?_
    refine zi_iload_n 2 d_Mo_act_36 rfl ?_
    refine zi_iload_n 3 d_Mo_act_37 rfl ?_
    obtain ⟨u_5, eu_5, h⟩ := zbind h
    obtain ⟨q_6, eq_6, h⟩ := zbind h
    refine zo_virt (k' := 0) (n' := 0) 41 [.int x2, .int x3] [] [.int q_6.1] zkd_11 (zck_s eu_5) (C_Mo_reamNow n E S a0 x2 x3 M q_6.1 q_6.2 eq_6) d_Mo_act_38 tw_1714 tw_1711 tw_1713 ts_81 tw_13 dd_Mo_reamNow ⟨Nat.le_of_ble_eq_true rfl, Nat.le_of_ble_eq_true rfl, Nat.le_of_ble_eq_true rfl, Nat.le_of_ble_eq_true rfl⟩ (Nat.le_of_ble_eq_true rfl) rfl rfl rfl rfl ?_
    cases h
    exact zo_ret d_Mo_act_41 (Nat.le_of_ble_eq_true rfl) (Nat.le_of_ble_eq_true rfl) rfl
  rw [if_neg c_4] at h
  by_cases c_7 : x1 = 2
  · rw [if_pos c_7] at h
    refine zo_tab (tgt := 42) 2 d_Mo_act_1 c_7 (by decide) (by decide) rfl rfl ?_
    refine zi_aload_n 0 d_Mo_act_42 rfl ?_
    refine zi_iload_n 2 d_Mo_act_43 rfl ?_
    refine zi_iload_n 3 d_Mo_act_44 rfl ?_
    obtain ⟨u_8, eu_8, h⟩ := zbind h
    obtain ⟨q_9, eq_9, h⟩ := zbind h
    refine zo_virt (k' := 0) (n' := 0) 48 [.int x2, .int x3] [] [.int q_9.1] zkd_11 (zck_s eu_8) (C_Mo_setNow n E S a0 x2 x3 M q_9.1 q_9.2 eq_9) d_Mo_act_45 tw_1722 tw_1719 tw_1721 ts_82 tw_13 dd_Mo_setNow ⟨Nat.le_of_ble_eq_true rfl, Nat.le_of_ble_eq_true rfl, Nat.le_of_ble_eq_true rfl, Nat.le_of_ble_eq_true rfl⟩ (Nat.le_of_ble_eq_true rfl) rfl rfl rfl rfl ?_
    cases h
    exact zo_ret d_Mo_act_48 (Nat.le_of_ble_eq_true rfl) (Nat.le_of_ble_eq_true rfl) rfl
  rw [if_neg c_7] at h
  refine zo_tabP (tgt := 49) 0 3 d_Mo_act_1 rfl rfl (fun j hj => by match j, hj with | 0, _ => exact c_1  | 1, _ => exact c_4  | 2, _ => exact c_7 | j + 3, hj => exact absurd hj (by omega)) rfl ?_
  refine zi_aload_n 0 d_Mo_act_49 rfl ?_
  obtain ⟨u_10, eu_10, h⟩ := zbind h
  obtain ⟨q_11, eq_11, h⟩ := zbind h
  refine zo_virt (k' := 0) (n' := 0) 53 [] [] [.int q_11.1] zkd_11 (zck_s eu_10) (C_Mo_passNow n E S a0 M q_11.1 q_11.2 eq_11) d_Mo_act_50 tw_1730 tw_1727 tw_1729 ts_83 tw_13 dd_Mo_passNow ⟨Nat.le_of_ble_eq_true rfl, Nat.le_of_ble_eq_true rfl, Nat.le_of_ble_eq_true rfl, Nat.le_of_ble_eq_true rfl⟩ (Nat.le_of_ble_eq_true rfl) rfl rfl rfl rfl ?_
  cases h
  exact zo_ret d_Mo_act_53 (Nat.le_of_ble_eq_true rfl) (Nat.le_of_ble_eq_true rfl) rfl
theorem C_Mo_act (n : Nat) (E : zE) (S : zS) (a0 : Nat) (x1 : Int32) (x2 : Int32) (x3 : Int32) (M : zH) (r : Int32) (M' : zH) (h : F_Mo_act n E S a0 x1 x2 x3 M = some (r, M')) : zC E Y_Mo_act [.ref a0, .int x1, .int x2, .int x3] S M (some (.int r), S, M') :=
  zC.of (Or.inl (show plainName "NightColanderModel" = true by decide)) (Nat.le_of_ble_eq_true rfl) (trivial) (K_Mo_act n E S a0 x1 x2 x3 M r M' h)
theorem d_Mo_levels_0 : decode (yB Y_Mo_levels) 0 = .ok (.iconst 0, 1) := by decide +kernel
theorem d_Mo_levels_1 : decode (yB Y_Mo_levels) 1 = .ok (.istore_n 1, 1) := by decide +kernel
theorem d_Mo_levels_2 : decode (yB Y_Mo_levels) 2 = .ok (.iconst 0, 1) := by decide +kernel
theorem d_Mo_levels_3 : decode (yB Y_Mo_levels) 3 = .ok (.istore_n 2, 1) := by decide +kernel
theorem d_Mo_levels_4 : decode (yB Y_Mo_levels) 4 = .ok (.iload_n 2, 1) := by decide +kernel
theorem d_Mo_levels_5 : decode (yB Y_Mo_levels) 5 = .ok (.aload_n 0, 1) := by decide +kernel
theorem d_Mo_levels_6 : decode (yB Y_Mo_levels) 6 = .ok (.getfield 13, 3) := by decide +kernel
theorem d_Mo_levels_9 : decode (yB Y_Mo_levels) 9 = .ok (.iconst 0, 1) := by decide +kernel
theorem d_Mo_levels_10 : decode (yB Y_Mo_levels) 10 = .ok (.iaload, 1) := by decide +kernel
theorem d_Mo_levels_11 : decode (yB Y_Mo_levels) 11 = .ok (.if_icmp .ge 21, 3) := by decide +kernel
theorem d_Mo_levels_14 : decode (yB Y_Mo_levels) 14 = .ok (.iload_n 1, 1) := by decide +kernel
theorem d_Mo_levels_15 : decode (yB Y_Mo_levels) 15 = .ok (.aload_n 0, 1) := by decide +kernel
theorem d_Mo_levels_16 : decode (yB Y_Mo_levels) 16 = .ok (.getfield 13, 3) := by decide +kernel
theorem d_Mo_levels_19 : decode (yB Y_Mo_levels) 19 = .ok (.bipush 48, 2) := by decide +kernel
theorem d_Mo_levels_21 : decode (yB Y_Mo_levels) 21 = .ok (.iload_n 2, 1) := by decide +kernel
theorem d_Mo_levels_22 : decode (yB Y_Mo_levels) 22 = .ok (.iadd, 1) := by decide +kernel
theorem d_Mo_levels_23 : decode (yB Y_Mo_levels) 23 = .ok (.iaload, 1) := by decide +kernel
theorem d_Mo_levels_24 : decode (yB Y_Mo_levels) 24 = .ok (.iadd, 1) := by decide +kernel
theorem d_Mo_levels_25 : decode (yB Y_Mo_levels) 25 = .ok (.istore_n 1, 1) := by decide +kernel
theorem d_Mo_levels_26 : decode (yB Y_Mo_levels) 26 = .ok (.iinc 2 1, 3) := by decide +kernel
theorem d_Mo_levels_29 : decode (yB Y_Mo_levels) 29 = .ok (.goto (-25), 3) := by decide +kernel
theorem d_Mo_levels_32 : decode (yB Y_Mo_levels) 32 = .ok (.iload_n 1, 1) := by decide +kernel
theorem d_Mo_levels_33 : decode (yB Y_Mo_levels) 33 = .ok (.ireturn, 1) := by decide +kernel
def F_Mo_levels_L4 (n : Nat) (E : zE) (S : zS) (r4 : Nat × Int32 × Int32 × zH → Option (Int32 × zH)) (a0 : Nat) (x1 : Int32) (x2 : Int32) (M : zH) : Option (Int32 × zH) :=
  (zgR S a0 11 3).bind fun b_1 =>
  (zldI S M b_1 0).bind fun v_2 =>
  if v_2 ≤ x2 then
    some (x1, M)
  else
    (zldI S M b_1 (48 + x2)).bind fun v_4 =>
    r4 (a0, x1 + v_4, x2 + 1, M)
def F_Mo_levels_b4 (n : Nat) (E : zE) (S : zS) : Nat × Int32 × Int32 × zH → Option (Int32 × zH) := zfix (fun r4 s => F_Mo_levels_L4 n E S r4 s.1 s.2.1 s.2.2.1 s.2.2.2) n
def F_Mo_levels (n : Nat) (E : zE) (S : zS) (a0 : Nat) (M : zH) : Option (Int32 × zH) :=
  F_Mo_levels_b4 n E S (a0, 0, 0, M)
theorem K_Mo_levels_L4 (n : Nat) (E : zE) (S : zS) (r4 : Nat × Int32 × Int32 × zH → Option (Int32 × zH)) (a0 : Nat) (x1 : Int32) (x2 : Int32) (M : zH) (r : Int32) (M' : zH) (hr4 : ∀ (a0 : Nat) (x1 : Int32) (x2 : Int32) (M : zH), r4 (a0, x1, x2, M) = some (r, M') → zG E Y_Mo_levels (some (.int r), S, M') 4 [(0, .ref a0), (1, .int x1), (2, .int x2)] [] S M 0 0) (h : F_Mo_levels_L4 n E S r4 a0 x1 x2 M = some (r, M')) : zG E Y_Mo_levels (some (.int r), S, M') 4 [(0, .ref a0), (1, .int x1), (2, .int x2)] [] S M 0 0 := by
  unfold F_Mo_levels_L4 at h
  refine zi_iload_n 2 d_Mo_levels_4 rfl ?_
  refine zi_aload_n 0 d_Mo_levels_5 rfl ?_
  obtain ⟨b_1, eb_1, h⟩ := zbind h
  refine zo_getR 9 zkd_11 3 d_Mo_levels_6 eb_1 rfl tw_1234 rfl ?_
  refine zi_iconst 0 d_Mo_levels_9 rfl ?_
  obtain ⟨v_2, ev_2, h⟩ := zbind h
  refine zo_iald 11 d_Mo_levels_10 ev_2 rfl ?_
  refine zi_icmp_ge (tgt := 32) d_Mo_levels_11 rfl (fun c_3 => ?_) (fun c_3 => ?_)
  · rw [if_pos c_3] at h
    refine zi_iload_n 1 d_Mo_levels_32 rfl ?_
    cases h
    exact zo_ret d_Mo_levels_33 (Nat.le_of_ble_eq_true rfl) (Nat.le_of_ble_eq_true rfl) rfl
  · rw [if_neg c_3] at h
    refine zi_iload_n 1 d_Mo_levels_14 rfl ?_
    refine zi_aload_n 0 d_Mo_levels_15 rfl ?_
    refine zo_getR 19 zkd_11 3 d_Mo_levels_16 eb_1 rfl tw_1234 rfl ?_
    refine zi_bipush 48 d_Mo_levels_19 rfl ?_
    refine zi_iload_n 2 d_Mo_levels_21 rfl ?_
    refine zi_iadd d_Mo_levels_22 ?_
    obtain ⟨v_4, ev_4, h⟩ := zbind h
    refine zo_iald 24 d_Mo_levels_23 ev_4 rfl ?_
    refine zi_iadd d_Mo_levels_24 ?_
    refine zi_istore_n [(1, .int (x1 + v_4)), (0, .ref a0), (2, .int x2)] d_Mo_levels_25 (by decide) rfl ?_
    refine zi_iinc 2 (x2 + 1) [(2, .int (x2 + 1)), (1, .int (x1 + v_4)), (0, .ref a0)] d_Mo_levels_26 rfl rfl (by decide) rfl ?_
    refine zi_goto (tgt := 4) d_Mo_levels_29 rfl ?_
    refine zi_lo [(0, .ref a0), (1, .int (x1 + v_4)), (2, .int (x2 + 1))] [2, 1, 0] rfl ?_
    exact hr4 a0 (x1 + v_4) (x2 + 1) M h
theorem K_Mo_levels_b4 (n : Nat) (E : zE) (S : zS) (a0 : Nat) (x1 : Int32) (x2 : Int32) (M : zH) (r : Int32) (M' : zH)  (h : F_Mo_levels_b4 n E S (a0, x1, x2, M) = some (r, M')) : zG E Y_Mo_levels (some (.int r), S, M') 4 [(0, .ref a0), (1, .int x1), (2, .int x2)] [] S M 0 0 := by
  have key : ∀ (k : Nat) (a0 : Nat) (x1 : Int32) (x2 : Int32) (M : zH), zfix (fun r4 s => F_Mo_levels_L4 n E S r4 s.1 s.2.1 s.2.2.1 s.2.2.2) k (a0, x1, x2, M) = some (r, M') → zG E Y_Mo_levels (some (.int r), S, M') 4 [(0, .ref a0), (1, .int x1), (2, .int x2)] [] S M 0 0 := by
    intro k
    induction k with
    | zero => intro a0 x1 x2 M h; cases h
    | succ k ih => intro a0 x1 x2 M h; exact K_Mo_levels_L4 n E S _ a0 x1 x2 M r M'  (fun a0 x1 x2 M h => ih a0 x1 x2 M h) h
  exact key n a0 x1 x2 M h
theorem K_Mo_levels (n : Nat) (E : zE) (S : zS) (a0 : Nat) (M : zH) (r : Int32) (M' : zH)  (h : F_Mo_levels n E S a0 M = some (r, M')) : zG E Y_Mo_levels (some (.int r), S, M') 0 [(0, .ref a0)] [] S M 0 0 := by
  unfold F_Mo_levels at h
  refine zi_iconst 0 d_Mo_levels_0 rfl ?_
  refine zi_istore_n [(1, .int 0), (0, .ref a0)] d_Mo_levels_1 (by decide) rfl ?_
  refine zi_iconst 0 d_Mo_levels_2 rfl ?_
  refine zi_istore_n [(2, .int 0), (1, .int 0), (0, .ref a0)] d_Mo_levels_3 (by decide) rfl ?_
  refine zi_lo [(0, .ref a0), (1, .int 0), (2, .int 0)] [2, 1, 0] rfl ?_
  exact K_Mo_levels_b4 n E S a0 0 0 M r M'  h
theorem C_Mo_levels (n : Nat) (E : zE) (S : zS) (a0 : Nat) (M : zH) (r : Int32) (M' : zH) (h : F_Mo_levels n E S a0 M = some (r, M')) : zC E Y_Mo_levels [.ref a0] S M (some (.int r), S, M') :=
  zC.of (Or.inl (show plainName "NightColanderModel" = true by decide)) (Nat.le_of_ble_eq_true rfl) (trivial) (K_Mo_levels n E S a0 M r M' h)
theorem d_Mo_sumOf_0 : decode (yB Y_Mo_sumOf) 0 = .ok (.aload_n 0, 1) := by decide +kernel
theorem d_Mo_sumOf_1 : decode (yB Y_Mo_sumOf) 1 = .ok (.getfield 514, 3) := by decide +kernel
theorem d_Mo_sumOf_4 : decode (yB Y_Mo_sumOf) 4 = .ok (.ifCond .ne 20, 3) := by decide +kernel
theorem d_Mo_sumOf_7 : decode (yB Y_Mo_sumOf) 7 = .ok (.aload_n 0, 1) := by decide +kernel
theorem d_Mo_sumOf_8 : decode (yB Y_Mo_sumOf) 8 = .ok (.getfield 144, 3) := by decide +kernel
theorem d_Mo_sumOf_11 : decode (yB Y_Mo_sumOf) 11 = .ok (.iload_n 1, 1) := by decide +kernel
theorem d_Mo_sumOf_12 : decode (yB Y_Mo_sumOf) 12 = .ok (.iaload, 1) := by decide +kernel
theorem d_Mo_sumOf_13 : decode (yB Y_Mo_sumOf) 13 = .ok (.aload_n 0, 1) := by decide +kernel
theorem d_Mo_sumOf_14 : decode (yB Y_Mo_sumOf) 14 = .ok (.getfield 144, 3) := by decide +kernel
theorem d_Mo_sumOf_17 : decode (yB Y_Mo_sumOf) 17 = .ok (.iload_n 1, 1) := by decide +kernel
theorem d_Mo_sumOf_18 : decode (yB Y_Mo_sumOf) 18 = .ok (.iconst 1, 1) := by decide +kernel
theorem d_Mo_sumOf_19 : decode (yB Y_Mo_sumOf) 19 = .ok (.iadd, 1) := by decide +kernel
theorem d_Mo_sumOf_20 : decode (yB Y_Mo_sumOf) 20 = .ok (.iaload, 1) := by decide +kernel
theorem d_Mo_sumOf_21 : decode (yB Y_Mo_sumOf) 21 = .ok (.if_icmp .ne 5, 3) := by decide +kernel
theorem d_Mo_sumOf_24 : decode (yB Y_Mo_sumOf) 24 = .ok (.iconst (-1), 1) := by decide +kernel
theorem d_Mo_sumOf_25 : decode (yB Y_Mo_sumOf) 25 = .ok (.ireturn, 1) := by decide +kernel
theorem d_Mo_sumOf_26 : decode (yB Y_Mo_sumOf) 26 = .ok (.aload_n 0, 1) := by decide +kernel
theorem d_Mo_sumOf_27 : decode (yB Y_Mo_sumOf) 27 = .ok (.iconst 1, 1) := by decide +kernel
theorem d_Mo_sumOf_28 : decode (yB Y_Mo_sumOf) 28 = .ok (.putfield 331, 3) := by decide +kernel
theorem d_Mo_sumOf_31 : decode (yB Y_Mo_sumOf) 31 = .ok (.aload_n 0, 1) := by decide +kernel
theorem d_Mo_sumOf_32 : decode (yB Y_Mo_sumOf) 32 = .ok (.aload_n 0, 1) := by decide +kernel
theorem d_Mo_sumOf_33 : decode (yB Y_Mo_sumOf) 33 = .ok (.getfield 144, 3) := by decide +kernel
theorem d_Mo_sumOf_36 : decode (yB Y_Mo_sumOf) 36 = .ok (.iload_n 1, 1) := by decide +kernel
theorem d_Mo_sumOf_37 : decode (yB Y_Mo_sumOf) 37 = .ok (.iaload, 1) := by decide +kernel
theorem d_Mo_sumOf_38 : decode (yB Y_Mo_sumOf) 38 = .ok (.aload_n 0, 1) := by decide +kernel
theorem d_Mo_sumOf_39 : decode (yB Y_Mo_sumOf) 39 = .ok (.getfield 144, 3) := by decide +kernel
theorem d_Mo_sumOf_42 : decode (yB Y_Mo_sumOf) 42 = .ok (.iload_n 1, 1) := by decide +kernel
theorem d_Mo_sumOf_43 : decode (yB Y_Mo_sumOf) 43 = .ok (.iconst 1, 1) := by decide +kernel
theorem d_Mo_sumOf_44 : decode (yB Y_Mo_sumOf) 44 = .ok (.iadd, 1) := by decide +kernel
theorem d_Mo_sumOf_45 : decode (yB Y_Mo_sumOf) 45 = .ok (.iaload, 1) := by decide +kernel
theorem d_Mo_sumOf_46 : decode (yB Y_Mo_sumOf) 46 = .ok (.invokevirtual 422, 3) := by decide +kernel
theorem d_Mo_sumOf_49 : decode (yB Y_Mo_sumOf) 49 = .ok (.aload_n 0, 1) := by decide +kernel
theorem d_Mo_sumOf_50 : decode (yB Y_Mo_sumOf) 50 = .ok (.iconst 0, 1) := by decide +kernel
theorem d_Mo_sumOf_51 : decode (yB Y_Mo_sumOf) 51 = .ok (.putfield 331, 3) := by decide +kernel
theorem d_Mo_sumOf_54 : decode (yB Y_Mo_sumOf) 54 = .ok (.aload_n 0, 1) := by decide +kernel
theorem d_Mo_sumOf_55 : decode (yB Y_Mo_sumOf) 55 = .ok (.aload_n 0, 1) := by decide +kernel
theorem d_Mo_sumOf_56 : decode (yB Y_Mo_sumOf) 56 = .ok (.getfield 405, 3) := by decide +kernel
theorem d_Mo_sumOf_59 : decode (yB Y_Mo_sumOf) 59 = .ok (.putfield 514, 3) := by decide +kernel
theorem d_Mo_sumOf_62 : decode (yB Y_Mo_sumOf) 62 = .ok (.aload_n 0, 1) := by decide +kernel
theorem d_Mo_sumOf_63 : decode (yB Y_Mo_sumOf) 63 = .ok (.getfield 419, 3) := by decide +kernel
theorem d_Mo_sumOf_66 : decode (yB Y_Mo_sumOf) 66 = .ok (.l2i, 1) := by decide +kernel
theorem d_Mo_sumOf_67 : decode (yB Y_Mo_sumOf) 67 = .ok (.ireturn, 1) := by decide +kernel
def F_Mo_sumOf (n : Nat) (E : zE) (S : zS) (a0 : Nat) (x1 : Int32) (M : zH) : Option (Int32 × zH) :=
  (zgI S M a0 11 53).bind fun v_1 =>
  if v_1 = 0 then
    (zgR S a0 11 49).bind fun b_3 =>
    (zldI S M b_3 x1).bind fun v_4 =>
    (zldI S M b_3 (x1 + 1)).bind fun v_5 =>
    if v_4 = v_5 then
      some ((-1), M)
    else
      (zpZ S M a0 11 20 1).bind fun m_7 =>
      (zldI S m_7 b_3 x1).bind fun v_8 =>
      (zldI S m_7 b_3 (x1 + 1)).bind fun v_9 =>
      (F_Mo_reckonAll n E S a0 v_8 v_9 m_7).bind fun q_10 =>
      (zpZ S q_10 a0 11 20 0).bind fun m_11 =>
      (zgI S m_11 a0 11 38).bind fun v_12 =>
      (zpZ S m_11 a0 11 53 v_12).bind fun m_13 =>
      (zgJ S m_13 a0 11 39).bind fun v_14 =>
      some (v_14.toInt32, m_13)
  else
    some ((-1), M)
theorem K_Mo_sumOf (n : Nat) (E : zE) (S : zS) (a0 : Nat) (x1 : Int32) (M : zH) (r : Int32) (M' : zH)  (h : F_Mo_sumOf n E S a0 x1 M = some (r, M')) : zG E Y_Mo_sumOf (some (.int r), S, M') 0 [(0, .ref a0), (1, .int x1)] [] S M 0 0 := by
  unfold F_Mo_sumOf at h
  refine zi_aload_n 0 d_Mo_sumOf_0 rfl ?_
  obtain ⟨v_1, ev_1, h⟩ := zbind h
  refine zo_getI 4 zkd_11 53 d_Mo_sumOf_1 ev_1 rfl tw_1284 rfl ?_
  refine zi_if_ne (tgt := 24) d_Mo_sumOf_4 rfl (fun c_2 => ?_) (fun c_2 => ?_)
  · rw [if_neg c_2] at h
    refine zi_iconst (-1) d_Mo_sumOf_24 rfl ?_
    cases h
    exact zo_ret d_Mo_sumOf_25 (Nat.le_of_ble_eq_true rfl) (Nat.le_of_ble_eq_true rfl) rfl
  · rw [if_pos c_2] at h
    refine zi_aload_n 0 d_Mo_sumOf_7 rfl ?_
    obtain ⟨b_3, eb_3, h⟩ := zbind h
    refine zo_getR 11 zkd_11 49 d_Mo_sumOf_8 eb_3 rfl tw_1280 rfl ?_
    refine zi_iload_n 1 d_Mo_sumOf_11 rfl ?_
    obtain ⟨v_4, ev_4, h⟩ := zbind h
    refine zo_iald 13 d_Mo_sumOf_12 ev_4 rfl ?_
    refine zi_aload_n 0 d_Mo_sumOf_13 rfl ?_
    refine zo_getR 17 zkd_11 49 d_Mo_sumOf_14 eb_3 rfl tw_1280 rfl ?_
    refine zi_iload_n 1 d_Mo_sumOf_17 rfl ?_
    refine zi_iconst 1 d_Mo_sumOf_18 rfl ?_
    refine zi_iadd d_Mo_sumOf_19 ?_
    obtain ⟨v_5, ev_5, h⟩ := zbind h
    refine zo_iald 21 d_Mo_sumOf_20 ev_5 rfl ?_
    refine zi_icmp_ne (tgt := 26) d_Mo_sumOf_21 rfl (fun c_6 => ?_) (fun c_6 => ?_)
    · rw [if_neg c_6] at h
      refine zi_aload_n 0 d_Mo_sumOf_26 rfl ?_
      refine zi_iconst 1 d_Mo_sumOf_27 rfl ?_
      obtain ⟨m_7, em_7, h⟩ := zbind h
      refine zo_putZ 31 zkd_11 20 d_Mo_sumOf_28 em_7 rfl rfl rfl tw_1251 rfl ?_
      refine zi_aload_n 0 d_Mo_sumOf_31 rfl ?_
      refine zi_aload_n 0 d_Mo_sumOf_32 rfl ?_
      refine zo_getR 36 zkd_11 49 d_Mo_sumOf_33 eb_3 rfl tw_1280 rfl ?_
      refine zi_iload_n 1 d_Mo_sumOf_36 rfl ?_
      obtain ⟨v_8, ev_8, h⟩ := zbind h
      refine zo_iald 38 d_Mo_sumOf_37 ev_8 rfl ?_
      refine zi_aload_n 0 d_Mo_sumOf_38 rfl ?_
      refine zo_getR 42 zkd_11 49 d_Mo_sumOf_39 eb_3 rfl tw_1280 rfl ?_
      refine zi_iload_n 1 d_Mo_sumOf_42 rfl ?_
      refine zi_iconst 1 d_Mo_sumOf_43 rfl ?_
      refine zi_iadd d_Mo_sumOf_44 ?_
      obtain ⟨v_9, ev_9, h⟩ := zbind h
      refine zo_iald 46 d_Mo_sumOf_45 ev_9 rfl ?_
      obtain ⟨q_10, eq_10, h⟩ := zbind h
      refine zo_virt (k' := 0) (n' := 0) 49 [.int v_8, .int v_9] [] [] zkd_11 (zgI_s ev_1).1 (C_Mo_reckonAll n E S a0 v_8 v_9 m_7 q_10 eq_10) d_Mo_sumOf_46 tw_1461 tw_1458 tw_1460 ts_42 tw_13 dd_Mo_reckonAll ⟨Nat.le_of_ble_eq_true rfl, Nat.le_of_ble_eq_true rfl, Nat.le_of_ble_eq_true rfl, Nat.le_of_ble_eq_true rfl⟩ (Nat.le_of_ble_eq_true rfl) rfl rfl rfl rfl ?_
      refine zi_aload_n 0 d_Mo_sumOf_49 rfl ?_
      refine zi_iconst 0 d_Mo_sumOf_50 rfl ?_
      obtain ⟨m_11, em_11, h⟩ := zbind h
      refine zo_putZ 54 zkd_11 20 d_Mo_sumOf_51 em_11 rfl rfl rfl tw_1251 rfl ?_
      refine zi_aload_n 0 d_Mo_sumOf_54 rfl ?_
      refine zi_aload_n 0 d_Mo_sumOf_55 rfl ?_
      obtain ⟨v_12, ev_12, h⟩ := zbind h
      refine zo_getI 59 zkd_11 38 d_Mo_sumOf_56 ev_12 rfl tw_1269 rfl ?_
      obtain ⟨m_13, em_13, h⟩ := zbind h
      refine zo_putZ 62 zkd_11 53 d_Mo_sumOf_59 em_13 rfl rfl rfl tw_1284 rfl ?_
      refine zi_aload_n 0 d_Mo_sumOf_62 rfl ?_
      obtain ⟨v_14, ev_14, h⟩ := zbind h
      refine zo_getJ 66 zkd_11 39 d_Mo_sumOf_63 ev_14 rfl tw_1270 rfl ?_
      refine zi_l2i d_Mo_sumOf_66 ?_
      cases h
      exact zo_ret d_Mo_sumOf_67 (Nat.le_of_ble_eq_true rfl) (Nat.le_of_ble_eq_true rfl) rfl
    · rw [if_pos c_6] at h
      refine zi_iconst (-1) d_Mo_sumOf_24 rfl ?_
      cases h
      exact zo_ret d_Mo_sumOf_25 (Nat.le_of_ble_eq_true rfl) (Nat.le_of_ble_eq_true rfl) rfl
theorem C_Mo_sumOf (n : Nat) (E : zE) (S : zS) (a0 : Nat) (x1 : Int32) (M : zH) (r : Int32) (M' : zH) (h : F_Mo_sumOf n E S a0 x1 M = some (r, M')) : zC E Y_Mo_sumOf [.ref a0, .int x1] S M (some (.int r), S, M') :=
  zC.of (Or.inl (show plainName "NightColanderModel" = true by decide)) (Nat.le_of_ble_eq_true rfl) (trivial) (K_Mo_sumOf n E S a0 x1 M r M' h)
theorem d_Mo_run_0 : decode (yB Y_Mo_run) 0 = .ok (.aload_n 0, 1) := by decide +kernel
theorem d_Mo_run_1 : decode (yB Y_Mo_run) 1 = .ok (.getfield 106, 3) := by decide +kernel
theorem d_Mo_run_4 : decode (yB Y_Mo_run) 4 = .ok (.iconst 1, 1) := by decide +kernel
theorem d_Mo_run_5 : decode (yB Y_Mo_run) 5 = .ok (.aload_n 0, 1) := by decide +kernel
theorem d_Mo_run_6 : decode (yB Y_Mo_run) 6 = .ok (.getfield 13, 3) := by decide +kernel
theorem d_Mo_run_9 : decode (yB Y_Mo_run) 9 = .ok (.iconst 4, 1) := by decide +kernel
theorem d_Mo_run_10 : decode (yB Y_Mo_run) 10 = .ok (.iaload, 1) := by decide +kernel
theorem d_Mo_run_11 : decode (yB Y_Mo_run) 11 = .ok (.i2l, 1) := by decide +kernel
theorem d_Mo_run_12 : decode (yB Y_Mo_run) 12 = .ok (.lastore, 1) := by decide +kernel
theorem d_Mo_run_13 : decode (yB Y_Mo_run) 13 = .ok (.aload_n 0, 1) := by decide +kernel
theorem d_Mo_run_14 : decode (yB Y_Mo_run) 14 = .ok (.getfield 106, 3) := by decide +kernel
theorem d_Mo_run_17 : decode (yB Y_Mo_run) 17 = .ok (.iconst 2, 1) := by decide +kernel
theorem d_Mo_run_18 : decode (yB Y_Mo_run) 18 = .ok (.aload_n 0, 1) := by decide +kernel
theorem d_Mo_run_19 : decode (yB Y_Mo_run) 19 = .ok (.getfield 517, 3) := by decide +kernel
theorem d_Mo_run_22 : decode (yB Y_Mo_run) 22 = .ok (.i2l, 1) := by decide +kernel
theorem d_Mo_run_23 : decode (yB Y_Mo_run) 23 = .ok (.lastore, 1) := by decide +kernel
theorem d_Mo_run_24 : decode (yB Y_Mo_run) 24 = .ok (.aload_n 0, 1) := by decide +kernel
theorem d_Mo_run_25 : decode (yB Y_Mo_run) 25 = .ok (.getfield 106, 3) := by decide +kernel
theorem d_Mo_run_28 : decode (yB Y_Mo_run) 28 = .ok (.iconst 3, 1) := by decide +kernel
theorem d_Mo_run_29 : decode (yB Y_Mo_run) 29 = .ok (.aload_n 0, 1) := by decide +kernel
theorem d_Mo_run_30 : decode (yB Y_Mo_run) 30 = .ok (.getfield 520, 3) := by decide +kernel
theorem d_Mo_run_33 : decode (yB Y_Mo_run) 33 = .ok (.i2l, 1) := by decide +kernel
theorem d_Mo_run_34 : decode (yB Y_Mo_run) 34 = .ok (.lastore, 1) := by decide +kernel
theorem d_Mo_run_35 : decode (yB Y_Mo_run) 35 = .ok (.aload_n 0, 1) := by decide +kernel
theorem d_Mo_run_36 : decode (yB Y_Mo_run) 36 = .ok (.getfield 106, 3) := by decide +kernel
theorem d_Mo_run_39 : decode (yB Y_Mo_run) 39 = .ok (.iconst 4, 1) := by decide +kernel
theorem d_Mo_run_40 : decode (yB Y_Mo_run) 40 = .ok (.aload_n 0, 1) := by decide +kernel
theorem d_Mo_run_41 : decode (yB Y_Mo_run) 41 = .ok (.invokevirtual 523, 3) := by decide +kernel
theorem d_Mo_run_44 : decode (yB Y_Mo_run) 44 = .ok (.i2l, 1) := by decide +kernel
theorem d_Mo_run_45 : decode (yB Y_Mo_run) 45 = .ok (.lastore, 1) := by decide +kernel
theorem d_Mo_run_46 : decode (yB Y_Mo_run) 46 = .ok (.aload_n 0, 1) := by decide +kernel
theorem d_Mo_run_47 : decode (yB Y_Mo_run) 47 = .ok (.invokevirtual 457, 3) := by decide +kernel
theorem d_Mo_run_50 : decode (yB Y_Mo_run) 50 = .ok (.aload_n 0, 1) := by decide +kernel
theorem d_Mo_run_51 : decode (yB Y_Mo_run) 51 = .ok (.iconst 0, 1) := by decide +kernel
theorem d_Mo_run_52 : decode (yB Y_Mo_run) 52 = .ok (.putfield 514, 3) := by decide +kernel
theorem d_Mo_run_55 : decode (yB Y_Mo_run) 55 = .ok (.aload_n 0, 1) := by decide +kernel
theorem d_Mo_run_56 : decode (yB Y_Mo_run) 56 = .ok (.getfield 144, 3) := by decide +kernel
theorem d_Mo_run_59 : decode (yB Y_Mo_run) 59 = .ok (.iload_n 1, 1) := by decide +kernel
theorem d_Mo_run_60 : decode (yB Y_Mo_run) 60 = .ok (.iconst 5, 1) := by decide +kernel
theorem d_Mo_run_61 : decode (yB Y_Mo_run) 61 = .ok (.iadd, 1) := by decide +kernel
theorem d_Mo_run_62 : decode (yB Y_Mo_run) 62 = .ok (.iaload, 1) := by decide +kernel
theorem d_Mo_run_63 : decode (yB Y_Mo_run) 63 = .ok (.aload_n 0, 1) := by decide +kernel
theorem d_Mo_run_64 : decode (yB Y_Mo_run) 64 = .ok (.getfield 144, 3) := by decide +kernel
theorem d_Mo_run_67 : decode (yB Y_Mo_run) 67 = .ok (.iload_n 1, 1) := by decide +kernel
theorem d_Mo_run_68 : decode (yB Y_Mo_run) 68 = .ok (.bipush 6, 2) := by decide +kernel
theorem d_Mo_run_70 : decode (yB Y_Mo_run) 70 = .ok (.iadd, 1) := by decide +kernel
theorem d_Mo_run_71 : decode (yB Y_Mo_run) 71 = .ok (.iaload, 1) := by decide +kernel
theorem d_Mo_run_72 : decode (yB Y_Mo_run) 72 = .ok (.if_icmp .ge 24, 3) := by decide +kernel
theorem d_Mo_run_75 : decode (yB Y_Mo_run) 75 = .ok (.aload_n 0, 1) := by decide +kernel
theorem d_Mo_run_76 : decode (yB Y_Mo_run) 76 = .ok (.iload_n 1, 1) := by decide +kernel
theorem d_Mo_run_77 : decode (yB Y_Mo_run) 77 = .ok (.iconst 5, 1) := by decide +kernel
theorem d_Mo_run_78 : decode (yB Y_Mo_run) 78 = .ok (.iadd, 1) := by decide +kernel
theorem d_Mo_run_79 : decode (yB Y_Mo_run) 79 = .ok (.invokevirtual 526, 3) := by decide +kernel
theorem d_Mo_run_82 : decode (yB Y_Mo_run) 82 = .ok (.istore_n 2, 1) := by decide +kernel
theorem d_Mo_run_83 : decode (yB Y_Mo_run) 83 = .ok (.aload_n 0, 1) := by decide +kernel
theorem d_Mo_run_84 : decode (yB Y_Mo_run) 84 = .ok (.getfield 514, 3) := by decide +kernel
theorem d_Mo_run_87 : decode (yB Y_Mo_run) 87 = .ok (.ifCond .ne 7, 3) := by decide +kernel
theorem d_Mo_run_90 : decode (yB Y_Mo_run) 90 = .ok (.iload_n 2, 1) := by decide +kernel
theorem d_Mo_run_91 : decode (yB Y_Mo_run) 91 = .ok (.ifCond .ne 5, 3) := by decide +kernel
theorem d_Mo_run_94 : decode (yB Y_Mo_run) 94 = .ok (.iconst 0, 1) := by decide +kernel
theorem d_Mo_run_95 : decode (yB Y_Mo_run) 95 = .ok (.ireturn, 1) := by decide +kernel
theorem d_Mo_run_96 : decode (yB Y_Mo_run) 96 = .ok (.aload_n 0, 1) := by decide +kernel
theorem d_Mo_run_97 : decode (yB Y_Mo_run) 97 = .ok (.iload_n 1, 1) := by decide +kernel
theorem d_Mo_run_98 : decode (yB Y_Mo_run) 98 = .ok (.iconst 1, 1) := by decide +kernel
theorem d_Mo_run_99 : decode (yB Y_Mo_run) 99 = .ok (.iadd, 1) := by decide +kernel
theorem d_Mo_run_100 : decode (yB Y_Mo_run) 100 = .ok (.invokevirtual 526, 3) := by decide +kernel
theorem d_Mo_run_103 : decode (yB Y_Mo_run) 103 = .ok (.istore_n 2, 1) := by decide +kernel
theorem d_Mo_run_104 : decode (yB Y_Mo_run) 104 = .ok (.aload_n 0, 1) := by decide +kernel
theorem d_Mo_run_105 : decode (yB Y_Mo_run) 105 = .ok (.iload_n 1, 1) := by decide +kernel
theorem d_Mo_run_106 : decode (yB Y_Mo_run) 106 = .ok (.iconst 3, 1) := by decide +kernel
theorem d_Mo_run_107 : decode (yB Y_Mo_run) 107 = .ok (.iadd, 1) := by decide +kernel
theorem d_Mo_run_108 : decode (yB Y_Mo_run) 108 = .ok (.invokevirtual 526, 3) := by decide +kernel
theorem d_Mo_run_111 : decode (yB Y_Mo_run) 111 = .ok (.istore_n 3, 1) := by decide +kernel
theorem d_Mo_run_112 : decode (yB Y_Mo_run) 112 = .ok (.aload_n 0, 1) := by decide +kernel
theorem d_Mo_run_113 : decode (yB Y_Mo_run) 113 = .ok (.getfield 514, 3) := by decide +kernel
theorem d_Mo_run_116 : decode (yB Y_Mo_run) 116 = .ok (.ifCond .eq 6, 3) := by decide +kernel
theorem d_Mo_run_119 : decode (yB Y_Mo_run) 119 = .ok (.bipush (-3), 2) := by decide +kernel
theorem d_Mo_run_121 : decode (yB Y_Mo_run) 121 = .ok (.ireturn, 1) := by decide +kernel
theorem d_Mo_run_122 : decode (yB Y_Mo_run) 122 = .ok (.aload_n 0, 1) := by decide +kernel
theorem d_Mo_run_123 : decode (yB Y_Mo_run) 123 = .ok (.aload_n 0, 1) := by decide +kernel
theorem d_Mo_run_124 : decode (yB Y_Mo_run) 124 = .ok (.getfield 144, 3) := by decide +kernel
theorem d_Mo_run_127 : decode (yB Y_Mo_run) 127 = .ok (.iload_n 1, 1) := by decide +kernel
theorem d_Mo_run_128 : decode (yB Y_Mo_run) 128 = .ok (.iaload, 1) := by decide +kernel
theorem d_Mo_run_129 : decode (yB Y_Mo_run) 129 = .ok (.iload_n 2, 1) := by decide +kernel
theorem d_Mo_run_130 : decode (yB Y_Mo_run) 130 = .ok (.iload_n 3, 1) := by decide +kernel
theorem d_Mo_run_131 : decode (yB Y_Mo_run) 131 = .ok (.invokevirtual 529, 3) := by decide +kernel
theorem d_Mo_run_134 : decode (yB Y_Mo_run) 134 = .ok (.istore 4, 2) := by decide +kernel
theorem d_Mo_run_136 : decode (yB Y_Mo_run) 136 = .ok (.iload 4, 2) := by decide +kernel
theorem d_Mo_run_138 : decode (yB Y_Mo_run) 138 = .ok (.ifCond .ge 6, 3) := by decide +kernel
theorem d_Mo_run_141 : decode (yB Y_Mo_run) 141 = .ok (.bipush (-3), 2) := by decide +kernel
theorem d_Mo_run_143 : decode (yB Y_Mo_run) 143 = .ok (.ireturn, 1) := by decide +kernel
theorem d_Mo_run_144 : decode (yB Y_Mo_run) 144 = .ok (.aload_n 0, 1) := by decide +kernel
theorem d_Mo_run_145 : decode (yB Y_Mo_run) 145 = .ok (.aload_n 0, 1) := by decide +kernel
theorem d_Mo_run_146 : decode (yB Y_Mo_run) 146 = .ok (.getfield 144, 3) := by decide +kernel
theorem d_Mo_run_149 : decode (yB Y_Mo_run) 149 = .ok (.iload_n 1, 1) := by decide +kernel
theorem d_Mo_run_150 : decode (yB Y_Mo_run) 150 = .ok (.iaload, 1) := by decide +kernel
theorem d_Mo_run_151 : decode (yB Y_Mo_run) 151 = .ok (.iconst 3, 1) := by decide +kernel
theorem d_Mo_run_152 : decode (yB Y_Mo_run) 152 = .ok (.if_icmp .ne 8, 3) := by decide +kernel
theorem d_Mo_run_155 : decode (yB Y_Mo_run) 155 = .ok (.iload 4, 2) := by decide +kernel
theorem d_Mo_run_157 : decode (yB Y_Mo_run) 157 = .ok (.goto 7, 3) := by decide +kernel
theorem d_Mo_run_160 : decode (yB Y_Mo_run) 160 = .ok (.aload_n 0, 1) := by decide +kernel
theorem d_Mo_run_161 : decode (yB Y_Mo_run) 161 = .ok (.getfield 520, 3) := by decide +kernel
theorem d_Mo_run_164 : decode (yB Y_Mo_run) 164 = .ok (.putfield 520, 3) := by decide +kernel
theorem d_Mo_run_167 : decode (yB Y_Mo_run) 167 = .ok (.aload_n 0, 1) := by decide +kernel
theorem d_Mo_run_168 : decode (yB Y_Mo_run) 168 = .ok (.dup, 1) := by decide +kernel
theorem d_Mo_run_169 : decode (yB Y_Mo_run) 169 = .ok (.getfield 517, 3) := by decide +kernel
theorem d_Mo_run_172 : decode (yB Y_Mo_run) 172 = .ok (.iconst 1, 1) := by decide +kernel
theorem d_Mo_run_173 : decode (yB Y_Mo_run) 173 = .ok (.iadd, 1) := by decide +kernel
theorem d_Mo_run_174 : decode (yB Y_Mo_run) 174 = .ok (.putfield 517, 3) := by decide +kernel
theorem d_Mo_run_177 : decode (yB Y_Mo_run) 177 = .ok (.iconst 0, 1) := by decide +kernel
theorem d_Mo_run_178 : decode (yB Y_Mo_run) 178 = .ok (.ireturn, 1) := by decide +kernel
def F_Mo_run_b164 (n : Nat) (E : zE) (S : zS) (a0 : Nat) (s0 : Int32) (u1 : Nat) (M : zH) : Option (Int32 × zH) :=
  (zpI S M u1 11 51 s0).bind fun m_1 =>
  (zgI S m_1 a0 11 50).bind fun v_2 =>
  (zpI S m_1 a0 11 50 (v_2 + 1)).bind fun m_3 =>
  some (0, m_3)
def F_Mo_run_b96 (n : Nat) (E : zE) (S : zS) (a0 : Nat) (x1 : Int32) (M : zH) : Option (Int32 × zH) :=
  (zck S a0 11).bind fun u_4 =>
  (F_Mo_sumOf n E S a0 (x1 + 1) M).bind fun q_5 =>
  (F_Mo_sumOf n E S a0 (x1 + 3) q_5.2).bind fun q_6 =>
  (zgI S q_6.2 a0 11 53).bind fun v_7 =>
  if v_7 = 0 then
    (zgR S a0 11 49).bind fun b_9 =>
    (zldI S q_6.2 b_9 x1).bind fun v_10 =>
    (F_Mo_act n E S a0 v_10 q_5.1 q_6.1 q_6.2).bind fun q_11 =>
    if 0 ≤ q_11.1 then
      (zldI S q_11.2 b_9 x1).bind fun v_13 =>
      if v_13 = 3 then
        F_Mo_run_b164 n E S a0 q_11.1 a0 q_11.2
      else
        (zgI S q_11.2 a0 11 51).bind fun v_15 =>
        F_Mo_run_b164 n E S a0 v_15 a0 q_11.2
    else
      some ((-3), q_11.2)
  else
    some ((-3), q_6.2)
def F_Mo_run (n : Nat) (E : zE) (S : zS) (a0 : Nat) (x1 : Int32) (M : zH) : Option (Int32 × zH) :=
  (zgR S a0 11 36).bind fun b_16 =>
  (zgR S a0 11 3).bind fun b_17 =>
  (zldI S M b_17 4).bind fun v_18 =>
  (zstJ S M b_16 1 v_18.toInt64).bind fun m_19 =>
  (zgI S m_19 a0 11 50).bind fun v_20 =>
  (zstJ S m_19 b_16 2 v_20.toInt64).bind fun m_21 =>
  (zgI S m_21 a0 11 51).bind fun v_22 =>
  (zstJ S m_21 b_16 3 v_22.toInt64).bind fun m_23 =>
  (F_Mo_levels n E S a0 m_23).bind fun q_24 =>
  (zstJ S q_24.2 b_16 4 q_24.1.toInt64).bind fun m_25 =>
  (F_Mo_layFlow n E S a0 m_25).bind fun q_26 =>
  (zpZ S q_26 a0 11 53 0).bind fun m_27 =>
  (zgR S a0 11 49).bind fun b_28 =>
  (zldI S m_27 b_28 (x1 + 5)).bind fun v_29 =>
  (zldI S m_27 b_28 (x1 + 6)).bind fun v_30 =>
  if v_30 ≤ v_29 then
    F_Mo_run_b96 n E S a0 x1 m_27
  else
    (F_Mo_sumOf n E S a0 (x1 + 5) m_27).bind fun q_32 =>
    (zgI S q_32.2 a0 11 53).bind fun v_33 =>
    if v_33 = 0 then
      if q_32.1 = 0 then
        some (0, q_32.2)
      else
        F_Mo_run_b96 n E S a0 x1 q_32.2
    else
      some (0, q_32.2)
theorem K_Mo_run_b164 (n : Nat) (E : zE) (S : zS) (a0 : Nat) (s0 : Int32) (u1 : Nat) (M : zH) (r : Int32) (M' : zH)  (h : F_Mo_run_b164 n E S a0 s0 u1 M = some (r, M')) : zG E Y_Mo_run (some (.int r), S, M') 164 [(0, .ref a0)] [.int s0, .ref u1] S M 0 0 := by
  unfold F_Mo_run_b164 at h
  obtain ⟨m_1, em_1, h⟩ := zbind h
  refine zo_putI 167 zkd_11 51 d_Mo_run_164 em_1 rfl rfl rfl tw_1282 rfl ?_
  refine zi_aload_n 0 d_Mo_run_167 rfl ?_
  refine zi_dup d_Mo_run_168 rfl ?_
  obtain ⟨v_2, ev_2, h⟩ := zbind h
  refine zo_getI 172 zkd_11 50 d_Mo_run_169 ev_2 rfl tw_1281 rfl ?_
  refine zi_iconst 1 d_Mo_run_172 rfl ?_
  refine zi_iadd d_Mo_run_173 ?_
  obtain ⟨m_3, em_3, h⟩ := zbind h
  refine zo_putI 177 zkd_11 50 d_Mo_run_174 em_3 rfl rfl rfl tw_1281 rfl ?_
  refine zi_iconst 0 d_Mo_run_177 rfl ?_
  cases h
  exact zo_ret d_Mo_run_178 (Nat.le_of_ble_eq_true rfl) (Nat.le_of_ble_eq_true rfl) rfl
theorem K_Mo_run_b96 (n : Nat) (E : zE) (S : zS) (a0 : Nat) (x1 : Int32) (M : zH) (r : Int32) (M' : zH)  (h : F_Mo_run_b96 n E S a0 x1 M = some (r, M')) : zG E Y_Mo_run (some (.int r), S, M') 96 [(0, .ref a0), (1, .int x1)] [] S M 0 0 := by
  unfold F_Mo_run_b96 at h
  refine zi_aload_n 0 d_Mo_run_96 rfl ?_
  refine zi_iload_n 1 d_Mo_run_97 rfl ?_
  refine zi_iconst 1 d_Mo_run_98 rfl ?_
  refine zi_iadd d_Mo_run_99 ?_
  obtain ⟨u_4, eu_4, h⟩ := zbind h
  obtain ⟨q_5, eq_5, h⟩ := zbind h
  refine zo_virt (k' := 0) (n' := 0) 103 [.int (x1 + 1)] [] [.int q_5.1] zkd_11 (zck_s eu_4) (C_Mo_sumOf n E S a0 (x1 + 1) M q_5.1 q_5.2 eq_5) d_Mo_run_100 tw_1872 tw_1869 tw_1871 ts_100 tw_13 dd_Mo_sumOf ⟨Nat.le_of_ble_eq_true rfl, Nat.le_of_ble_eq_true rfl, Nat.le_of_ble_eq_true rfl, Nat.le_of_ble_eq_true rfl⟩ (Nat.le_of_ble_eq_true rfl) rfl rfl rfl rfl ?_
  refine zi_istore_n [(2, .int q_5.1), (0, .ref a0), (1, .int x1)] d_Mo_run_103 (by decide) rfl ?_
  refine zi_aload_n 1 d_Mo_run_104 rfl ?_
  refine zi_iload_n 2 d_Mo_run_105 rfl ?_
  refine zi_iconst 3 d_Mo_run_106 rfl ?_
  refine zi_iadd d_Mo_run_107 ?_
  obtain ⟨q_6, eq_6, h⟩ := zbind h
  refine zo_virt (k' := 0) (n' := 0) 111 [.int (x1 + 3)] [] [.int q_6.1] zkd_11 (zck_s eu_4) (C_Mo_sumOf n E S a0 (x1 + 3) q_5.2 q_6.1 q_6.2 eq_6) d_Mo_run_108 tw_1872 tw_1869 tw_1871 ts_100 tw_13 dd_Mo_sumOf ⟨Nat.le_of_ble_eq_true rfl, Nat.le_of_ble_eq_true rfl, Nat.le_of_ble_eq_true rfl, Nat.le_of_ble_eq_true rfl⟩ (Nat.le_of_ble_eq_true rfl) rfl rfl rfl rfl ?_
  refine zi_istore_n [(3, .int q_6.1), (2, .int q_5.1), (0, .ref a0), (1, .int x1)] d_Mo_run_111 (by decide) rfl ?_
  refine zi_aload_n 2 d_Mo_run_112 rfl ?_
  obtain ⟨v_7, ev_7, h⟩ := zbind h
  refine zo_getI 116 zkd_11 53 d_Mo_run_113 ev_7 rfl tw_1284 rfl ?_
  refine zi_if_eq (tgt := 122) d_Mo_run_116 rfl (fun c_8 => ?_) (fun c_8 => ?_)
  · rw [if_pos c_8] at h
    refine zi_aload_n 2 d_Mo_run_122 rfl ?_
    refine zi_aload_n 2 d_Mo_run_123 rfl ?_
    obtain ⟨b_9, eb_9, h⟩ := zbind h
    refine zo_getR 127 zkd_11 49 d_Mo_run_124 eb_9 rfl tw_1280 rfl ?_
    refine zi_iload_n 3 d_Mo_run_127 rfl ?_
    obtain ⟨v_10, ev_10, h⟩ := zbind h
    refine zo_iald 129 d_Mo_run_128 ev_10 rfl ?_
    refine zi_iload_n 1 d_Mo_run_129 rfl ?_
    refine zi_iload_n 0 d_Mo_run_130 rfl ?_
    obtain ⟨q_11, eq_11, h⟩ := zbind h
    refine zo_virt (k' := 0) (n' := 0) 134 [.int v_10, .int q_5.1, .int q_6.1] [] [.int q_11.1] zkd_11 (zck_s eu_4) (C_Mo_act n E S a0 v_10 q_5.1 q_6.1 q_6.2 q_11.1 q_11.2 eq_11) d_Mo_run_131 tw_1876 tw_1873 tw_1875 ts_101 tw_13 dd_Mo_act ⟨Nat.le_of_ble_eq_true rfl, Nat.le_of_ble_eq_true rfl, Nat.le_of_ble_eq_true rfl, Nat.le_of_ble_eq_true rfl⟩ (Nat.le_of_ble_eq_true rfl) rfl rfl rfl rfl ?_
    refine zi_istore [(4, .int q_11.1), (3, .int q_6.1), (2, .int q_5.1), (0, .ref a0), (1, .int x1)] d_Mo_run_134 (by decide) rfl ?_
    refine zi_iload 0 d_Mo_run_136 rfl ?_
    refine zi_if_ge (tgt := 144) d_Mo_run_138 rfl (fun c_12 => ?_) (fun c_12 => ?_)
    · rw [if_pos c_12] at h
      refine zi_aload_n 3 d_Mo_run_144 rfl ?_
      refine zi_aload_n 3 d_Mo_run_145 rfl ?_
      refine zo_getR 149 zkd_11 49 d_Mo_run_146 eb_9 rfl tw_1280 rfl ?_
      refine zi_iload_n 4 d_Mo_run_149 rfl ?_
      obtain ⟨v_13, ev_13, h⟩ := zbind h
      refine zo_iald 151 d_Mo_run_150 ev_13 rfl ?_
      refine zi_iconst 3 d_Mo_run_151 rfl ?_
      refine zi_icmp_ne (tgt := 160) d_Mo_run_152 rfl (fun c_14 => ?_) (fun c_14 => ?_)
      · rw [if_neg c_14] at h
        refine zi_aload_n 3 d_Mo_run_160 rfl ?_
        obtain ⟨v_15, ev_15, h⟩ := zbind h
        refine zo_getI 164 zkd_11 51 d_Mo_run_161 ev_15 rfl tw_1282 rfl ?_
        refine zi_lo [(0, .ref a0)] [3] rfl ?_
        exact K_Mo_run_b164 n E S a0 v_15 a0 q_11.2 r M'  h
      · rw [if_pos c_14] at h
        refine zi_iload 0 d_Mo_run_155 rfl ?_
        refine zi_goto (tgt := 164) d_Mo_run_157 rfl ?_
        refine zi_lo [(0, .ref a0)] [3] rfl ?_
        exact K_Mo_run_b164 n E S a0 q_11.1 a0 q_11.2 r M'  h
    · rw [if_neg c_12] at h
      refine zi_bipush (-3) d_Mo_run_141 rfl ?_
      cases h
      exact zo_ret d_Mo_run_143 (Nat.le_of_ble_eq_true rfl) (Nat.le_of_ble_eq_true rfl) rfl
  · rw [if_neg c_8] at h
    refine zi_bipush (-3) d_Mo_run_119 rfl ?_
    cases h
    exact zo_ret d_Mo_run_121 (Nat.le_of_ble_eq_true rfl) (Nat.le_of_ble_eq_true rfl) rfl
theorem K_Mo_run (n : Nat) (E : zE) (S : zS) (a0 : Nat) (x1 : Int32) (M : zH) (r : Int32) (M' : zH)  (h : F_Mo_run n E S a0 x1 M = some (r, M')) : zG E Y_Mo_run (some (.int r), S, M') 0 [(0, .ref a0), (1, .int x1)] [] S M 0 0 := by
  unfold F_Mo_run at h
  refine zi_aload_n 0 d_Mo_run_0 rfl ?_
  obtain ⟨b_16, eb_16, h⟩ := zbind h
  refine zo_getR 4 zkd_11 36 d_Mo_run_1 eb_16 rfl tw_1267 rfl ?_
  refine zi_iconst 1 d_Mo_run_4 rfl ?_
  refine zi_aload_n 0 d_Mo_run_5 rfl ?_
  obtain ⟨b_17, eb_17, h⟩ := zbind h
  refine zo_getR 9 zkd_11 3 d_Mo_run_6 eb_17 rfl tw_1234 rfl ?_
  refine zi_iconst 4 d_Mo_run_9 rfl ?_
  obtain ⟨v_18, ev_18, h⟩ := zbind h
  refine zo_iald 11 d_Mo_run_10 ev_18 rfl ?_
  refine zi_i2l d_Mo_run_11 ?_
  obtain ⟨m_19, em_19, h⟩ := zbind h
  refine zo_last 13 d_Mo_run_12 em_19 rfl ?_
  refine zi_aload_n 0 d_Mo_run_13 rfl ?_
  refine zo_getR 17 zkd_11 36 d_Mo_run_14 eb_16 rfl tw_1267 rfl ?_
  refine zi_iconst 2 d_Mo_run_17 rfl ?_
  refine zi_aload_n 0 d_Mo_run_18 rfl ?_
  obtain ⟨v_20, ev_20, h⟩ := zbind h
  refine zo_getI 22 zkd_11 50 d_Mo_run_19 ev_20 rfl tw_1281 rfl ?_
  refine zi_i2l d_Mo_run_22 ?_
  obtain ⟨m_21, em_21, h⟩ := zbind h
  refine zo_last 24 d_Mo_run_23 em_21 rfl ?_
  refine zi_aload_n 0 d_Mo_run_24 rfl ?_
  refine zo_getR 28 zkd_11 36 d_Mo_run_25 eb_16 rfl tw_1267 rfl ?_
  refine zi_iconst 3 d_Mo_run_28 rfl ?_
  refine zi_aload_n 0 d_Mo_run_29 rfl ?_
  obtain ⟨v_22, ev_22, h⟩ := zbind h
  refine zo_getI 33 zkd_11 51 d_Mo_run_30 ev_22 rfl tw_1282 rfl ?_
  refine zi_i2l d_Mo_run_33 ?_
  obtain ⟨m_23, em_23, h⟩ := zbind h
  refine zo_last 35 d_Mo_run_34 em_23 rfl ?_
  refine zi_aload_n 0 d_Mo_run_35 rfl ?_
  refine zo_getR 39 zkd_11 36 d_Mo_run_36 eb_16 rfl tw_1267 rfl ?_
  refine zi_iconst 4 d_Mo_run_39 rfl ?_
  refine zi_aload_n 0 d_Mo_run_40 rfl ?_
  obtain ⟨q_24, eq_24, h⟩ := zbind h
  refine zo_virt (k' := 0) (n' := 0) 44 [] [.int 4, .ref b_16] [.int q_24.1, .int 4, .ref b_16] zkd_11 (zgR_s eb_16).1 (C_Mo_levels n E S a0 m_23 q_24.1 q_24.2 eq_24) d_Mo_run_41 tw_1868 tw_1865 tw_1867 ts_99 tw_13 dd_Mo_levels ⟨Nat.le_of_ble_eq_true rfl, Nat.le_of_ble_eq_true rfl, Nat.le_of_ble_eq_true rfl, Nat.le_of_ble_eq_true rfl⟩ (Nat.le_of_ble_eq_true rfl) rfl rfl rfl rfl ?_
  refine zi_i2l d_Mo_run_44 ?_
  obtain ⟨m_25, em_25, h⟩ := zbind h
  refine zo_last 46 d_Mo_run_45 em_25 rfl ?_
  refine zi_aload_n 0 d_Mo_run_46 rfl ?_
  obtain ⟨q_26, eq_26, h⟩ := zbind h
  refine zo_virt (k' := 0) (n' := 0) 50 [] [] [] zkd_11 (zgR_s eb_16).1 (C_Mo_layFlow n E S a0 m_25 q_26 eq_26) d_Mo_run_47 tw_1738 tw_1735 tw_1737 ts_85 tw_13 dd_Mo_layFlow ⟨Nat.le_of_ble_eq_true rfl, Nat.le_of_ble_eq_true rfl, Nat.le_of_ble_eq_true rfl, Nat.le_of_ble_eq_true rfl⟩ (Nat.le_of_ble_eq_true rfl) rfl rfl rfl rfl ?_
  refine zi_aload_n 0 d_Mo_run_50 rfl ?_
  refine zi_iconst 0 d_Mo_run_51 rfl ?_
  obtain ⟨m_27, em_27, h⟩ := zbind h
  refine zo_putZ 55 zkd_11 53 d_Mo_run_52 em_27 rfl rfl rfl tw_1284 rfl ?_
  refine zi_aload_n 0 d_Mo_run_55 rfl ?_
  obtain ⟨b_28, eb_28, h⟩ := zbind h
  refine zo_getR 59 zkd_11 49 d_Mo_run_56 eb_28 rfl tw_1280 rfl ?_
  refine zi_iload_n 1 d_Mo_run_59 rfl ?_
  refine zi_iconst 5 d_Mo_run_60 rfl ?_
  refine zi_iadd d_Mo_run_61 ?_
  obtain ⟨v_29, ev_29, h⟩ := zbind h
  refine zo_iald 63 d_Mo_run_62 ev_29 rfl ?_
  refine zi_aload_n 0 d_Mo_run_63 rfl ?_
  refine zo_getR 67 zkd_11 49 d_Mo_run_64 eb_28 rfl tw_1280 rfl ?_
  refine zi_iload_n 1 d_Mo_run_67 rfl ?_
  refine zi_bipush 6 d_Mo_run_68 rfl ?_
  refine zi_iadd d_Mo_run_70 ?_
  obtain ⟨v_30, ev_30, h⟩ := zbind h
  refine zo_iald 72 d_Mo_run_71 ev_30 rfl ?_
  refine zi_icmp_ge (tgt := 96) d_Mo_run_72 rfl (fun c_31 => ?_) (fun c_31 => ?_)
  · rw [if_pos c_31] at h
    refine zi_lo [(0, .ref a0), (1, .int x1)] [0, 1] rfl ?_
    exact K_Mo_run_b96 n E S a0 x1 m_27 r M'  h
  · rw [if_neg c_31] at h
    refine zi_aload_n 0 d_Mo_run_75 rfl ?_
    refine zi_iload_n 1 d_Mo_run_76 rfl ?_
    refine zi_iconst 5 d_Mo_run_77 rfl ?_
    refine zi_iadd d_Mo_run_78 ?_
    obtain ⟨q_32, eq_32, h⟩ := zbind h
    refine zo_virt (k' := 0) (n' := 0) 82 [.int (x1 + 5)] [] [.int q_32.1] zkd_11 (zgR_s eb_16).1 (C_Mo_sumOf n E S a0 (x1 + 5) m_27 q_32.1 q_32.2 eq_32) d_Mo_run_79 tw_1872 tw_1869 tw_1871 ts_100 tw_13 dd_Mo_sumOf ⟨Nat.le_of_ble_eq_true rfl, Nat.le_of_ble_eq_true rfl, Nat.le_of_ble_eq_true rfl, Nat.le_of_ble_eq_true rfl⟩ (Nat.le_of_ble_eq_true rfl) rfl rfl rfl rfl ?_
    refine zi_istore_n [(2, .int q_32.1), (0, .ref a0), (1, .int x1)] d_Mo_run_82 (by decide) rfl ?_
    refine zi_aload_n 1 d_Mo_run_83 rfl ?_
    obtain ⟨v_33, ev_33, h⟩ := zbind h
    refine zo_getI 87 zkd_11 53 d_Mo_run_84 ev_33 rfl tw_1284 rfl ?_
    refine zi_if_ne (tgt := 94) d_Mo_run_87 rfl (fun c_34 => ?_) (fun c_34 => ?_)
    · rw [if_neg c_34] at h
      refine zi_iconst 0 d_Mo_run_94 rfl ?_
      cases h
      exact zo_ret d_Mo_run_95 (Nat.le_of_ble_eq_true rfl) (Nat.le_of_ble_eq_true rfl) rfl
    · rw [if_pos c_34] at h
      refine zi_iload_n 0 d_Mo_run_90 rfl ?_
      refine zi_if_ne (tgt := 96) d_Mo_run_91 rfl (fun c_35 => ?_) (fun c_35 => ?_)
      · rw [if_neg c_35] at h
        refine zi_lo [(0, .ref a0), (1, .int x1)] [1, 2] rfl ?_
        exact K_Mo_run_b96 n E S a0 x1 q_32.2 r M'  h
      · rw [if_pos c_35] at h
        refine zi_iconst 0 d_Mo_run_94 rfl ?_
        cases h
        exact zo_ret d_Mo_run_95 (Nat.le_of_ble_eq_true rfl) (Nat.le_of_ble_eq_true rfl) rfl
theorem C_Mo_run (n : Nat) (E : zE) (S : zS) (a0 : Nat) (x1 : Int32) (M : zH) (r : Int32) (M' : zH) (h : F_Mo_run n E S a0 x1 M = some (r, M')) : zC E Y_Mo_run [.ref a0, .int x1] S M (some (.int r), S, M') :=
  zC.of (Or.inl (show plainName "NightColanderModel" = true by decide)) (Nat.le_of_ble_eq_true rfl) (trivial) (K_Mo_run n E S a0 x1 M r M' h)
theorem d_Mo_orders_0 : decode (yB Y_Mo_orders) 0 = .ok (.aload_n 0, 1) := by decide +kernel
theorem d_Mo_orders_1 : decode (yB Y_Mo_orders) 1 = .ok (.iconst 0, 1) := by decide +kernel
theorem d_Mo_orders_2 : decode (yB Y_Mo_orders) 2 = .ok (.putfield 156, 3) := by decide +kernel
theorem d_Mo_orders_5 : decode (yB Y_Mo_orders) 5 = .ok (.aload_n 0, 1) := by decide +kernel
theorem d_Mo_orders_6 : decode (yB Y_Mo_orders) 6 = .ok (.iconst (-1), 1) := by decide +kernel
theorem d_Mo_orders_7 : decode (yB Y_Mo_orders) 7 = .ok (.putfield 147, 3) := by decide +kernel
theorem d_Mo_orders_10 : decode (yB Y_Mo_orders) 10 = .ok (.aload_n 0, 1) := by decide +kernel
theorem d_Mo_orders_11 : decode (yB Y_Mo_orders) 11 = .ok (.iconst 1, 1) := by decide +kernel
theorem d_Mo_orders_12 : decode (yB Y_Mo_orders) 12 = .ok (.invokevirtual 393, 3) := by decide +kernel
theorem d_Mo_orders_15 : decode (yB Y_Mo_orders) 15 = .ok (.aload_n 0, 1) := by decide +kernel
theorem d_Mo_orders_16 : decode (yB Y_Mo_orders) 16 = .ok (.invokevirtual 532, 3) := by decide +kernel
theorem d_Mo_orders_19 : decode (yB Y_Mo_orders) 19 = .ok (.aload_n 0, 1) := by decide +kernel
theorem d_Mo_orders_20 : decode (yB Y_Mo_orders) 20 = .ok (.getfield 256, 3) := by decide +kernel
theorem d_Mo_orders_23 : decode (yB Y_Mo_orders) 23 = .ok (.ifCond .ne 23, 3) := by decide +kernel
theorem d_Mo_orders_26 : decode (yB Y_Mo_orders) 26 = .ok (.aload_n 0, 1) := by decide +kernel
theorem d_Mo_orders_27 : decode (yB Y_Mo_orders) 27 = .ok (.bipush 59, 2) := by decide +kernel
theorem d_Mo_orders_29 : decode (yB Y_Mo_orders) 29 = .ok (.invokevirtual 325, 3) := by decide +kernel
theorem d_Mo_orders_32 : decode (yB Y_Mo_orders) 32 = .ok (.ifCond .eq 14, 3) := by decide +kernel
theorem d_Mo_orders_35 : decode (yB Y_Mo_orders) 35 = .ok (.aload_n 0, 1) := by decide +kernel
theorem d_Mo_orders_36 : decode (yB Y_Mo_orders) 36 = .ok (.invokevirtual 260, 3) := by decide +kernel
theorem d_Mo_orders_39 : decode (yB Y_Mo_orders) 39 = .ok (.aload_n 0, 1) := by decide +kernel
theorem d_Mo_orders_40 : decode (yB Y_Mo_orders) 40 = .ok (.invokevirtual 532, 3) := by decide +kernel
theorem d_Mo_orders_43 : decode (yB Y_Mo_orders) 43 = .ok (.goto (-24), 3) := by decide +kernel
theorem d_Mo_orders_46 : decode (yB Y_Mo_orders) 46 = .ok (.aload_n 0, 1) := by decide +kernel
theorem d_Mo_orders_47 : decode (yB Y_Mo_orders) 47 = .ok (.invokevirtual 399, 3) := by decide +kernel
theorem d_Mo_orders_50 : decode (yB Y_Mo_orders) 50 = .ok (.aload_n 0, 1) := by decide +kernel
theorem d_Mo_orders_51 : decode (yB Y_Mo_orders) 51 = .ok (.getfield 256, 3) := by decide +kernel
theorem d_Mo_orders_54 : decode (yB Y_Mo_orders) 54 = .ok (.ifCond .eq 10, 3) := by decide +kernel
theorem d_Mo_orders_57 : decode (yB Y_Mo_orders) 57 = .ok (.aload_n 0, 1) := by decide +kernel
theorem d_Mo_orders_58 : decode (yB Y_Mo_orders) 58 = .ok (.bipush (-6), 2) := by decide +kernel
theorem d_Mo_orders_60 : decode (yB Y_Mo_orders) 60 = .ok (.invokevirtual 165, 3) := by decide +kernel
theorem d_Mo_orders_63 : decode (yB Y_Mo_orders) 63 = .ok (.ireturn, 1) := by decide +kernel
theorem d_Mo_orders_64 : decode (yB Y_Mo_orders) 64 = .ok (.aload_n 0, 1) := by decide +kernel
theorem d_Mo_orders_65 : decode (yB Y_Mo_orders) 65 = .ok (.bipush 17, 2) := by decide +kernel
theorem d_Mo_orders_67 : decode (yB Y_Mo_orders) 67 = .ok (.invokevirtual 169, 3) := by decide +kernel
theorem d_Mo_orders_70 : decode (yB Y_Mo_orders) 70 = .ok (.aload_n 0, 1) := by decide +kernel
theorem d_Mo_orders_71 : decode (yB Y_Mo_orders) 71 = .ok (.getfield 162, 3) := by decide +kernel
theorem d_Mo_orders_74 : decode (yB Y_Mo_orders) 74 = .ok (.istore_n 1, 1) := by decide +kernel
theorem d_Mo_orders_75 : decode (yB Y_Mo_orders) 75 = .ok (.iconst 0, 1) := by decide +kernel
theorem d_Mo_orders_76 : decode (yB Y_Mo_orders) 76 = .ok (.istore_n 2, 1) := by decide +kernel
theorem d_Mo_orders_77 : decode (yB Y_Mo_orders) 77 = .ok (.iload_n 2, 1) := by decide +kernel
theorem d_Mo_orders_78 : decode (yB Y_Mo_orders) 78 = .ok (.sipush 800, 3) := by decide +kernel
theorem d_Mo_orders_81 : decode (yB Y_Mo_orders) 81 = .ok (.if_icmp .ge 21, 3) := by decide +kernel
theorem d_Mo_orders_84 : decode (yB Y_Mo_orders) 84 = .ok (.aload_n 0, 1) := by decide +kernel
theorem d_Mo_orders_85 : decode (yB Y_Mo_orders) 85 = .ok (.getfield 29, 3) := by decide +kernel
theorem d_Mo_orders_88 : decode (yB Y_Mo_orders) 88 = .ok (.iload_n 2, 1) := by decide +kernel
theorem d_Mo_orders_89 : decode (yB Y_Mo_orders) 89 = .ok (.aload_n 0, 1) := by decide +kernel
theorem d_Mo_orders_90 : decode (yB Y_Mo_orders) 90 = .ok (.getfield 23, 3) := by decide +kernel
theorem d_Mo_orders_93 : decode (yB Y_Mo_orders) 93 = .ok (.iload_n 2, 1) := by decide +kernel
theorem d_Mo_orders_94 : decode (yB Y_Mo_orders) 94 = .ok (.iaload, 1) := by decide +kernel
theorem d_Mo_orders_95 : decode (yB Y_Mo_orders) 95 = .ok (.iastore, 1) := by decide +kernel
theorem d_Mo_orders_96 : decode (yB Y_Mo_orders) 96 = .ok (.iinc 2 1, 3) := by decide +kernel
theorem d_Mo_orders_99 : decode (yB Y_Mo_orders) 99 = .ok (.goto (-22), 3) := by decide +kernel
theorem d_Mo_orders_102 : decode (yB Y_Mo_orders) 102 = .ok (.iconst 0, 1) := by decide +kernel
theorem d_Mo_orders_103 : decode (yB Y_Mo_orders) 103 = .ok (.istore_n 2, 1) := by decide +kernel
theorem d_Mo_orders_104 : decode (yB Y_Mo_orders) 104 = .ok (.iload_n 2, 1) := by decide +kernel
theorem d_Mo_orders_105 : decode (yB Y_Mo_orders) 105 = .ok (.bipush 16, 2) := by decide +kernel
theorem d_Mo_orders_107 : decode (yB Y_Mo_orders) 107 = .ok (.if_icmp .ge 21, 3) := by decide +kernel
theorem d_Mo_orders_110 : decode (yB Y_Mo_orders) 110 = .ok (.aload_n 0, 1) := by decide +kernel
theorem d_Mo_orders_111 : decode (yB Y_Mo_orders) 111 = .ok (.getfield 32, 3) := by decide +kernel
theorem d_Mo_orders_114 : decode (yB Y_Mo_orders) 114 = .ok (.iload_n 2, 1) := by decide +kernel
theorem d_Mo_orders_115 : decode (yB Y_Mo_orders) 115 = .ok (.aload_n 0, 1) := by decide +kernel
theorem d_Mo_orders_116 : decode (yB Y_Mo_orders) 116 = .ok (.getfield 26, 3) := by decide +kernel
theorem d_Mo_orders_119 : decode (yB Y_Mo_orders) 119 = .ok (.iload_n 2, 1) := by decide +kernel
theorem d_Mo_orders_120 : decode (yB Y_Mo_orders) 120 = .ok (.iaload, 1) := by decide +kernel
theorem d_Mo_orders_121 : decode (yB Y_Mo_orders) 121 = .ok (.iastore, 1) := by decide +kernel
theorem d_Mo_orders_122 : decode (yB Y_Mo_orders) 122 = .ok (.iinc 2 1, 3) := by decide +kernel
theorem d_Mo_orders_125 : decode (yB Y_Mo_orders) 125 = .ok (.goto (-21), 3) := by decide +kernel
theorem d_Mo_orders_128 : decode (yB Y_Mo_orders) 128 = .ok (.aload_n 0, 1) := by decide +kernel
theorem d_Mo_orders_129 : decode (yB Y_Mo_orders) 129 = .ok (.iconst 0, 1) := by decide +kernel
theorem d_Mo_orders_130 : decode (yB Y_Mo_orders) 130 = .ok (.putfield 517, 3) := by decide +kernel
theorem d_Mo_orders_133 : decode (yB Y_Mo_orders) 133 = .ok (.aload_n 0, 1) := by decide +kernel
theorem d_Mo_orders_134 : decode (yB Y_Mo_orders) 134 = .ok (.iconst (-1), 1) := by decide +kernel
theorem d_Mo_orders_135 : decode (yB Y_Mo_orders) 135 = .ok (.putfield 520, 3) := by decide +kernel
theorem d_Mo_orders_138 : decode (yB Y_Mo_orders) 138 = .ok (.iconst 0, 1) := by decide +kernel
theorem d_Mo_orders_139 : decode (yB Y_Mo_orders) 139 = .ok (.istore_n 2, 1) := by decide +kernel
theorem d_Mo_orders_140 : decode (yB Y_Mo_orders) 140 = .ok (.iload_n 2, 1) := by decide +kernel
theorem d_Mo_orders_141 : decode (yB Y_Mo_orders) 141 = .ok (.aload_n 0, 1) := by decide +kernel
theorem d_Mo_orders_142 : decode (yB Y_Mo_orders) 142 = .ok (.getfield 385, 3) := by decide +kernel
theorem d_Mo_orders_145 : decode (yB Y_Mo_orders) 145 = .ok (.if_icmp .ge 61, 3) := by decide +kernel
theorem d_Mo_orders_148 : decode (yB Y_Mo_orders) 148 = .ok (.iconst 0, 1) := by decide +kernel
theorem d_Mo_orders_149 : decode (yB Y_Mo_orders) 149 = .ok (.istore_n 3, 1) := by decide +kernel
theorem d_Mo_orders_150 : decode (yB Y_Mo_orders) 150 = .ok (.iload_n 3, 1) := by decide +kernel
theorem d_Mo_orders_151 : decode (yB Y_Mo_orders) 151 = .ok (.aload_n 0, 1) := by decide +kernel
theorem d_Mo_orders_152 : decode (yB Y_Mo_orders) 152 = .ok (.getfield 144, 3) := by decide +kernel
theorem d_Mo_orders_155 : decode (yB Y_Mo_orders) 155 = .ok (.bipush 8, 2) := by decide +kernel
theorem d_Mo_orders_157 : decode (yB Y_Mo_orders) 157 = .ok (.iload_n 2, 1) := by decide +kernel
theorem d_Mo_orders_158 : decode (yB Y_Mo_orders) 158 = .ok (.imul, 1) := by decide +kernel
theorem d_Mo_orders_159 : decode (yB Y_Mo_orders) 159 = .ok (.bipush 7, 2) := by decide +kernel
theorem d_Mo_orders_161 : decode (yB Y_Mo_orders) 161 = .ok (.iadd, 1) := by decide +kernel
theorem d_Mo_orders_162 : decode (yB Y_Mo_orders) 162 = .ok (.iaload, 1) := by decide +kernel
theorem d_Mo_orders_163 : decode (yB Y_Mo_orders) 163 = .ok (.if_icmp .ge 37, 3) := by decide +kernel
theorem d_Mo_orders_166 : decode (yB Y_Mo_orders) 166 = .ok (.aload_n 0, 1) := by decide +kernel
theorem d_Mo_orders_167 : decode (yB Y_Mo_orders) 167 = .ok (.bipush 8, 2) := by decide +kernel
theorem d_Mo_orders_169 : decode (yB Y_Mo_orders) 169 = .ok (.iload_n 2, 1) := by decide +kernel
theorem d_Mo_orders_170 : decode (yB Y_Mo_orders) 170 = .ok (.imul, 1) := by decide +kernel
theorem d_Mo_orders_171 : decode (yB Y_Mo_orders) 171 = .ok (.invokevirtual 535, 3) := by decide +kernel
theorem d_Mo_orders_174 : decode (yB Y_Mo_orders) 174 = .ok (.ifCond .ge 20, 3) := by decide +kernel
theorem d_Mo_orders_177 : decode (yB Y_Mo_orders) 177 = .ok (.aload_n 0, 1) := by decide +kernel
theorem d_Mo_orders_178 : decode (yB Y_Mo_orders) 178 = .ok (.iload_n 1, 1) := by decide +kernel
theorem d_Mo_orders_179 : decode (yB Y_Mo_orders) 179 = .ok (.invokevirtual 538, 3) := by decide +kernel
theorem d_Mo_orders_182 : decode (yB Y_Mo_orders) 182 = .ok (.aload_n 0, 1) := by decide +kernel
theorem d_Mo_orders_183 : decode (yB Y_Mo_orders) 183 = .ok (.iload_n 2, 1) := by decide +kernel
theorem d_Mo_orders_184 : decode (yB Y_Mo_orders) 184 = .ok (.putfield 147, 3) := by decide +kernel
theorem d_Mo_orders_187 : decode (yB Y_Mo_orders) 187 = .ok (.aload_n 0, 1) := by decide +kernel
theorem d_Mo_orders_188 : decode (yB Y_Mo_orders) 188 = .ok (.bipush (-3), 2) := by decide +kernel
theorem d_Mo_orders_190 : decode (yB Y_Mo_orders) 190 = .ok (.invokevirtual 165, 3) := by decide +kernel
theorem d_Mo_orders_193 : decode (yB Y_Mo_orders) 193 = .ok (.ireturn, 1) := by decide +kernel
theorem d_Mo_orders_194 : decode (yB Y_Mo_orders) 194 = .ok (.iinc 3 1, 3) := by decide +kernel
theorem d_Mo_orders_197 : decode (yB Y_Mo_orders) 197 = .ok (.goto (-47), 3) := by decide +kernel
theorem d_Mo_orders_200 : decode (yB Y_Mo_orders) 200 = .ok (.iinc 2 1, 3) := by decide +kernel
theorem d_Mo_orders_203 : decode (yB Y_Mo_orders) 203 = .ok (.goto (-63), 3) := by decide +kernel
theorem d_Mo_orders_206 : decode (yB Y_Mo_orders) 206 = .ok (.aload_n 0, 1) := by decide +kernel
theorem d_Mo_orders_207 : decode (yB Y_Mo_orders) 207 = .ok (.aload_n 0, 1) := by decide +kernel
theorem d_Mo_orders_208 : decode (yB Y_Mo_orders) 208 = .ok (.getfield 517, 3) := by decide +kernel
theorem d_Mo_orders_211 : decode (yB Y_Mo_orders) 211 = .ok (.invokevirtual 165, 3) := by decide +kernel
theorem d_Mo_orders_214 : decode (yB Y_Mo_orders) 214 = .ok (.ireturn, 1) := by decide +kernel
def F_Mo_orders_L150 (n : Nat) (E : zE) (S : zS) (r140 : Nat × Int32 × Int32 × zH → Option (Int32 × zH)) (r150 : Nat × Int32 × Int32 × Int32 × zH → Option (Int32 × zH)) (a0 : Nat) (x1 : Int32) (x2 : Int32) (x3 : Int32) (M : zH) : Option (Int32 × zH) :=
  (zgR S a0 11 49).bind fun b_1 =>
  (zldI S M b_1 ((8 * x2) + 7)).bind fun v_2 =>
  if v_2 ≤ x3 then
    r140 (a0, x1, x2 + 1, M)
  else
    (F_Mo_run n E S a0 (8 * x2) M).bind fun q_4 =>
    if 0 ≤ q_4.1 then
      r150 (a0, x1, x2, x3 + 1, q_4.2)
    else
      (F_Mo_giveBack n E S a0 x1 q_4.2).bind fun q_6 =>
      (zpI S q_6 a0 11 52 x2).bind fun m_7 =>
      (F_Mo_tell n E S a0 (-3) m_7).bind fun q_8 =>
      some (q_8.1, q_8.2)
def F_Mo_orders_b150 (n : Nat) (E : zE) (S : zS) (r140 : Nat × Int32 × Int32 × zH → Option (Int32 × zH)) : Nat × Int32 × Int32 × Int32 × zH → Option (Int32 × zH) := zfix (fun r150 s => F_Mo_orders_L150 n E S r140 r150 s.1 s.2.1 s.2.2.1 s.2.2.2.1 s.2.2.2.2) n
def F_Mo_orders_L140 (n : Nat) (E : zE) (S : zS) (r140 : Nat × Int32 × Int32 × zH → Option (Int32 × zH)) (a0 : Nat) (x1 : Int32) (x2 : Int32) (M : zH) : Option (Int32 × zH) :=
  (zgI S M a0 11 21).bind fun v_9 =>
  if v_9 ≤ x2 then
    (zgI S M a0 11 50).bind fun v_11 =>
    (F_Mo_tell n E S a0 v_11 M).bind fun q_12 =>
    some (q_12.1, q_12.2)
  else
    F_Mo_orders_b150 n E S r140 (a0, x1, x2, 0, M)
def F_Mo_orders_b140 (n : Nat) (E : zE) (S : zS) : Nat × Int32 × Int32 × zH → Option (Int32 × zH) := zfix (fun r140 s => F_Mo_orders_L140 n E S r140 s.1 s.2.1 s.2.2.1 s.2.2.2) n
def F_Mo_orders_L104 (n : Nat) (E : zE) (S : zS) (r104 : Nat × Int32 × Int32 × zH → Option (Int32 × zH)) (a0 : Nat) (x1 : Int32) (x2 : Int32) (M : zH) : Option (Int32 × zH) :=
  if 16 ≤ x2 then
    (zpI S M a0 11 50 0).bind fun m_14 =>
    (zpI S m_14 a0 11 51 (-1)).bind fun m_15 =>
    F_Mo_orders_b140 n E S (a0, x1, 0, m_15)
  else
    (zgR S a0 11 10).bind fun b_16 =>
    (zgR S a0 11 7).bind fun b_17 =>
    (zldI S M b_17 x2).bind fun v_18 =>
    (zstI S M b_16 x2 v_18).bind fun m_19 =>
    r104 (a0, x1, x2 + 1, m_19)
def F_Mo_orders_b104 (n : Nat) (E : zE) (S : zS) : Nat × Int32 × Int32 × zH → Option (Int32 × zH) := zfix (fun r104 s => F_Mo_orders_L104 n E S r104 s.1 s.2.1 s.2.2.1 s.2.2.2) n
def F_Mo_orders_L77 (n : Nat) (E : zE) (S : zS) (r77 : Nat × Int32 × Int32 × zH → Option (Int32 × zH)) (a0 : Nat) (x1 : Int32) (x2 : Int32) (M : zH) : Option (Int32 × zH) :=
  if 800 ≤ x2 then
    F_Mo_orders_b104 n E S (a0, x1, 0, M)
  else
    (zgR S a0 11 9).bind fun b_21 =>
    (zgR S a0 11 6).bind fun b_22 =>
    (zldI S M b_22 x2).bind fun v_23 =>
    (zstI S M b_21 x2 v_23).bind fun m_24 =>
    r77 (a0, x1, x2 + 1, m_24)
def F_Mo_orders_b77 (n : Nat) (E : zE) (S : zS) : Nat × Int32 × Int32 × zH → Option (Int32 × zH) := zfix (fun r77 s => F_Mo_orders_L77 n E S r77 s.1 s.2.1 s.2.2.1 s.2.2.2) n
def F_Mo_orders_b46 (n : Nat) (E : zE) (S : zS) (a0 : Nat) (M : zH) : Option (Int32 × zH) :=
  (zck S a0 11).bind fun u_25 =>
  (F_Mo_endText n E S a0 M).bind fun q_26 =>
  (zgI S q_26 a0 11 19).bind fun v_27 =>
  if v_27 = 0 then
    (F_Mo_keepAll n E S a0 17 q_26).bind fun q_29 =>
    (zgI S q_29 a0 11 8).bind fun v_30 =>
    F_Mo_orders_b77 n E S (a0, v_30, 0, q_29)
  else
    (F_Mo_tell n E S a0 (-6) q_26).bind fun q_31 =>
    some (q_31.1, q_31.2)
def F_Mo_orders_L19 (n : Nat) (E : zE) (S : zS) (r19 : Nat × zH → Option (Int32 × zH)) (a0 : Nat) (M : zH) : Option (Int32 × zH) :=
  (zgI S M a0 11 19).bind fun v_32 =>
  if v_32 = 0 then
    (F_Mo_isSign n E S a0 59 M).bind fun q_34 =>
    if q_34.1 = true then
      (F_Mo_next n E S a0 q_34.2).bind fun q_36 =>
      (F_Mo_readOrder n E S a0 q_36).bind fun q_37 =>
      r19 (a0, q_37)
    else
      F_Mo_orders_b46 n E S a0 q_34.2
  else
    F_Mo_orders_b46 n E S a0 M
def F_Mo_orders_b19 (n : Nat) (E : zE) (S : zS) : Nat × zH → Option (Int32 × zH) := zfix (fun r19 s => F_Mo_orders_L19 n E S r19 s.1 s.2) n
def F_Mo_orders (n : Nat) (E : zE) (S : zS) (a0 : Nat) (M : zH) : Option (Int32 × zH) :=
  (zpI S M a0 11 0 0).bind fun m_38 =>
  (zpI S m_38 a0 11 52 (-1)).bind fun m_39 =>
  (zck S a0 11).bind fun u_40 =>
  (F_Mo_beginText n E S a0 1 m_39).bind fun q_41 =>
  (F_Mo_readOrder n E S a0 q_41).bind fun q_42 =>
  F_Mo_orders_b19 n E S (a0, q_42)
theorem K_Mo_orders_L150 (n : Nat) (E : zE) (S : zS) (r140 : Nat × Int32 × Int32 × zH → Option (Int32 × zH)) (r150 : Nat × Int32 × Int32 × Int32 × zH → Option (Int32 × zH)) (a0 : Nat) (x1 : Int32) (x2 : Int32) (x3 : Int32) (M : zH) (r : Int32) (M' : zH) (hr140 : ∀ (a0 : Nat) (x1 : Int32) (x2 : Int32) (M : zH), r140 (a0, x1, x2, M) = some (r, M') → zG E Y_Mo_orders (some (.int r), S, M') 140 [(0, .ref a0), (1, .int x1), (2, .int x2)] [] S M 0 0) (hr150 : ∀ (a0 : Nat) (x1 : Int32) (x2 : Int32) (x3 : Int32) (M : zH), r150 (a0, x1, x2, x3, M) = some (r, M') → zG E Y_Mo_orders (some (.int r), S, M') 150 [(0, .ref a0), (1, .int x1), (2, .int x2), (3, .int x3)] [] S M 0 0) (h : F_Mo_orders_L150 n E S r140 r150 a0 x1 x2 x3 M = some (r, M')) : zG E Y_Mo_orders (some (.int r), S, M') 150 [(0, .ref a0), (1, .int x1), (2, .int x2), (3, .int x3)] [] S M 0 0 := by
  unfold F_Mo_orders_L150 at h
  refine zi_iload_n 3 d_Mo_orders_150 rfl ?_
  refine zi_aload_n 0 d_Mo_orders_151 rfl ?_
  obtain ⟨b_1, eb_1, h⟩ := zbind h
  refine zo_getR 155 zkd_11 49 d_Mo_orders_152 eb_1 rfl tw_1280 rfl ?_
  refine zi_bipush 8 d_Mo_orders_155 rfl ?_
  refine zi_iload_n 2 d_Mo_orders_157 rfl ?_
  refine zi_imul d_Mo_orders_158 ?_
  refine zi_bipush 7 d_Mo_orders_159 rfl ?_
  refine zi_iadd d_Mo_orders_161 ?_
  obtain ⟨v_2, ev_2, h⟩ := zbind h
  refine zo_iald 163 d_Mo_orders_162 ev_2 rfl ?_
  refine zi_icmp_ge (tgt := 200) d_Mo_orders_163 rfl (fun c_3 => ?_) (fun c_3 => ?_)
  · rw [if_pos c_3] at h
    refine zi_iinc 2 (x2 + 1) [(2, .int (x2 + 1)), (0, .ref a0), (1, .int x1), (3, .int x3)] d_Mo_orders_200 rfl rfl (by decide) rfl ?_
    refine zi_goto (tgt := 140) d_Mo_orders_203 rfl ?_
    refine zi_lo [(0, .ref a0), (1, .int x1), (2, .int (x2 + 1))] [1, 2, 0] rfl ?_
    exact hr140 a0 x1 (x2 + 1) M h
  · rw [if_neg c_3] at h
    refine zi_aload_n 0 d_Mo_orders_166 rfl ?_
    refine zi_bipush 8 d_Mo_orders_167 rfl ?_
    refine zi_iload_n 2 d_Mo_orders_169 rfl ?_
    refine zi_imul d_Mo_orders_170 ?_
    obtain ⟨q_4, eq_4, h⟩ := zbind h
    refine zo_virt (k' := 0) (n' := 0) 174 [.int (8 * x2)] [] [.int q_4.1] zkd_11 (zgR_s eb_1).1 (C_Mo_run n E S a0 (8 * x2) M q_4.1 q_4.2 eq_4) d_Mo_orders_171 tw_1864 tw_1861 tw_1863 ts_98 tw_13 dd_Mo_run ⟨Nat.le_of_ble_eq_true rfl, Nat.le_of_ble_eq_true rfl, Nat.le_of_ble_eq_true rfl, Nat.le_of_ble_eq_true rfl⟩ (Nat.le_of_ble_eq_true rfl) rfl rfl rfl rfl ?_
    refine zi_if_ge (tgt := 194) d_Mo_orders_174 rfl (fun c_5 => ?_) (fun c_5 => ?_)
    · rw [if_pos c_5] at h
      refine zi_iinc 3 (x3 + 1) [(3, .int (x3 + 1)), (0, .ref a0), (1, .int x1), (2, .int x2)] d_Mo_orders_194 rfl rfl (by decide) rfl ?_
      refine zi_goto (tgt := 150) d_Mo_orders_197 rfl ?_
      refine zi_lo [(0, .ref a0), (1, .int x1), (2, .int x2), (3, .int (x3 + 1))] [1, 2, 3, 0] rfl ?_
      exact hr150 a0 x1 x2 (x3 + 1) q_4.2 h
    · rw [if_neg c_5] at h
      refine zi_aload_n 0 d_Mo_orders_177 rfl ?_
      refine zi_iload_n 1 d_Mo_orders_178 rfl ?_
      obtain ⟨q_6, eq_6, h⟩ := zbind h
      refine zo_virt (k' := 0) (n' := 0) 182 [.int x1] [] [] zkd_11 (zgR_s eb_1).1 (C_Mo_giveBack n E S a0 x1 q_4.2 q_6 eq_6) d_Mo_orders_179 tw_1880 tw_1877 tw_1879 ts_102 tw_13 dd_Mo_giveBack ⟨Nat.le_of_ble_eq_true rfl, Nat.le_of_ble_eq_true rfl, Nat.le_of_ble_eq_true rfl, Nat.le_of_ble_eq_true rfl⟩ (Nat.le_of_ble_eq_true rfl) rfl rfl rfl rfl ?_
      refine zi_aload_n 0 d_Mo_orders_182 rfl ?_
      refine zi_iload_n 2 d_Mo_orders_183 rfl ?_
      obtain ⟨m_7, em_7, h⟩ := zbind h
      refine zo_putI 187 zkd_11 52 d_Mo_orders_184 em_7 rfl rfl rfl tw_1283 rfl ?_
      refine zi_aload_n 0 d_Mo_orders_187 rfl ?_
      refine zi_bipush (-3) d_Mo_orders_188 rfl ?_
      obtain ⟨q_8, eq_8, h⟩ := zbind h
      refine zo_virt (k' := 0) (n' := 0) 193 [.int (-3)] [] [.int q_8.1] zkd_11 (zgR_s eb_1).1 (C_Mo_tell n E S a0 (-3) m_7 q_8.1 q_8.2 eq_8) d_Mo_orders_190 tw_1410 tw_1407 tw_1409 ts_36 tw_13 dd_Mo_tell ⟨Nat.le_of_ble_eq_true rfl, Nat.le_of_ble_eq_true rfl, Nat.le_of_ble_eq_true rfl, Nat.le_of_ble_eq_true rfl⟩ (Nat.le_of_ble_eq_true rfl) rfl rfl rfl rfl ?_
      cases h
      exact zo_ret d_Mo_orders_193 (Nat.le_of_ble_eq_true rfl) (Nat.le_of_ble_eq_true rfl) rfl
theorem K_Mo_orders_b150 (n : Nat) (E : zE) (S : zS) (r140 : Nat × Int32 × Int32 × zH → Option (Int32 × zH)) (a0 : Nat) (x1 : Int32) (x2 : Int32) (x3 : Int32) (M : zH) (r : Int32) (M' : zH) (hr140 : ∀ (a0 : Nat) (x1 : Int32) (x2 : Int32) (M : zH), r140 (a0, x1, x2, M) = some (r, M') → zG E Y_Mo_orders (some (.int r), S, M') 140 [(0, .ref a0), (1, .int x1), (2, .int x2)] [] S M 0 0) (h : F_Mo_orders_b150 n E S r140 (a0, x1, x2, x3, M) = some (r, M')) : zG E Y_Mo_orders (some (.int r), S, M') 150 [(0, .ref a0), (1, .int x1), (2, .int x2), (3, .int x3)] [] S M 0 0 := by
  have key : ∀ (k : Nat) (a0 : Nat) (x1 : Int32) (x2 : Int32) (x3 : Int32) (M : zH), zfix (fun r150 s => F_Mo_orders_L150 n E S r140 r150 s.1 s.2.1 s.2.2.1 s.2.2.2.1 s.2.2.2.2) k (a0, x1, x2, x3, M) = some (r, M') → zG E Y_Mo_orders (some (.int r), S, M') 150 [(0, .ref a0), (1, .int x1), (2, .int x2), (3, .int x3)] [] S M 0 0 := by
    intro k
    induction k with
    | zero => intro a0 x1 x2 x3 M h; cases h
    | succ k ih => intro a0 x1 x2 x3 M h; exact K_Mo_orders_L150 n E S r140 _ a0 x1 x2 x3 M r M' hr140 (fun a0 x1 x2 x3 M h => ih a0 x1 x2 x3 M h) h
  exact key n a0 x1 x2 x3 M h
theorem K_Mo_orders_L140 (n : Nat) (E : zE) (S : zS) (r140 : Nat × Int32 × Int32 × zH → Option (Int32 × zH)) (a0 : Nat) (x1 : Int32) (x2 : Int32) (M : zH) (r : Int32) (M' : zH) (hr140 : ∀ (a0 : Nat) (x1 : Int32) (x2 : Int32) (M : zH), r140 (a0, x1, x2, M) = some (r, M') → zG E Y_Mo_orders (some (.int r), S, M') 140 [(0, .ref a0), (1, .int x1), (2, .int x2)] [] S M 0 0) (h : F_Mo_orders_L140 n E S r140 a0 x1 x2 M = some (r, M')) : zG E Y_Mo_orders (some (.int r), S, M') 140 [(0, .ref a0), (1, .int x1), (2, .int x2)] [] S M 0 0 := by
  unfold F_Mo_orders_L140 at h
  refine zi_iload_n 2 d_Mo_orders_140 rfl ?_
  refine zi_aload_n 0 d_Mo_orders_141 rfl ?_
  obtain ⟨v_9, ev_9, h⟩ := zbind h
  refine zo_getI 145 zkd_11 21 d_Mo_orders_142 ev_9 rfl tw_1252 rfl ?_
  refine zi_icmp_ge (tgt := 206) d_Mo_orders_145 rfl (fun c_10 => ?_) (fun c_10 => ?_)
  · rw [if_pos c_10] at h
    refine zi_aload_n 0 d_Mo_orders_206 rfl ?_
    refine zi_aload_n 0 d_Mo_orders_207 rfl ?_
    obtain ⟨v_11, ev_11, h⟩ := zbind h
    refine zo_getI 211 zkd_11 50 d_Mo_orders_208 ev_11 rfl tw_1281 rfl ?_
    obtain ⟨q_12, eq_12, h⟩ := zbind h
    refine zo_virt (k' := 0) (n' := 0) 214 [.int v_11] [] [.int q_12.1] zkd_11 (zgI_s ev_9).1 (C_Mo_tell n E S a0 v_11 M q_12.1 q_12.2 eq_12) d_Mo_orders_211 tw_1410 tw_1407 tw_1409 ts_36 tw_13 dd_Mo_tell ⟨Nat.le_of_ble_eq_true rfl, Nat.le_of_ble_eq_true rfl, Nat.le_of_ble_eq_true rfl, Nat.le_of_ble_eq_true rfl⟩ (Nat.le_of_ble_eq_true rfl) rfl rfl rfl rfl ?_
    cases h
    exact zo_ret d_Mo_orders_214 (Nat.le_of_ble_eq_true rfl) (Nat.le_of_ble_eq_true rfl) rfl
  · rw [if_neg c_10] at h
    refine zi_iconst 0 d_Mo_orders_148 rfl ?_
    refine zi_istore_n [(3, .int 0), (0, .ref a0), (1, .int x1), (2, .int x2)] d_Mo_orders_149 (by decide) rfl ?_
    refine zi_lo [(0, .ref a0), (1, .int x1), (2, .int x2), (3, .int 0)] [1, 2, 3, 0] rfl ?_
    exact K_Mo_orders_b150 n E S r140 a0 x1 x2 0 M r M' hr140 h
theorem K_Mo_orders_b140 (n : Nat) (E : zE) (S : zS) (a0 : Nat) (x1 : Int32) (x2 : Int32) (M : zH) (r : Int32) (M' : zH)  (h : F_Mo_orders_b140 n E S (a0, x1, x2, M) = some (r, M')) : zG E Y_Mo_orders (some (.int r), S, M') 140 [(0, .ref a0), (1, .int x1), (2, .int x2)] [] S M 0 0 := by
  have key : ∀ (k : Nat) (a0 : Nat) (x1 : Int32) (x2 : Int32) (M : zH), zfix (fun r140 s => F_Mo_orders_L140 n E S r140 s.1 s.2.1 s.2.2.1 s.2.2.2) k (a0, x1, x2, M) = some (r, M') → zG E Y_Mo_orders (some (.int r), S, M') 140 [(0, .ref a0), (1, .int x1), (2, .int x2)] [] S M 0 0 := by
    intro k
    induction k with
    | zero => intro a0 x1 x2 M h; cases h
    | succ k ih => intro a0 x1 x2 M h; exact K_Mo_orders_L140 n E S _ a0 x1 x2 M r M'  (fun a0 x1 x2 M h => ih a0 x1 x2 M h) h
  exact key n a0 x1 x2 M h
theorem K_Mo_orders_L104 (n : Nat) (E : zE) (S : zS) (r104 : Nat × Int32 × Int32 × zH → Option (Int32 × zH)) (a0 : Nat) (x1 : Int32) (x2 : Int32) (M : zH) (r : Int32) (M' : zH) (hr104 : ∀ (a0 : Nat) (x1 : Int32) (x2 : Int32) (M : zH), r104 (a0, x1, x2, M) = some (r, M') → zG E Y_Mo_orders (some (.int r), S, M') 104 [(0, .ref a0), (1, .int x1), (2, .int x2)] [] S M 0 0) (h : F_Mo_orders_L104 n E S r104 a0 x1 x2 M = some (r, M')) : zG E Y_Mo_orders (some (.int r), S, M') 104 [(0, .ref a0), (1, .int x1), (2, .int x2)] [] S M 0 0 := by
  unfold F_Mo_orders_L104 at h
  refine zi_iload_n 2 d_Mo_orders_104 rfl ?_
  refine zi_bipush 16 d_Mo_orders_105 rfl ?_
  refine zi_icmp_ge (tgt := 128) d_Mo_orders_107 rfl (fun c_13 => ?_) (fun c_13 => ?_)
  · rw [if_pos c_13] at h
    refine zi_aload_n 0 d_Mo_orders_128 rfl ?_
    refine zi_iconst 0 d_Mo_orders_129 rfl ?_
    obtain ⟨m_14, em_14, h⟩ := zbind h
    refine zo_putI 133 zkd_11 50 d_Mo_orders_130 em_14 rfl rfl rfl tw_1281 rfl ?_
    refine zi_aload_n 0 d_Mo_orders_133 rfl ?_
    refine zi_iconst (-1) d_Mo_orders_134 rfl ?_
    obtain ⟨m_15, em_15, h⟩ := zbind h
    refine zo_putI 138 zkd_11 51 d_Mo_orders_135 em_15 rfl rfl rfl tw_1282 rfl ?_
    refine zi_iconst 0 d_Mo_orders_138 rfl ?_
    refine zi_istore_n [(2, .int 0), (0, .ref a0), (1, .int x1)] d_Mo_orders_139 (by decide) rfl ?_
    refine zi_lo [(0, .ref a0), (1, .int x1), (2, .int 0)] [1, 2, 0] rfl ?_
    exact K_Mo_orders_b140 n E S a0 x1 0 m_15 r M'  h
  · rw [if_neg c_13] at h
    refine zi_aload_n 0 d_Mo_orders_110 rfl ?_
    obtain ⟨b_16, eb_16, h⟩ := zbind h
    refine zo_getR 114 zkd_11 10 d_Mo_orders_111 eb_16 rfl tw_1241 rfl ?_
    refine zi_iload_n 2 d_Mo_orders_114 rfl ?_
    refine zi_aload_n 0 d_Mo_orders_115 rfl ?_
    obtain ⟨b_17, eb_17, h⟩ := zbind h
    refine zo_getR 119 zkd_11 7 d_Mo_orders_116 eb_17 rfl tw_1238 rfl ?_
    refine zi_iload_n 2 d_Mo_orders_119 rfl ?_
    obtain ⟨v_18, ev_18, h⟩ := zbind h
    refine zo_iald 121 d_Mo_orders_120 ev_18 rfl ?_
    obtain ⟨m_19, em_19, h⟩ := zbind h
    refine zo_iast 122 d_Mo_orders_121 em_19 rfl ?_
    refine zi_iinc 2 (x2 + 1) [(2, .int (x2 + 1)), (0, .ref a0), (1, .int x1)] d_Mo_orders_122 rfl rfl (by decide) rfl ?_
    refine zi_goto (tgt := 104) d_Mo_orders_125 rfl ?_
    refine zi_lo [(0, .ref a0), (1, .int x1), (2, .int (x2 + 1))] [1, 2, 0] rfl ?_
    exact hr104 a0 x1 (x2 + 1) m_19 h
theorem K_Mo_orders_b104 (n : Nat) (E : zE) (S : zS) (a0 : Nat) (x1 : Int32) (x2 : Int32) (M : zH) (r : Int32) (M' : zH)  (h : F_Mo_orders_b104 n E S (a0, x1, x2, M) = some (r, M')) : zG E Y_Mo_orders (some (.int r), S, M') 104 [(0, .ref a0), (1, .int x1), (2, .int x2)] [] S M 0 0 := by
  have key : ∀ (k : Nat) (a0 : Nat) (x1 : Int32) (x2 : Int32) (M : zH), zfix (fun r104 s => F_Mo_orders_L104 n E S r104 s.1 s.2.1 s.2.2.1 s.2.2.2) k (a0, x1, x2, M) = some (r, M') → zG E Y_Mo_orders (some (.int r), S, M') 104 [(0, .ref a0), (1, .int x1), (2, .int x2)] [] S M 0 0 := by
    intro k
    induction k with
    | zero => intro a0 x1 x2 M h; cases h
    | succ k ih => intro a0 x1 x2 M h; exact K_Mo_orders_L104 n E S _ a0 x1 x2 M r M'  (fun a0 x1 x2 M h => ih a0 x1 x2 M h) h
  exact key n a0 x1 x2 M h
theorem K_Mo_orders_L77 (n : Nat) (E : zE) (S : zS) (r77 : Nat × Int32 × Int32 × zH → Option (Int32 × zH)) (a0 : Nat) (x1 : Int32) (x2 : Int32) (M : zH) (r : Int32) (M' : zH) (hr77 : ∀ (a0 : Nat) (x1 : Int32) (x2 : Int32) (M : zH), r77 (a0, x1, x2, M) = some (r, M') → zG E Y_Mo_orders (some (.int r), S, M') 77 [(0, .ref a0), (1, .int x1), (2, .int x2)] [] S M 0 0) (h : F_Mo_orders_L77 n E S r77 a0 x1 x2 M = some (r, M')) : zG E Y_Mo_orders (some (.int r), S, M') 77 [(0, .ref a0), (1, .int x1), (2, .int x2)] [] S M 0 0 := by
  unfold F_Mo_orders_L77 at h
  refine zi_iload_n 2 d_Mo_orders_77 rfl ?_
  refine zi_sipush 800 d_Mo_orders_78 rfl ?_
  refine zi_icmp_ge (tgt := 102) d_Mo_orders_81 rfl (fun c_20 => ?_) (fun c_20 => ?_)
  · rw [if_pos c_20] at h
    refine zi_iconst 0 d_Mo_orders_102 rfl ?_
    refine zi_istore_n [(2, .int 0), (0, .ref a0), (1, .int x1)] d_Mo_orders_103 (by decide) rfl ?_
    refine zi_lo [(0, .ref a0), (1, .int x1), (2, .int 0)] [1, 2, 0] rfl ?_
    exact K_Mo_orders_b104 n E S a0 x1 0 M r M'  h
  · rw [if_neg c_20] at h
    refine zi_aload_n 0 d_Mo_orders_84 rfl ?_
    obtain ⟨b_21, eb_21, h⟩ := zbind h
    refine zo_getR 88 zkd_11 9 d_Mo_orders_85 eb_21 rfl tw_1240 rfl ?_
    refine zi_iload_n 2 d_Mo_orders_88 rfl ?_
    refine zi_aload_n 0 d_Mo_orders_89 rfl ?_
    obtain ⟨b_22, eb_22, h⟩ := zbind h
    refine zo_getR 93 zkd_11 6 d_Mo_orders_90 eb_22 rfl tw_1237 rfl ?_
    refine zi_iload_n 2 d_Mo_orders_93 rfl ?_
    obtain ⟨v_23, ev_23, h⟩ := zbind h
    refine zo_iald 95 d_Mo_orders_94 ev_23 rfl ?_
    obtain ⟨m_24, em_24, h⟩ := zbind h
    refine zo_iast 96 d_Mo_orders_95 em_24 rfl ?_
    refine zi_iinc 2 (x2 + 1) [(2, .int (x2 + 1)), (0, .ref a0), (1, .int x1)] d_Mo_orders_96 rfl rfl (by decide) rfl ?_
    refine zi_goto (tgt := 77) d_Mo_orders_99 rfl ?_
    refine zi_lo [(0, .ref a0), (1, .int x1), (2, .int (x2 + 1))] [1, 2, 0] rfl ?_
    exact hr77 a0 x1 (x2 + 1) m_24 h
theorem K_Mo_orders_b77 (n : Nat) (E : zE) (S : zS) (a0 : Nat) (x1 : Int32) (x2 : Int32) (M : zH) (r : Int32) (M' : zH)  (h : F_Mo_orders_b77 n E S (a0, x1, x2, M) = some (r, M')) : zG E Y_Mo_orders (some (.int r), S, M') 77 [(0, .ref a0), (1, .int x1), (2, .int x2)] [] S M 0 0 := by
  have key : ∀ (k : Nat) (a0 : Nat) (x1 : Int32) (x2 : Int32) (M : zH), zfix (fun r77 s => F_Mo_orders_L77 n E S r77 s.1 s.2.1 s.2.2.1 s.2.2.2) k (a0, x1, x2, M) = some (r, M') → zG E Y_Mo_orders (some (.int r), S, M') 77 [(0, .ref a0), (1, .int x1), (2, .int x2)] [] S M 0 0 := by
    intro k
    induction k with
    | zero => intro a0 x1 x2 M h; cases h
    | succ k ih => intro a0 x1 x2 M h; exact K_Mo_orders_L77 n E S _ a0 x1 x2 M r M'  (fun a0 x1 x2 M h => ih a0 x1 x2 M h) h
  exact key n a0 x1 x2 M h
theorem K_Mo_orders_b46 (n : Nat) (E : zE) (S : zS) (a0 : Nat) (M : zH) (r : Int32) (M' : zH)  (h : F_Mo_orders_b46 n E S a0 M = some (r, M')) : zG E Y_Mo_orders (some (.int r), S, M') 46 [(0, .ref a0)] [] S M 0 0 := by
  unfold F_Mo_orders_b46 at h
  refine zi_aload_n 0 d_Mo_orders_46 rfl ?_
  obtain ⟨u_25, eu_25, h⟩ := zbind h
  obtain ⟨q_26, eq_26, h⟩ := zbind h
  refine zo_virt (k' := 0) (n' := 0) 50 [] [] [] zkd_11 (zck_s eu_25) (C_Mo_endText n E S a0 M q_26 eq_26) d_Mo_orders_47 tw_1682 tw_1679 tw_1681 ts_76 tw_13 dd_Mo_endText ⟨Nat.le_of_ble_eq_true rfl, Nat.le_of_ble_eq_true rfl, Nat.le_of_ble_eq_true rfl, Nat.le_of_ble_eq_true rfl⟩ (Nat.le_of_ble_eq_true rfl) rfl rfl rfl rfl ?_
  refine zi_aload_n 0 d_Mo_orders_50 rfl ?_
  obtain ⟨v_27, ev_27, h⟩ := zbind h
  refine zo_getI 54 zkd_11 19 d_Mo_orders_51 ev_27 rfl tw_1250 rfl ?_
  refine zi_if_eq (tgt := 64) d_Mo_orders_54 rfl (fun c_28 => ?_) (fun c_28 => ?_)
  · rw [if_pos c_28] at h
    refine zi_aload_n 0 d_Mo_orders_64 rfl ?_
    refine zi_bipush 17 d_Mo_orders_65 rfl ?_
    obtain ⟨q_29, eq_29, h⟩ := zbind h
    refine zo_virt (k' := 0) (n' := 0) 70 [.int 17] [] [] zkd_11 (zck_s eu_25) (C_Mo_keepAll n E S a0 17 q_26 q_29 eq_29) d_Mo_orders_67 tw_1706 tw_1703 tw_1705 ts_80 tw_13 dd_Mo_keepAll ⟨Nat.le_of_ble_eq_true rfl, Nat.le_of_ble_eq_true rfl, Nat.le_of_ble_eq_true rfl, Nat.le_of_ble_eq_true rfl⟩ (Nat.le_of_ble_eq_true rfl) rfl rfl rfl rfl ?_
    refine zi_aload_n 0 d_Mo_orders_70 rfl ?_
    obtain ⟨v_30, ev_30, h⟩ := zbind h
    refine zo_getI 74 zkd_11 8 d_Mo_orders_71 ev_30 rfl tw_1239 rfl ?_
    refine zi_istore_n [(1, .int v_30), (0, .ref a0)] d_Mo_orders_74 (by decide) rfl ?_
    refine zi_iconst 0 d_Mo_orders_75 rfl ?_
    refine zi_istore_n [(2, .int 0), (1, .int v_30), (0, .ref a0)] d_Mo_orders_76 (by decide) rfl ?_
    refine zi_lo [(0, .ref a0), (1, .int v_30), (2, .int 0)] [2, 1, 0] rfl ?_
    exact K_Mo_orders_b77 n E S a0 v_30 0 q_29 r M'  h
  · rw [if_neg c_28] at h
    refine zi_aload_n 0 d_Mo_orders_57 rfl ?_
    refine zi_bipush (-6) d_Mo_orders_58 rfl ?_
    obtain ⟨q_31, eq_31, h⟩ := zbind h
    refine zo_virt (k' := 0) (n' := 0) 63 [.int (-6)] [] [.int q_31.1] zkd_11 (zck_s eu_25) (C_Mo_tell n E S a0 (-6) q_26 q_31.1 q_31.2 eq_31) d_Mo_orders_60 tw_1410 tw_1407 tw_1409 ts_36 tw_13 dd_Mo_tell ⟨Nat.le_of_ble_eq_true rfl, Nat.le_of_ble_eq_true rfl, Nat.le_of_ble_eq_true rfl, Nat.le_of_ble_eq_true rfl⟩ (Nat.le_of_ble_eq_true rfl) rfl rfl rfl rfl ?_
    cases h
    exact zo_ret d_Mo_orders_63 (Nat.le_of_ble_eq_true rfl) (Nat.le_of_ble_eq_true rfl) rfl
theorem K_Mo_orders_L19 (n : Nat) (E : zE) (S : zS) (r19 : Nat × zH → Option (Int32 × zH)) (a0 : Nat) (M : zH) (r : Int32) (M' : zH) (hr19 : ∀ (a0 : Nat) (M : zH), r19 (a0, M) = some (r, M') → zG E Y_Mo_orders (some (.int r), S, M') 19 [(0, .ref a0)] [] S M 0 0) (h : F_Mo_orders_L19 n E S r19 a0 M = some (r, M')) : zG E Y_Mo_orders (some (.int r), S, M') 19 [(0, .ref a0)] [] S M 0 0 := by
  unfold F_Mo_orders_L19 at h
  refine zi_aload_n 0 d_Mo_orders_19 rfl ?_
  obtain ⟨v_32, ev_32, h⟩ := zbind h
  refine zo_getI 23 zkd_11 19 d_Mo_orders_20 ev_32 rfl tw_1250 rfl ?_
  refine zi_if_ne (tgt := 46) d_Mo_orders_23 rfl (fun c_33 => ?_) (fun c_33 => ?_)
  · rw [if_neg c_33] at h
    refine zi_lo [(0, .ref a0)] [0] rfl ?_
    exact K_Mo_orders_b46 n E S a0 M r M'  h
  · rw [if_pos c_33] at h
    refine zi_aload_n 0 d_Mo_orders_26 rfl ?_
    refine zi_bipush 59 d_Mo_orders_27 rfl ?_
    obtain ⟨q_34, eq_34, h⟩ := zbind h
    refine zo_virt (k' := 0) (n' := 0) 32 [.int 59] [] [.int (bI q_34.1)] zkd_11 (zgI_s ev_32).1 (C_Mo_isSign n E S a0 59 M q_34.1 q_34.2 eq_34) d_Mo_orders_29 tw_1618 tw_1615 tw_1617 ts_63 tw_13 dd_Mo_isSign ⟨Nat.le_of_ble_eq_true rfl, Nat.le_of_ble_eq_true rfl, Nat.le_of_ble_eq_true rfl, Nat.le_of_ble_eq_true rfl⟩ (Nat.le_of_ble_eq_true rfl) rfl rfl rfl rfl ?_
    refine zo_ifeqB d_Mo_orders_32 rfl 35 rfl (fun c_35 => ?_) (fun c_35 => ?_)
    · rw [if_neg c_35] at h
      refine zi_lo [(0, .ref a0)] [0] rfl ?_
      exact K_Mo_orders_b46 n E S a0 q_34.2 r M'  h
    · rw [if_pos c_35] at h
      refine zi_aload_n 0 d_Mo_orders_35 rfl ?_
      obtain ⟨q_36, eq_36, h⟩ := zbind h
      refine zo_virt (k' := 0) (n' := 0) 39 [] [] [] zkd_11 (zgI_s ev_32).1 (C_Mo_next n E S a0 q_34.2 q_36 eq_36) d_Mo_orders_36 tw_1579 tw_1576 tw_1578 ts_56 tw_13 dd_Mo_next ⟨Nat.le_of_ble_eq_true rfl, Nat.le_of_ble_eq_true rfl, Nat.le_of_ble_eq_true rfl, Nat.le_of_ble_eq_true rfl⟩ (Nat.le_of_ble_eq_true rfl) rfl rfl rfl rfl ?_
      refine zi_aload_n 0 d_Mo_orders_39 rfl ?_
      obtain ⟨q_37, eq_37, h⟩ := zbind h
      refine zo_virt (k' := 0) (n' := 0) 43 [] [] [] zkd_11 (zgI_s ev_32).1 (C_Mo_readOrder n E S a0 q_36 q_37 eq_37) d_Mo_orders_40 tw_1853 tw_1850 tw_1852 ts_96 tw_13 dd_Mo_readOrder ⟨Nat.le_of_ble_eq_true rfl, Nat.le_of_ble_eq_true rfl, Nat.le_of_ble_eq_true rfl, Nat.le_of_ble_eq_true rfl⟩ (Nat.le_of_ble_eq_true rfl) rfl rfl rfl rfl ?_
      refine zi_goto (tgt := 19) d_Mo_orders_43 rfl ?_
      refine zi_lo [(0, .ref a0)] [0] rfl ?_
      exact hr19 a0 q_37 h
theorem K_Mo_orders_b19 (n : Nat) (E : zE) (S : zS) (a0 : Nat) (M : zH) (r : Int32) (M' : zH)  (h : F_Mo_orders_b19 n E S (a0, M) = some (r, M')) : zG E Y_Mo_orders (some (.int r), S, M') 19 [(0, .ref a0)] [] S M 0 0 := by
  have key : ∀ (k : Nat) (a0 : Nat) (M : zH), zfix (fun r19 s => F_Mo_orders_L19 n E S r19 s.1 s.2) k (a0, M) = some (r, M') → zG E Y_Mo_orders (some (.int r), S, M') 19 [(0, .ref a0)] [] S M 0 0 := by
    intro k
    induction k with
    | zero => intro a0 M h; cases h
    | succ k ih => intro a0 M h; exact K_Mo_orders_L19 n E S _ a0 M r M'  (fun a0 M h => ih a0 M h) h
  exact key n a0 M h
theorem K_Mo_orders (n : Nat) (E : zE) (S : zS) (a0 : Nat) (M : zH) (r : Int32) (M' : zH)  (h : F_Mo_orders n E S a0 M = some (r, M')) : zG E Y_Mo_orders (some (.int r), S, M') 0 [(0, .ref a0)] [] S M 0 0 := by
  unfold F_Mo_orders at h
  refine zi_aload_n 0 d_Mo_orders_0 rfl ?_
  refine zi_iconst 0 d_Mo_orders_1 rfl ?_
  obtain ⟨m_38, em_38, h⟩ := zbind h
  refine zo_putI 5 zkd_11 0 d_Mo_orders_2 em_38 rfl rfl rfl tw_1231 rfl ?_
  refine zi_aload_n 0 d_Mo_orders_5 rfl ?_
  refine zi_iconst (-1) d_Mo_orders_6 rfl ?_
  obtain ⟨m_39, em_39, h⟩ := zbind h
  refine zo_putI 10 zkd_11 52 d_Mo_orders_7 em_39 rfl rfl rfl tw_1283 rfl ?_
  refine zi_aload_n 0 d_Mo_orders_10 rfl ?_
  refine zi_iconst 1 d_Mo_orders_11 rfl ?_
  obtain ⟨u_40, eu_40, h⟩ := zbind h
  obtain ⟨q_41, eq_41, h⟩ := zbind h
  refine zo_virt (k' := 0) (n' := 0) 15 [.int 1] [] [] zkd_11 (zck_s eu_40) (C_Mo_beginText n E S a0 1 m_39 q_41 eq_41) d_Mo_orders_12 tw_1571 tw_1568 tw_1570 ts_54 tw_13 dd_Mo_beginText ⟨Nat.le_of_ble_eq_true rfl, Nat.le_of_ble_eq_true rfl, Nat.le_of_ble_eq_true rfl, Nat.le_of_ble_eq_true rfl⟩ (Nat.le_of_ble_eq_true rfl) rfl rfl rfl rfl ?_
  refine zi_aload_n 0 d_Mo_orders_15 rfl ?_
  obtain ⟨q_42, eq_42, h⟩ := zbind h
  refine zo_virt (k' := 0) (n' := 0) 19 [] [] [] zkd_11 (zck_s eu_40) (C_Mo_readOrder n E S a0 q_41 q_42 eq_42) d_Mo_orders_16 tw_1853 tw_1850 tw_1852 ts_96 tw_13 dd_Mo_readOrder ⟨Nat.le_of_ble_eq_true rfl, Nat.le_of_ble_eq_true rfl, Nat.le_of_ble_eq_true rfl, Nat.le_of_ble_eq_true rfl⟩ (Nat.le_of_ble_eq_true rfl) rfl rfl rfl rfl ?_
  refine zi_lo [(0, .ref a0)] [0] rfl ?_
  exact K_Mo_orders_b19 n E S a0 q_42 r M'  h
theorem C_Mo_orders (n : Nat) (E : zE) (S : zS) (a0 : Nat) (M : zH) (r : Int32) (M' : zH) (h : F_Mo_orders n E S a0 M = some (r, M')) : zC E Y_Mo_orders [.ref a0] S M (some (.int r), S, M') :=
  zC.of (Or.inl (show plainName "NightColanderModel" = true by decide)) (Nat.le_of_ble_eq_true rfl) (trivial) (K_Mo_orders n E S a0 M r M' h)
