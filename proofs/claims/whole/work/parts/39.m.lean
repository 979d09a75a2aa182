/-! METHODS (printed by gen/build.py): Mo_blockNow Mo_block Mo_reamNow Mo_ream Mo_setNow Mo_set Mo_catchIn Mo_layFlow Mo_turnAll Mo_passIt Mo_passNow Mo_pass Mo_when Mo_isNew Mo_findPlaced -/
theorem d_Mo_blockNow_0 : decode (yB Y_Mo_blockNow) 0 = .ok (.iload_n 2, 1) := by decide +kernel
theorem d_Mo_blockNow_1 : decode (yB Y_Mo_blockNow) 1 = .ok (.invokestatic 190, 3) := by decide +kernel
theorem d_Mo_blockNow_4 : decode (yB Y_Mo_blockNow) 4 = .ok (.ifCond .eq 10, 3) := by decide +kernel
theorem d_Mo_blockNow_7 : decode (yB Y_Mo_blockNow) 7 = .ok (.iload_n 1, 1) := by decide +kernel
theorem d_Mo_blockNow_8 : decode (yB Y_Mo_blockNow) 8 = .ok (.invokestatic 194, 3) := by decide +kernel
theorem d_Mo_blockNow_11 : decode (yB Y_Mo_blockNow) 11 = .ok (.ifCond .ne 5, 3) := by decide +kernel
theorem d_Mo_blockNow_14 : decode (yB Y_Mo_blockNow) 14 = .ok (.iconst (-1), 1) := by decide +kernel
theorem d_Mo_blockNow_15 : decode (yB Y_Mo_blockNow) 15 = .ok (.ireturn, 1) := by decide +kernel
theorem d_Mo_blockNow_16 : decode (yB Y_Mo_blockNow) 16 = .ok (.aload_n 0, 1) := by decide +kernel
theorem d_Mo_blockNow_17 : decode (yB Y_Mo_blockNow) 17 = .ok (.iconst 0, 1) := by decide +kernel
theorem d_Mo_blockNow_18 : decode (yB Y_Mo_blockNow) 18 = .ok (.invokevirtual 445, 3) := by decide +kernel
theorem d_Mo_blockNow_21 : decode (yB Y_Mo_blockNow) 21 = .ok (.aload_n 0, 1) := by decide +kernel
theorem d_Mo_blockNow_22 : decode (yB Y_Mo_blockNow) 22 = .ok (.getfield 13, 3) := by decide +kernel
theorem d_Mo_blockNow_25 : decode (yB Y_Mo_blockNow) 25 = .ok (.bipush 44, 2) := by decide +kernel
theorem d_Mo_blockNow_27 : decode (yB Y_Mo_blockNow) 27 = .ok (.iload_n 2, 1) := by decide +kernel
theorem d_Mo_blockNow_28 : decode (yB Y_Mo_blockNow) 28 = .ok (.iadd, 1) := by decide +kernel
theorem d_Mo_blockNow_29 : decode (yB Y_Mo_blockNow) 29 = .ok (.dup2, 1) := by decide +kernel
theorem d_Mo_blockNow_30 : decode (yB Y_Mo_blockNow) 30 = .ok (.iaload, 1) := by decide +kernel
theorem d_Mo_blockNow_31 : decode (yB Y_Mo_blockNow) 31 = .ok (.iconst 1, 1) := by decide +kernel
theorem d_Mo_blockNow_32 : decode (yB Y_Mo_blockNow) 32 = .ok (.iload_n 1, 1) := by decide +kernel
theorem d_Mo_blockNow_33 : decode (yB Y_Mo_blockNow) 33 = .ok (.ishl, 1) := by decide +kernel
theorem d_Mo_blockNow_34 : decode (yB Y_Mo_blockNow) 34 = .ok (.ixor, 1) := by decide +kernel
theorem d_Mo_blockNow_35 : decode (yB Y_Mo_blockNow) 35 = .ok (.iastore, 1) := by decide +kernel
theorem d_Mo_blockNow_36 : decode (yB Y_Mo_blockNow) 36 = .ok (.aload_n 0, 1) := by decide +kernel
theorem d_Mo_blockNow_37 : decode (yB Y_Mo_blockNow) 37 = .ok (.getfield 13, 3) := by decide +kernel
theorem d_Mo_blockNow_40 : decode (yB Y_Mo_blockNow) 40 = .ok (.bipush 44, 2) := by decide +kernel
theorem d_Mo_blockNow_42 : decode (yB Y_Mo_blockNow) 42 = .ok (.iload_n 2, 1) := by decide +kernel
theorem d_Mo_blockNow_43 : decode (yB Y_Mo_blockNow) 43 = .ok (.iadd, 1) := by decide +kernel
theorem d_Mo_blockNow_44 : decode (yB Y_Mo_blockNow) 44 = .ok (.iaload, 1) := by decide +kernel
theorem d_Mo_blockNow_45 : decode (yB Y_Mo_blockNow) 45 = .ok (.iload_n 1, 1) := by decide +kernel
theorem d_Mo_blockNow_46 : decode (yB Y_Mo_blockNow) 46 = .ok (.ishr, 1) := by decide +kernel
theorem d_Mo_blockNow_47 : decode (yB Y_Mo_blockNow) 47 = .ok (.iconst 1, 1) := by decide +kernel
theorem d_Mo_blockNow_48 : decode (yB Y_Mo_blockNow) 48 = .ok (.iand, 1) := by decide +kernel
theorem d_Mo_blockNow_49 : decode (yB Y_Mo_blockNow) 49 = .ok (.ireturn, 1) := by decide +kernel
def F_Mo_blockNow (n : Nat) (E : zE) (S : zS) (a0 : Nat) (x1 : Int32) (x2 : Int32) (M : zH) : Option (Int32 × zH) :=
  (F_Mo_isRing n E S x2 M).bind fun q_1 =>
  if q_1.1 = true then
    (F_Mo_isField n E S x1 q_1.2).bind fun q_3 =>
    if q_3.1 = true then
      (zck S a0 11).bind fun u_5 =>
      (F_Mo_remember n E S a0 0 q_3.2).bind fun q_6 =>
      (zgR S a0 11 3).bind fun b_7 =>
      (zldI S q_6 b_7 (44 + x2)).bind fun v_8 =>
      (zstI S q_6 b_7 (44 + x2) (v_8 ^^^ ((1 : Int32) <<< (x1 &&& (31 : Int32))))).bind fun m_9 =>
      (zldI S m_9 b_7 (44 + x2)).bind fun v_10 =>
      some ((v_10 >>> (x1 &&& (31 : Int32))) &&& (1 : Int32), m_9)
    else
      some ((-1), q_3.2)
  else
    some ((-1), q_1.2)
theorem K_Mo_blockNow (n : Nat) (E : zE) (S : zS) (a0 : Nat) (x1 : Int32) (x2 : Int32) (M : zH) (r : Int32) (M' : zH)  (h : F_Mo_blockNow n E S a0 x1 x2 M = some (r, M')) : zG E Y_Mo_blockNow (some (.int r), S, M') 0 [(0, .ref a0), (1, .int x1), (2, .int x2)] [] S M 0 0 := by
  unfold F_Mo_blockNow at h
  refine zi_iload_n 2 d_Mo_blockNow_0 rfl ?_
  obtain ⟨q_1, eq_1, h⟩ := zbind h
  refine zo_stat (k' := 0) (n' := 0) 4 [.int x2] [] [.int (bI q_1.1)] (C_Mo_isRing n E S x2 M q_1.1 q_1.2 eq_1) d_Mo_blockNow_1 tw_1434 tw_1432 tw_1433 tw_13 dd_Mo_isRing ⟨Nat.le_of_ble_eq_true rfl, Nat.le_of_ble_eq_true rfl, Nat.le_of_ble_eq_true rfl, Nat.le_of_ble_eq_true rfl⟩ (Nat.le_of_ble_eq_true rfl) rfl rfl rfl rfl ?_
  refine zo_ifeqB d_Mo_blockNow_4 rfl 7 rfl (fun c_2 => ?_) (fun c_2 => ?_)
  · rw [if_neg c_2] at h
    refine zi_iconst (-1) d_Mo_blockNow_14 rfl ?_
    cases h
    exact zo_ret d_Mo_blockNow_15 (Nat.le_of_ble_eq_true rfl) (Nat.le_of_ble_eq_true rfl) rfl
  · rw [if_pos c_2] at h
    refine zi_iload_n 1 d_Mo_blockNow_7 rfl ?_
    obtain ⟨q_3, eq_3, h⟩ := zbind h
    refine zo_stat (k' := 0) (n' := 0) 11 [.int x1] [] [.int (bI q_3.1)] (C_Mo_isField n E S x1 q_1.2 q_3.1 q_3.2 eq_3) d_Mo_blockNow_8 tw_1438 tw_1436 tw_1437 tw_13 dd_Mo_isField ⟨Nat.le_of_ble_eq_true rfl, Nat.le_of_ble_eq_true rfl, Nat.le_of_ble_eq_true rfl, Nat.le_of_ble_eq_true rfl⟩ (Nat.le_of_ble_eq_true rfl) rfl rfl rfl rfl ?_
    refine zo_ifneB d_Mo_blockNow_11 rfl 14 rfl (fun c_4 => ?_) (fun c_4 => ?_)
    · rw [if_pos c_4] at h
      refine zi_aload_n 0 d_Mo_blockNow_16 rfl ?_
      refine zi_iconst 0 d_Mo_blockNow_17 rfl ?_
      obtain ⟨u_5, eu_5, h⟩ := zbind h
      obtain ⟨q_6, eq_6, h⟩ := zbind h
      refine zo_virt (k' := 0) (n' := 0) 21 [.int 0] [] [] zkd_11 (zck_s eu_5) (C_Mo_remember n E S a0 0 q_3.2 q_6 eq_6) d_Mo_blockNow_18 tw_1700 tw_1697 tw_1699 ts_79 tw_13 dd_Mo_remember ⟨Nat.le_of_ble_eq_true rfl, Nat.le_of_ble_eq_true rfl, Nat.le_of_ble_eq_true rfl, Nat.le_of_ble_eq_true rfl⟩ (Nat.le_of_ble_eq_true rfl) rfl rfl rfl rfl ?_
      refine zi_aload_n 0 d_Mo_blockNow_21 rfl ?_
      obtain ⟨b_7, eb_7, h⟩ := zbind h
      refine zo_getR 25 zkd_11 3 d_Mo_blockNow_22 eb_7 rfl tw_1232 rfl ?_
      refine zi_bipush 44 d_Mo_blockNow_25 rfl ?_
      refine zi_iload_n 2 d_Mo_blockNow_27 rfl ?_
      refine zi_iadd d_Mo_blockNow_28 ?_
      refine zi_dup2 d_Mo_blockNow_29 rfl rfl ?_
      obtain ⟨v_8, ev_8, h⟩ := zbind h
      refine zo_iald 31 d_Mo_blockNow_30 ev_8 rfl ?_
      refine zi_iconst 1 d_Mo_blockNow_31 rfl ?_
      refine zi_iload_n 1 d_Mo_blockNow_32 rfl ?_
      refine zi_ishl d_Mo_blockNow_33 ?_
      refine zi_ixor d_Mo_blockNow_34 ?_
      obtain ⟨m_9, em_9, h⟩ := zbind h
      refine zo_iast 36 d_Mo_blockNow_35 em_9 rfl ?_
      refine zi_aload_n 0 d_Mo_blockNow_36 rfl ?_
      refine zo_getR 40 zkd_11 3 d_Mo_blockNow_37 eb_7 rfl tw_1232 rfl ?_
      refine zi_bipush 44 d_Mo_blockNow_40 rfl ?_
      refine zi_iload_n 2 d_Mo_blockNow_42 rfl ?_
      refine zi_iadd d_Mo_blockNow_43 ?_
      obtain ⟨v_10, ev_10, h⟩ := zbind h
      refine zo_iald 45 d_Mo_blockNow_44 ev_10 rfl ?_
      refine zi_iload_n 1 d_Mo_blockNow_45 rfl ?_
      refine zi_ishr d_Mo_blockNow_46 ?_
      refine zi_iconst 1 d_Mo_blockNow_47 rfl ?_
      refine zi_iand d_Mo_blockNow_48 ?_
      cases h
      exact zo_ret d_Mo_blockNow_49 (Nat.le_of_ble_eq_true rfl) (Nat.le_of_ble_eq_true rfl) rfl
    · rw [if_neg c_4] at h
      refine zi_iconst (-1) d_Mo_blockNow_14 rfl ?_
      cases h
      exact zo_ret d_Mo_blockNow_15 (Nat.le_of_ble_eq_true rfl) (Nat.le_of_ble_eq_true rfl) rfl
theorem C_Mo_blockNow (n : Nat) (E : zE) (S : zS) (a0 : Nat) (x1 : Int32) (x2 : Int32) (M : zH) (r : Int32) (M' : zH) (h : F_Mo_blockNow n E S a0 x1 x2 M = some (r, M')) : zC E Y_Mo_blockNow [.ref a0, .int x1, .int x2] S M (some (.int r), S, M') :=
  zC.of (Or.inl (show plainName "NightColanderModel" = true by decide)) (Nat.le_of_ble_eq_true rfl) (trivial) (K_Mo_blockNow n E S a0 x1 x2 M r M' h)
theorem d_Mo_block_0 : decode (yB Y_Mo_block) 0 = .ok (.aload_n 0, 1) := by decide +kernel
theorem d_Mo_block_1 : decode (yB Y_Mo_block) 1 = .ok (.iconst 0, 1) := by decide +kernel
theorem d_Mo_block_2 : decode (yB Y_Mo_block) 2 = .ok (.putfield 156, 3) := by decide +kernel
theorem d_Mo_block_5 : decode (yB Y_Mo_block) 5 = .ok (.aload_n 0, 1) := by decide +kernel
theorem d_Mo_block_6 : decode (yB Y_Mo_block) 6 = .ok (.aload_n 0, 1) := by decide +kernel
theorem d_Mo_block_7 : decode (yB Y_Mo_block) 7 = .ok (.iload_n 1, 1) := by decide +kernel
theorem d_Mo_block_8 : decode (yB Y_Mo_block) 8 = .ok (.iload_n 2, 1) := by decide +kernel
theorem d_Mo_block_9 : decode (yB Y_Mo_block) 9 = .ok (.invokevirtual 448, 3) := by decide +kernel
theorem d_Mo_block_12 : decode (yB Y_Mo_block) 12 = .ok (.invokevirtual 165, 3) := by decide +kernel
theorem d_Mo_block_15 : decode (yB Y_Mo_block) 15 = .ok (.ireturn, 1) := by decide +kernel
def F_Mo_block (n : Nat) (E : zE) (S : zS) (a0 : Nat) (x1 : Int32) (x2 : Int32) (M : zH) : Option (Int32 × zH) :=
  (zpI S M a0 11 0 0).bind fun m_1 =>
  (zck S a0 11).bind fun u_2 =>
  (F_Mo_blockNow n E S a0 x1 x2 m_1).bind fun q_3 =>
  (F_Mo_tell n E S a0 q_3.1 q_3.2).bind fun q_4 =>
  some (q_4.1, q_4.2)
theorem K_Mo_block (n : Nat) (E : zE) (S : zS) (a0 : Nat) (x1 : Int32) (x2 : Int32) (M : zH) (r : Int32) (M' : zH)  (h : F_Mo_block n E S a0 x1 x2 M = some (r, M')) : zG E Y_Mo_block (some (.int r), S, M') 0 [(0, .ref a0), (1, .int x1), (2, .int x2)] [] S M 0 0 := by
  unfold F_Mo_block at h
  refine zi_aload_n 0 d_Mo_block_0 rfl ?_
  refine zi_iconst 0 d_Mo_block_1 rfl ?_
  obtain ⟨m_1, em_1, h⟩ := zbind h
  refine zo_putI 5 zkd_11 0 d_Mo_block_2 em_1 rfl rfl rfl tw_1229 rfl ?_
  refine zi_aload_n 0 d_Mo_block_5 rfl ?_
  refine zi_aload_n 0 d_Mo_block_6 rfl ?_
  refine zi_iload_n 1 d_Mo_block_7 rfl ?_
  refine zi_iload_n 2 d_Mo_block_8 rfl ?_
  obtain ⟨u_2, eu_2, h⟩ := zbind h
  obtain ⟨q_3, eq_3, h⟩ := zbind h
  refine zo_virt (k' := 0) (n' := 0) 12 [.int x1, .int x2] [.ref a0] [.int q_3.1, .ref a0] zkd_11 (zck_s eu_2) (C_Mo_blockNow n E S a0 x1 x2 m_1 q_3.1 q_3.2 eq_3) d_Mo_block_9 tw_1696 tw_1693 tw_1695 ts_78 tw_13 dd_Mo_blockNow ⟨Nat.le_of_ble_eq_true rfl, Nat.le_of_ble_eq_true rfl, Nat.le_of_ble_eq_true rfl, Nat.le_of_ble_eq_true rfl⟩ (Nat.le_of_ble_eq_true rfl) rfl rfl rfl rfl ?_
  obtain ⟨q_4, eq_4, h⟩ := zbind h
  refine zo_virt (k' := 0) (n' := 0) 15 [.int q_3.1] [] [.int q_4.1] zkd_11 (zck_s eu_2) (C_Mo_tell n E S a0 q_3.1 q_3.2 q_4.1 q_4.2 eq_4) d_Mo_block_12 tw_1408 tw_1405 tw_1407 ts_36 tw_13 dd_Mo_tell ⟨Nat.le_of_ble_eq_true rfl, Nat.le_of_ble_eq_true rfl, Nat.le_of_ble_eq_true rfl, Nat.le_of_ble_eq_true rfl⟩ (Nat.le_of_ble_eq_true rfl) rfl rfl rfl rfl ?_
  cases h
  exact zo_ret d_Mo_block_15 (Nat.le_of_ble_eq_true rfl) (Nat.le_of_ble_eq_true rfl) rfl
theorem C_Mo_block (n : Nat) (E : zE) (S : zS) (a0 : Nat) (x1 : Int32) (x2 : Int32) (M : zH) (r : Int32) (M' : zH) (h : F_Mo_block n E S a0 x1 x2 M = some (r, M')) : zC E Y_Mo_block [.ref a0, .int x1, .int x2] S M (some (.int r), S, M') :=
  zC.of (Or.inl (show plainName "NightColanderModel" = true by decide)) (Nat.le_of_ble_eq_true rfl) (trivial) (K_Mo_block n E S a0 x1 x2 M r M' h)
theorem d_Mo_reamNow_0 : decode (yB Y_Mo_reamNow) 0 = .ok (.iload_n 2, 1) := by decide +kernel
theorem d_Mo_reamNow_1 : decode (yB Y_Mo_reamNow) 1 = .ok (.invokestatic 190, 3) := by decide +kernel
theorem d_Mo_reamNow_4 : decode (yB Y_Mo_reamNow) 4 = .ok (.ifCond .eq 10, 3) := by decide +kernel
theorem d_Mo_reamNow_7 : decode (yB Y_Mo_reamNow) 7 = .ok (.iload_n 1, 1) := by decide +kernel
theorem d_Mo_reamNow_8 : decode (yB Y_Mo_reamNow) 8 = .ok (.invokestatic 194, 3) := by decide +kernel
theorem d_Mo_reamNow_11 : decode (yB Y_Mo_reamNow) 11 = .ok (.ifCond .ne 5, 3) := by decide +kernel
theorem d_Mo_reamNow_14 : decode (yB Y_Mo_reamNow) 14 = .ok (.iconst (-1), 1) := by decide +kernel
theorem d_Mo_reamNow_15 : decode (yB Y_Mo_reamNow) 15 = .ok (.ireturn, 1) := by decide +kernel
theorem d_Mo_reamNow_16 : decode (yB Y_Mo_reamNow) 16 = .ok (.aload_n 0, 1) := by decide +kernel
theorem d_Mo_reamNow_17 : decode (yB Y_Mo_reamNow) 17 = .ok (.getfield 13, 3) := by decide +kernel
theorem d_Mo_reamNow_20 : decode (yB Y_Mo_reamNow) 20 = .ok (.bipush 12, 2) := by decide +kernel
theorem d_Mo_reamNow_22 : decode (yB Y_Mo_reamNow) 22 = .ok (.bipush 8, 2) := by decide +kernel
theorem d_Mo_reamNow_24 : decode (yB Y_Mo_reamNow) 24 = .ok (.iload_n 2, 1) := by decide +kernel
theorem d_Mo_reamNow_25 : decode (yB Y_Mo_reamNow) 25 = .ok (.imul, 1) := by decide +kernel
theorem d_Mo_reamNow_26 : decode (yB Y_Mo_reamNow) 26 = .ok (.iadd, 1) := by decide +kernel
theorem d_Mo_reamNow_27 : decode (yB Y_Mo_reamNow) 27 = .ok (.iload_n 1, 1) := by decide +kernel
theorem d_Mo_reamNow_28 : decode (yB Y_Mo_reamNow) 28 = .ok (.iadd, 1) := by decide +kernel
theorem d_Mo_reamNow_29 : decode (yB Y_Mo_reamNow) 29 = .ok (.iaload, 1) := by decide +kernel
theorem d_Mo_reamNow_30 : decode (yB Y_Mo_reamNow) 30 = .ok (.bipush 9, 2) := by decide +kernel
theorem d_Mo_reamNow_32 : decode (yB Y_Mo_reamNow) 32 = .ok (.if_icmp .ne 6, 3) := by decide +kernel
theorem d_Mo_reamNow_35 : decode (yB Y_Mo_reamNow) 35 = .ok (.bipush (-3), 2) := by decide +kernel
theorem d_Mo_reamNow_37 : decode (yB Y_Mo_reamNow) 37 = .ok (.ireturn, 1) := by decide +kernel
theorem d_Mo_reamNow_38 : decode (yB Y_Mo_reamNow) 38 = .ok (.aload_n 0, 1) := by decide +kernel
theorem d_Mo_reamNow_39 : decode (yB Y_Mo_reamNow) 39 = .ok (.iconst 1, 1) := by decide +kernel
theorem d_Mo_reamNow_40 : decode (yB Y_Mo_reamNow) 40 = .ok (.invokevirtual 445, 3) := by decide +kernel
theorem d_Mo_reamNow_43 : decode (yB Y_Mo_reamNow) 43 = .ok (.aload_n 0, 1) := by decide +kernel
theorem d_Mo_reamNow_44 : decode (yB Y_Mo_reamNow) 44 = .ok (.getfield 13, 3) := by decide +kernel
theorem d_Mo_reamNow_47 : decode (yB Y_Mo_reamNow) 47 = .ok (.bipush 12, 2) := by decide +kernel
theorem d_Mo_reamNow_49 : decode (yB Y_Mo_reamNow) 49 = .ok (.bipush 8, 2) := by decide +kernel
theorem d_Mo_reamNow_51 : decode (yB Y_Mo_reamNow) 51 = .ok (.iload_n 2, 1) := by decide +kernel
theorem d_Mo_reamNow_52 : decode (yB Y_Mo_reamNow) 52 = .ok (.imul, 1) := by decide +kernel
theorem d_Mo_reamNow_53 : decode (yB Y_Mo_reamNow) 53 = .ok (.iadd, 1) := by decide +kernel
theorem d_Mo_reamNow_54 : decode (yB Y_Mo_reamNow) 54 = .ok (.iload_n 1, 1) := by decide +kernel
theorem d_Mo_reamNow_55 : decode (yB Y_Mo_reamNow) 55 = .ok (.iadd, 1) := by decide +kernel
theorem d_Mo_reamNow_56 : decode (yB Y_Mo_reamNow) 56 = .ok (.dup2, 1) := by decide +kernel
theorem d_Mo_reamNow_57 : decode (yB Y_Mo_reamNow) 57 = .ok (.iaload, 1) := by decide +kernel
theorem d_Mo_reamNow_58 : decode (yB Y_Mo_reamNow) 58 = .ok (.iconst 1, 1) := by decide +kernel
theorem d_Mo_reamNow_59 : decode (yB Y_Mo_reamNow) 59 = .ok (.iadd, 1) := by decide +kernel
theorem d_Mo_reamNow_60 : decode (yB Y_Mo_reamNow) 60 = .ok (.iastore, 1) := by decide +kernel
theorem d_Mo_reamNow_61 : decode (yB Y_Mo_reamNow) 61 = .ok (.aload_n 0, 1) := by decide +kernel
theorem d_Mo_reamNow_62 : decode (yB Y_Mo_reamNow) 62 = .ok (.getfield 13, 3) := by decide +kernel
theorem d_Mo_reamNow_65 : decode (yB Y_Mo_reamNow) 65 = .ok (.bipush 12, 2) := by decide +kernel
theorem d_Mo_reamNow_67 : decode (yB Y_Mo_reamNow) 67 = .ok (.bipush 8, 2) := by decide +kernel
theorem d_Mo_reamNow_69 : decode (yB Y_Mo_reamNow) 69 = .ok (.iload_n 2, 1) := by decide +kernel
theorem d_Mo_reamNow_70 : decode (yB Y_Mo_reamNow) 70 = .ok (.imul, 1) := by decide +kernel
theorem d_Mo_reamNow_71 : decode (yB Y_Mo_reamNow) 71 = .ok (.iadd, 1) := by decide +kernel
theorem d_Mo_reamNow_72 : decode (yB Y_Mo_reamNow) 72 = .ok (.iload_n 1, 1) := by decide +kernel
theorem d_Mo_reamNow_73 : decode (yB Y_Mo_reamNow) 73 = .ok (.iadd, 1) := by decide +kernel
theorem d_Mo_reamNow_74 : decode (yB Y_Mo_reamNow) 74 = .ok (.iaload, 1) := by decide +kernel
theorem d_Mo_reamNow_75 : decode (yB Y_Mo_reamNow) 75 = .ok (.ireturn, 1) := by decide +kernel
def F_Mo_reamNow (n : Nat) (E : zE) (S : zS) (a0 : Nat) (x1 : Int32) (x2 : Int32) (M : zH) : Option (Int32 × zH) :=
  (F_Mo_isRing n E S x2 M).bind fun q_1 =>
  if q_1.1 = true then
    (F_Mo_isField n E S x1 q_1.2).bind fun q_3 =>
    if q_3.1 = true then
      (zgR S a0 11 3).bind fun b_5 =>
      (zldI S q_3.2 b_5 ((12 + (8 * x2)) + x1)).bind fun v_6 =>
      if v_6 = 9 then
        some ((-3), q_3.2)
      else
        (F_Mo_remember n E S a0 1 q_3.2).bind fun q_8 =>
        (zldI S q_8 b_5 ((12 + (8 * x2)) + x1)).bind fun v_9 =>
        (zstI S q_8 b_5 ((12 + (8 * x2)) + x1) (v_9 + 1)).bind fun m_10 =>
        (zldI S m_10 b_5 ((12 + (8 * x2)) + x1)).bind fun v_11 =>
        some (v_11, m_10)
    else
      some ((-1), q_3.2)
  else
    some ((-1), q_1.2)
theorem K_Mo_reamNow (n : Nat) (E : zE) (S : zS) (a0 : Nat) (x1 : Int32) (x2 : Int32) (M : zH) (r : Int32) (M' : zH)  (h : F_Mo_reamNow n E S a0 x1 x2 M = some (r, M')) : zG E Y_Mo_reamNow (some (.int r), S, M') 0 [(0, .ref a0), (1, .int x1), (2, .int x2)] [] S M 0 0 := by
  unfold F_Mo_reamNow at h
  refine zi_iload_n 2 d_Mo_reamNow_0 rfl ?_
  obtain ⟨q_1, eq_1, h⟩ := zbind h
  refine zo_stat (k' := 0) (n' := 0) 4 [.int x2] [] [.int (bI q_1.1)] (C_Mo_isRing n E S x2 M q_1.1 q_1.2 eq_1) d_Mo_reamNow_1 tw_1434 tw_1432 tw_1433 tw_13 dd_Mo_isRing ⟨Nat.le_of_ble_eq_true rfl, Nat.le_of_ble_eq_true rfl, Nat.le_of_ble_eq_true rfl, Nat.le_of_ble_eq_true rfl⟩ (Nat.le_of_ble_eq_true rfl) rfl rfl rfl rfl ?_
  refine zo_ifeqB d_Mo_reamNow_4 rfl 7 rfl (fun c_2 => ?_) (fun c_2 => ?_)
  · rw [if_neg c_2] at h
    refine zi_iconst (-1) d_Mo_reamNow_14 rfl ?_
    cases h
    exact zo_ret d_Mo_reamNow_15 (Nat.le_of_ble_eq_true rfl) (Nat.le_of_ble_eq_true rfl) rfl
  · rw [if_pos c_2] at h
    refine zi_iload_n 1 d_Mo_reamNow_7 rfl ?_
    obtain ⟨q_3, eq_3, h⟩ := zbind h
    refine zo_stat (k' := 0) (n' := 0) 11 [.int x1] [] [.int (bI q_3.1)] (C_Mo_isField n E S x1 q_1.2 q_3.1 q_3.2 eq_3) d_Mo_reamNow_8 tw_1438 tw_1436 tw_1437 tw_13 dd_Mo_isField ⟨Nat.le_of_ble_eq_true rfl, Nat.le_of_ble_eq_true rfl, Nat.le_of_ble_eq_true rfl, Nat.le_of_ble_eq_true rfl⟩ (Nat.le_of_ble_eq_true rfl) rfl rfl rfl rfl ?_
    refine zo_ifneB d_Mo_reamNow_11 rfl 14 rfl (fun c_4 => ?_) (fun c_4 => ?_)
    · rw [if_pos c_4] at h
      refine zi_aload_n 0 d_Mo_reamNow_16 rfl ?_
      obtain ⟨b_5, eb_5, h⟩ := zbind h
      refine zo_getR 20 zkd_11 3 d_Mo_reamNow_17 eb_5 rfl tw_1232 rfl ?_
      refine zi_bipush 12 d_Mo_reamNow_20 rfl ?_
      refine zi_bipush 8 d_Mo_reamNow_22 rfl ?_
      refine zi_iload_n 2 d_Mo_reamNow_24 rfl ?_
      refine zi_imul d_Mo_reamNow_25 ?_
      refine zi_iadd d_Mo_reamNow_26 ?_
      refine zi_iload_n 1 d_Mo_reamNow_27 rfl ?_
      refine zi_iadd d_Mo_reamNow_28 ?_
      obtain ⟨v_6, ev_6, h⟩ := zbind h
      refine zo_iald 30 d_Mo_reamNow_29 ev_6 rfl ?_
      refine zi_bipush 9 d_Mo_reamNow_30 rfl ?_
      refine zi_icmp_ne (tgt := 38) d_Mo_reamNow_32 rfl (fun c_7 => ?_) (fun c_7 => ?_)
      · rw [if_neg c_7] at h
        refine zi_aload_n 0 d_Mo_reamNow_38 rfl ?_
        refine zi_iconst 1 d_Mo_reamNow_39 rfl ?_
        obtain ⟨q_8, eq_8, h⟩ := zbind h
        refine zo_virt (k' := 0) (n' := 0) 43 [.int 1] [] [] zkd_11 (zgR_s eb_5).1 (C_Mo_remember n E S a0 1 q_3.2 q_8 eq_8) d_Mo_reamNow_40 tw_1700 tw_1697 tw_1699 ts_79 tw_13 dd_Mo_remember ⟨Nat.le_of_ble_eq_true rfl, Nat.le_of_ble_eq_true rfl, Nat.le_of_ble_eq_true rfl, Nat.le_of_ble_eq_true rfl⟩ (Nat.le_of_ble_eq_true rfl) rfl rfl rfl rfl ?_
        refine zi_aload_n 0 d_Mo_reamNow_43 rfl ?_
        refine zo_getR 47 zkd_11 3 d_Mo_reamNow_44 eb_5 rfl tw_1232 rfl ?_
        refine zi_bipush 12 d_Mo_reamNow_47 rfl ?_
        refine zi_bipush 8 d_Mo_reamNow_49 rfl ?_
        refine zi_iload_n 2 d_Mo_reamNow_51 rfl ?_
        refine zi_imul d_Mo_reamNow_52 ?_
        refine zi_iadd d_Mo_reamNow_53 ?_
        refine zi_iload_n 1 d_Mo_reamNow_54 rfl ?_
        refine zi_iadd d_Mo_reamNow_55 ?_
        refine zi_dup2 d_Mo_reamNow_56 rfl rfl ?_
        obtain ⟨v_9, ev_9, h⟩ := zbind h
        refine zo_iald 58 d_Mo_reamNow_57 ev_9 rfl ?_
        refine zi_iconst 1 d_Mo_reamNow_58 rfl ?_
        refine zi_iadd d_Mo_reamNow_59 ?_
        obtain ⟨m_10, em_10, h⟩ := zbind h
        refine zo_iast 61 d_Mo_reamNow_60 em_10 rfl ?_
        refine zi_aload_n 0 d_Mo_reamNow_61 rfl ?_
        refine zo_getR 65 zkd_11 3 d_Mo_reamNow_62 eb_5 rfl tw_1232 rfl ?_
        refine zi_bipush 12 d_Mo_reamNow_65 rfl ?_
        refine zi_bipush 8 d_Mo_reamNow_67 rfl ?_
        refine zi_iload_n 2 d_Mo_reamNow_69 rfl ?_
        refine zi_imul d_Mo_reamNow_70 ?_
        refine zi_iadd d_Mo_reamNow_71 ?_
        refine zi_iload_n 1 d_Mo_reamNow_72 rfl ?_
        refine zi_iadd d_Mo_reamNow_73 ?_
        obtain ⟨v_11, ev_11, h⟩ := zbind h
        refine zo_iald 75 d_Mo_reamNow_74 ev_11 rfl ?_
        cases h
        exact zo_ret d_Mo_reamNow_75 (Nat.le_of_ble_eq_true rfl) (Nat.le_of_ble_eq_true rfl) rfl
      · rw [if_pos c_7] at h
        refine zi_bipush (-3) d_Mo_reamNow_35 rfl ?_
        cases h
        exact zo_ret d_Mo_reamNow_37 (Nat.le_of_ble_eq_true rfl) (Nat.le_of_ble_eq_true rfl) rfl
    · rw [if_neg c_4] at h
      refine zi_iconst (-1) d_Mo_reamNow_14 rfl ?_
      cases h
      exact zo_ret d_Mo_reamNow_15 (Nat.le_of_ble_eq_true rfl) (Nat.le_of_ble_eq_true rfl) rfl
theorem C_Mo_reamNow (n : Nat) (E : zE) (S : zS) (a0 : Nat) (x1 : Int32) (x2 : Int32) (M : zH) (r : Int32) (M' : zH) (h : F_Mo_reamNow n E S a0 x1 x2 M = some (r, M')) : zC E Y_Mo_reamNow [.ref a0, .int x1, .int x2] S M (some (.int r), S, M') :=
  zC.of (Or.inl (show plainName "NightColanderModel" = true by decide)) (Nat.le_of_ble_eq_true rfl) (trivial) (K_Mo_reamNow n E S a0 x1 x2 M r M' h)
theorem d_Mo_ream_0 : decode (yB Y_Mo_ream) 0 = .ok (.aload_n 0, 1) := by decide +kernel
theorem d_Mo_ream_1 : decode (yB Y_Mo_ream) 1 = .ok (.iconst 0, 1) := by decide +kernel
theorem d_Mo_ream_2 : decode (yB Y_Mo_ream) 2 = .ok (.putfield 156, 3) := by decide +kernel
theorem d_Mo_ream_5 : decode (yB Y_Mo_ream) 5 = .ok (.aload_n 0, 1) := by decide +kernel
theorem d_Mo_ream_6 : decode (yB Y_Mo_ream) 6 = .ok (.aload_n 0, 1) := by decide +kernel
theorem d_Mo_ream_7 : decode (yB Y_Mo_ream) 7 = .ok (.iload_n 1, 1) := by decide +kernel
theorem d_Mo_ream_8 : decode (yB Y_Mo_ream) 8 = .ok (.iload_n 2, 1) := by decide +kernel
theorem d_Mo_ream_9 : decode (yB Y_Mo_ream) 9 = .ok (.invokevirtual 451, 3) := by decide +kernel
theorem d_Mo_ream_12 : decode (yB Y_Mo_ream) 12 = .ok (.invokevirtual 165, 3) := by decide +kernel
theorem d_Mo_ream_15 : decode (yB Y_Mo_ream) 15 = .ok (.ireturn, 1) := by decide +kernel
def F_Mo_ream (n : Nat) (E : zE) (S : zS) (a0 : Nat) (x1 : Int32) (x2 : Int32) (M : zH) : Option (Int32 × zH) :=
  (zpI S M a0 11 0 0).bind fun m_1 =>
  (zck S a0 11).bind fun u_2 =>
  (F_Mo_reamNow n E S a0 x1 x2 m_1).bind fun q_3 =>
  (F_Mo_tell n E S a0 q_3.1 q_3.2).bind fun q_4 =>
  some (q_4.1, q_4.2)
theorem K_Mo_ream (n : Nat) (E : zE) (S : zS) (a0 : Nat) (x1 : Int32) (x2 : Int32) (M : zH) (r : Int32) (M' : zH)  (h : F_Mo_ream n E S a0 x1 x2 M = some (r, M')) : zG E Y_Mo_ream (some (.int r), S, M') 0 [(0, .ref a0), (1, .int x1), (2, .int x2)] [] S M 0 0 := by
  unfold F_Mo_ream at h
  refine zi_aload_n 0 d_Mo_ream_0 rfl ?_
  refine zi_iconst 0 d_Mo_ream_1 rfl ?_
  obtain ⟨m_1, em_1, h⟩ := zbind h
  refine zo_putI 5 zkd_11 0 d_Mo_ream_2 em_1 rfl rfl rfl tw_1229 rfl ?_
  refine zi_aload_n 0 d_Mo_ream_5 rfl ?_
  refine zi_aload_n 0 d_Mo_ream_6 rfl ?_
  refine zi_iload_n 1 d_Mo_ream_7 rfl ?_
  refine zi_iload_n 2 d_Mo_ream_8 rfl ?_
  obtain ⟨u_2, eu_2, h⟩ := zbind h
  obtain ⟨q_3, eq_3, h⟩ := zbind h
  refine zo_virt (k' := 0) (n' := 0) 12 [.int x1, .int x2] [.ref a0] [.int q_3.1, .ref a0] zkd_11 (zck_s eu_2) (C_Mo_reamNow n E S a0 x1 x2 m_1 q_3.1 q_3.2 eq_3) d_Mo_ream_9 tw_1712 tw_1709 tw_1711 ts_81 tw_13 dd_Mo_reamNow ⟨Nat.le_of_ble_eq_true rfl, Nat.le_of_ble_eq_true rfl, Nat.le_of_ble_eq_true rfl, Nat.le_of_ble_eq_true rfl⟩ (Nat.le_of_ble_eq_true rfl) rfl rfl rfl rfl ?_
  obtain ⟨q_4, eq_4, h⟩ := zbind h
  refine zo_virt (k' := 0) (n' := 0) 15 [.int q_3.1] [] [.int q_4.1] zkd_11 (zck_s eu_2) (C_Mo_tell n E S a0 q_3.1 q_3.2 q_4.1 q_4.2 eq_4) d_Mo_ream_12 tw_1408 tw_1405 tw_1407 ts_36 tw_13 dd_Mo_tell ⟨Nat.le_of_ble_eq_true rfl, Nat.le_of_ble_eq_true rfl, Nat.le_of_ble_eq_true rfl, Nat.le_of_ble_eq_true rfl⟩ (Nat.le_of_ble_eq_true rfl) rfl rfl rfl rfl ?_
  cases h
  exact zo_ret d_Mo_ream_15 (Nat.le_of_ble_eq_true rfl) (Nat.le_of_ble_eq_true rfl) rfl
theorem C_Mo_ream (n : Nat) (E : zE) (S : zS) (a0 : Nat) (x1 : Int32) (x2 : Int32) (M : zH) (r : Int32) (M' : zH) (h : F_Mo_ream n E S a0 x1 x2 M = some (r, M')) : zC E Y_Mo_ream [.ref a0, .int x1, .int x2] S M (some (.int r), S, M') :=
  zC.of (Or.inl (show plainName "NightColanderModel" = true by decide)) (Nat.le_of_ble_eq_true rfl) (trivial) (K_Mo_ream n E S a0 x1 x2 M r M' h)
theorem d_Mo_setNow_0 : decode (yB Y_Mo_setNow) 0 = .ok (.iload_n 2, 1) := by decide +kernel
theorem d_Mo_setNow_1 : decode (yB Y_Mo_setNow) 1 = .ok (.invokestatic 194, 3) := by decide +kernel
theorem d_Mo_setNow_4 : decode (yB Y_Mo_setNow) 4 = .ok (.ifCond .ne 5, 3) := by decide +kernel
theorem d_Mo_setNow_7 : decode (yB Y_Mo_setNow) 7 = .ok (.iconst (-1), 1) := by decide +kernel
theorem d_Mo_setNow_8 : decode (yB Y_Mo_setNow) 8 = .ok (.ireturn, 1) := by decide +kernel
theorem d_Mo_setNow_9 : decode (yB Y_Mo_setNow) 9 = .ok (.aload_n 0, 1) := by decide +kernel
theorem d_Mo_setNow_10 : decode (yB Y_Mo_setNow) 10 = .ok (.iload_n 1, 1) := by decide +kernel
theorem d_Mo_setNow_11 : decode (yB Y_Mo_setNow) 11 = .ok (.invokevirtual 214, 3) := by decide +kernel
theorem d_Mo_setNow_14 : decode (yB Y_Mo_setNow) 14 = .ok (.ifCond .ne 6, 3) := by decide +kernel
theorem d_Mo_setNow_17 : decode (yB Y_Mo_setNow) 17 = .ok (.bipush (-2), 2) := by decide +kernel
theorem d_Mo_setNow_19 : decode (yB Y_Mo_setNow) 19 = .ok (.ireturn, 1) := by decide +kernel
theorem d_Mo_setNow_20 : decode (yB Y_Mo_setNow) 20 = .ok (.aload_n 0, 1) := by decide +kernel
theorem d_Mo_setNow_21 : decode (yB Y_Mo_setNow) 21 = .ok (.iload_n 2, 1) := by decide +kernel
theorem d_Mo_setNow_22 : decode (yB Y_Mo_setNow) 22 = .ok (.invokevirtual 211, 3) := by decide +kernel
theorem d_Mo_setNow_25 : decode (yB Y_Mo_setNow) 25 = .ok (.iconst (-1), 1) := by decide +kernel
theorem d_Mo_setNow_26 : decode (yB Y_Mo_setNow) 26 = .ok (.if_icmp .ne 12, 3) := by decide +kernel
theorem d_Mo_setNow_29 : decode (yB Y_Mo_setNow) 29 = .ok (.aload_n 0, 1) := by decide +kernel
theorem d_Mo_setNow_30 : decode (yB Y_Mo_setNow) 30 = .ok (.iload_n 1, 1) := by decide +kernel
theorem d_Mo_setNow_31 : decode (yB Y_Mo_setNow) 31 = .ok (.iload_n 2, 1) := by decide +kernel
theorem d_Mo_setNow_32 : decode (yB Y_Mo_setNow) 32 = .ok (.invokevirtual 225, 3) := by decide +kernel
theorem d_Mo_setNow_35 : decode (yB Y_Mo_setNow) 35 = .ok (.ifCond .eq 6, 3) := by decide +kernel
theorem d_Mo_setNow_38 : decode (yB Y_Mo_setNow) 38 = .ok (.bipush (-3), 2) := by decide +kernel
theorem d_Mo_setNow_40 : decode (yB Y_Mo_setNow) 40 = .ok (.ireturn, 1) := by decide +kernel
theorem d_Mo_setNow_41 : decode (yB Y_Mo_setNow) 41 = .ok (.aload_n 0, 1) := by decide +kernel
theorem d_Mo_setNow_42 : decode (yB Y_Mo_setNow) 42 = .ok (.iconst 2, 1) := by decide +kernel
theorem d_Mo_setNow_43 : decode (yB Y_Mo_setNow) 43 = .ok (.invokevirtual 445, 3) := by decide +kernel
theorem d_Mo_setNow_46 : decode (yB Y_Mo_setNow) 46 = .ok (.aload_n 0, 1) := by decide +kernel
theorem d_Mo_setNow_47 : decode (yB Y_Mo_setNow) 47 = .ok (.getfield 13, 3) := by decide +kernel
theorem d_Mo_setNow_50 : decode (yB Y_Mo_setNow) 50 = .ok (.bipush 51, 2) := by decide +kernel
theorem d_Mo_setNow_52 : decode (yB Y_Mo_setNow) 52 = .ok (.iload_n 1, 1) := by decide +kernel
theorem d_Mo_setNow_53 : decode (yB Y_Mo_setNow) 53 = .ok (.iadd, 1) := by decide +kernel
theorem d_Mo_setNow_54 : decode (yB Y_Mo_setNow) 54 = .ok (.iaload, 1) := by decide +kernel
theorem d_Mo_setNow_55 : decode (yB Y_Mo_setNow) 55 = .ok (.istore_n 3, 1) := by decide +kernel
theorem d_Mo_setNow_56 : decode (yB Y_Mo_setNow) 56 = .ok (.aload_n 0, 1) := by decide +kernel
theorem d_Mo_setNow_57 : decode (yB Y_Mo_setNow) 57 = .ok (.getfield 13, 3) := by decide +kernel
theorem d_Mo_setNow_60 : decode (yB Y_Mo_setNow) 60 = .ok (.bipush 51, 2) := by decide +kernel
theorem d_Mo_setNow_62 : decode (yB Y_Mo_setNow) 62 = .ok (.iload_n 1, 1) := by decide +kernel
theorem d_Mo_setNow_63 : decode (yB Y_Mo_setNow) 63 = .ok (.iadd, 1) := by decide +kernel
theorem d_Mo_setNow_64 : decode (yB Y_Mo_setNow) 64 = .ok (.iload_n 2, 1) := by decide +kernel
theorem d_Mo_setNow_65 : decode (yB Y_Mo_setNow) 65 = .ok (.iastore, 1) := by decide +kernel
theorem d_Mo_setNow_66 : decode (yB Y_Mo_setNow) 66 = .ok (.iload_n 3, 1) := by decide +kernel
theorem d_Mo_setNow_67 : decode (yB Y_Mo_setNow) 67 = .ok (.ireturn, 1) := by decide +kernel
def F_Mo_setNow (n : Nat) (E : zE) (S : zS) (a0 : Nat) (x1 : Int32) (x2 : Int32) (M : zH) : Option (Int32 × zH) :=
  (F_Mo_isField n E S x2 M).bind fun q_1 =>
  if q_1.1 = true then
    (zck S a0 11).bind fun u_3 =>
    (F_Mo_isBucket n E S a0 x1 q_1.2).bind fun q_4 =>
    if q_4.1 = true then
      (F_Mo_bucketAt n E S a0 x2 q_4.2).bind fun q_6 =>
      if q_6.1 = (-1) then
        (F_Mo_isBarred n E S a0 x1 x2 q_6.2).bind fun q_8 =>
        if q_8.1 = true then
          some ((-3), q_8.2)
        else
          (F_Mo_remember n E S a0 2 q_8.2).bind fun q_10 =>
          (zgR S a0 11 3).bind fun b_11 =>
          (zldI S q_10 b_11 (51 + x1)).bind fun v_12 =>
          (zstI S q_10 b_11 (51 + x1) x2).bind fun m_13 =>
          some (v_12, m_13)
      else
        some ((-3), q_6.2)
    else
      some ((-2), q_4.2)
  else
    some ((-1), q_1.2)
theorem K_Mo_setNow (n : Nat) (E : zE) (S : zS) (a0 : Nat) (x1 : Int32) (x2 : Int32) (M : zH) (r : Int32) (M' : zH)  (h : F_Mo_setNow n E S a0 x1 x2 M = some (r, M')) : zG E Y_Mo_setNow (some (.int r), S, M') 0 [(0, .ref a0), (1, .int x1), (2, .int x2)] [] S M 0 0 := by
  unfold F_Mo_setNow at h
  refine zi_iload_n 2 d_Mo_setNow_0 rfl ?_
  obtain ⟨q_1, eq_1, h⟩ := zbind h
  refine zo_stat (k' := 0) (n' := 0) 4 [.int x2] [] [.int (bI q_1.1)] (C_Mo_isField n E S x2 M q_1.1 q_1.2 eq_1) d_Mo_setNow_1 tw_1438 tw_1436 tw_1437 tw_13 dd_Mo_isField ⟨Nat.le_of_ble_eq_true rfl, Nat.le_of_ble_eq_true rfl, Nat.le_of_ble_eq_true rfl, Nat.le_of_ble_eq_true rfl⟩ (Nat.le_of_ble_eq_true rfl) rfl rfl rfl rfl ?_
  refine zo_ifneB d_Mo_setNow_4 rfl 7 rfl (fun c_2 => ?_) (fun c_2 => ?_)
  · rw [if_pos c_2] at h
    refine zi_aload_n 0 d_Mo_setNow_9 rfl ?_
    refine zi_iload_n 1 d_Mo_setNow_10 rfl ?_
    obtain ⟨u_3, eu_3, h⟩ := zbind h
    obtain ⟨q_4, eq_4, h⟩ := zbind h
    refine zo_virt (k' := 0) (n' := 0) 14 [.int x1] [] [.int (bI q_4.1)] zkd_11 (zck_s eu_3) (C_Mo_isBucket n E S a0 x1 q_1.2 q_4.1 q_4.2 eq_4) d_Mo_setNow_11 tw_1463 tw_1460 tw_1462 ts_43 tw_13 dd_Mo_isBucket ⟨Nat.le_of_ble_eq_true rfl, Nat.le_of_ble_eq_true rfl, Nat.le_of_ble_eq_true rfl, Nat.le_of_ble_eq_true rfl⟩ (Nat.le_of_ble_eq_true rfl) rfl rfl rfl rfl ?_
    refine zo_ifneB d_Mo_setNow_14 rfl 17 rfl (fun c_5 => ?_) (fun c_5 => ?_)
    · rw [if_pos c_5] at h
      refine zi_aload_n 0 d_Mo_setNow_20 rfl ?_
      refine zi_iload_n 2 d_Mo_setNow_21 rfl ?_
      obtain ⟨q_6, eq_6, h⟩ := zbind h
      refine zo_virt (k' := 0) (n' := 0) 25 [.int x2] [] [.int q_6.1] zkd_11 (zck_s eu_3) (C_Mo_bucketAt n E S a0 x2 q_4.2 q_6.1 q_6.2 eq_6) d_Mo_setNow_22 tw_1489 tw_1486 tw_1488 ts_46 tw_13 dd_Mo_bucketAt ⟨Nat.le_of_ble_eq_true rfl, Nat.le_of_ble_eq_true rfl, Nat.le_of_ble_eq_true rfl, Nat.le_of_ble_eq_true rfl⟩ (Nat.le_of_ble_eq_true rfl) rfl rfl rfl rfl ?_
      refine zi_iconst (-1) d_Mo_setNow_25 rfl ?_
      refine zi_icmp_ne (tgt := 38) d_Mo_setNow_26 rfl (fun c_7 => ?_) (fun c_7 => ?_)
      · rw [if_neg c_7] at h
        refine zi_bipush (-3) d_Mo_setNow_38 rfl ?_
        cases h
        exact zo_ret d_Mo_setNow_40 (Nat.le_of_ble_eq_true rfl) (Nat.le_of_ble_eq_true rfl) rfl
      · rw [if_pos c_7] at h
        refine zi_aload_n 0 d_Mo_setNow_29 rfl ?_
        refine zi_iload_n 1 d_Mo_setNow_30 rfl ?_
        refine zi_iload_n 2 d_Mo_setNow_31 rfl ?_
        obtain ⟨q_8, eq_8, h⟩ := zbind h
        refine zo_virt (k' := 0) (n' := 0) 35 [.int x1, .int x2] [] [.int (bI q_8.1)] zkd_11 (zck_s eu_3) (C_Mo_isBarred n E S a0 x1 x2 q_6.2 q_8.1 q_8.2 eq_8) d_Mo_setNow_32 tw_1510 tw_1507 tw_1509 ts_50 tw_13 dd_Mo_isBarred ⟨Nat.le_of_ble_eq_true rfl, Nat.le_of_ble_eq_true rfl, Nat.le_of_ble_eq_true rfl, Nat.le_of_ble_eq_true rfl⟩ (Nat.le_of_ble_eq_true rfl) rfl rfl rfl rfl ?_
        refine zo_ifeqB d_Mo_setNow_35 rfl 38 rfl (fun c_9 => ?_) (fun c_9 => ?_)
        · rw [if_neg c_9] at h
          refine zi_aload_n 0 d_Mo_setNow_41 rfl ?_
          refine zi_iconst 2 d_Mo_setNow_42 rfl ?_
          obtain ⟨q_10, eq_10, h⟩ := zbind h
          refine zo_virt (k' := 0) (n' := 0) 46 [.int 2] [] [] zkd_11 (zck_s eu_3) (C_Mo_remember n E S a0 2 q_8.2 q_10 eq_10) d_Mo_setNow_43 tw_1700 tw_1697 tw_1699 ts_79 tw_13 dd_Mo_remember ⟨Nat.le_of_ble_eq_true rfl, Nat.le_of_ble_eq_true rfl, Nat.le_of_ble_eq_true rfl, Nat.le_of_ble_eq_true rfl⟩ (Nat.le_of_ble_eq_true rfl) rfl rfl rfl rfl ?_
          refine zi_aload_n 0 d_Mo_setNow_46 rfl ?_
          obtain ⟨b_11, eb_11, h⟩ := zbind h
          refine zo_getR 50 zkd_11 3 d_Mo_setNow_47 eb_11 rfl tw_1232 rfl ?_
          refine zi_bipush 51 d_Mo_setNow_50 rfl ?_
          refine zi_iload_n 1 d_Mo_setNow_52 rfl ?_
          refine zi_iadd d_Mo_setNow_53 ?_
          obtain ⟨v_12, ev_12, h⟩ := zbind h
          refine zo_iald 55 d_Mo_setNow_54 ev_12 rfl ?_
          refine zi_istore_n [(3, .int v_12), (0, .ref a0), (1, .int x1), (2, .int x2)] d_Mo_setNow_55 (by decide) rfl ?_
          refine zi_aload_n 1 d_Mo_setNow_56 rfl ?_
          refine zo_getR 60 zkd_11 3 d_Mo_setNow_57 eb_11 rfl tw_1232 rfl ?_
          refine zi_bipush 51 d_Mo_setNow_60 rfl ?_
          refine zi_iload_n 2 d_Mo_setNow_62 rfl ?_
          refine zi_iadd d_Mo_setNow_63 ?_
          refine zi_iload_n 3 d_Mo_setNow_64 rfl ?_
          obtain ⟨m_13, em_13, h⟩ := zbind h
          refine zo_iast 66 d_Mo_setNow_65 em_13 rfl ?_
          refine zi_iload_n 0 d_Mo_setNow_66 rfl ?_
          cases h
          exact zo_ret d_Mo_setNow_67 (Nat.le_of_ble_eq_true rfl) (Nat.le_of_ble_eq_true rfl) rfl
        · rw [if_pos c_9] at h
          refine zi_bipush (-3) d_Mo_setNow_38 rfl ?_
          cases h
          exact zo_ret d_Mo_setNow_40 (Nat.le_of_ble_eq_true rfl) (Nat.le_of_ble_eq_true rfl) rfl
    · rw [if_neg c_5] at h
      refine zi_bipush (-2) d_Mo_setNow_17 rfl ?_
      cases h
      exact zo_ret d_Mo_setNow_19 (Nat.le_of_ble_eq_true rfl) (Nat.le_of_ble_eq_true rfl) rfl
  · rw [if_neg c_2] at h
    refine zi_iconst (-1) d_Mo_setNow_7 rfl ?_
    cases h
    exact zo_ret d_Mo_setNow_8 (Nat.le_of_ble_eq_true rfl) (Nat.le_of_ble_eq_true rfl) rfl
theorem C_Mo_setNow (n : Nat) (E : zE) (S : zS) (a0 : Nat) (x1 : Int32) (x2 : Int32) (M : zH) (r : Int32) (M' : zH) (h : F_Mo_setNow n E S a0 x1 x2 M = some (r, M')) : zC E Y_Mo_setNow [.ref a0, .int x1, .int x2] S M (some (.int r), S, M') :=
  zC.of (Or.inl (show plainName "NightColanderModel" = true by decide)) (Nat.le_of_ble_eq_true rfl) (trivial) (K_Mo_setNow n E S a0 x1 x2 M r M' h)
theorem d_Mo_set_0 : decode (yB Y_Mo_set) 0 = .ok (.aload_n 0, 1) := by decide +kernel
theorem d_Mo_set_1 : decode (yB Y_Mo_set) 1 = .ok (.iconst 0, 1) := by decide +kernel
theorem d_Mo_set_2 : decode (yB Y_Mo_set) 2 = .ok (.putfield 156, 3) := by decide +kernel
theorem d_Mo_set_5 : decode (yB Y_Mo_set) 5 = .ok (.aload_n 0, 1) := by decide +kernel
theorem d_Mo_set_6 : decode (yB Y_Mo_set) 6 = .ok (.aload_n 0, 1) := by decide +kernel
theorem d_Mo_set_7 : decode (yB Y_Mo_set) 7 = .ok (.iload_n 1, 1) := by decide +kernel
theorem d_Mo_set_8 : decode (yB Y_Mo_set) 8 = .ok (.iload_n 2, 1) := by decide +kernel
theorem d_Mo_set_9 : decode (yB Y_Mo_set) 9 = .ok (.invokevirtual 454, 3) := by decide +kernel
theorem d_Mo_set_12 : decode (yB Y_Mo_set) 12 = .ok (.invokevirtual 165, 3) := by decide +kernel
theorem d_Mo_set_15 : decode (yB Y_Mo_set) 15 = .ok (.ireturn, 1) := by decide +kernel
def F_Mo_set (n : Nat) (E : zE) (S : zS) (a0 : Nat) (x1 : Int32) (x2 : Int32) (M : zH) : Option (Int32 × zH) :=
  (zpI S M a0 11 0 0).bind fun m_1 =>
  (zck S a0 11).bind fun u_2 =>
  (F_Mo_setNow n E S a0 x1 x2 m_1).bind fun q_3 =>
  (F_Mo_tell n E S a0 q_3.1 q_3.2).bind fun q_4 =>
  some (q_4.1, q_4.2)
theorem K_Mo_set (n : Nat) (E : zE) (S : zS) (a0 : Nat) (x1 : Int32) (x2 : Int32) (M : zH) (r : Int32) (M' : zH)  (h : F_Mo_set n E S a0 x1 x2 M = some (r, M')) : zG E Y_Mo_set (some (.int r), S, M') 0 [(0, .ref a0), (1, .int x1), (2, .int x2)] [] S M 0 0 := by
  unfold F_Mo_set at h
  refine zi_aload_n 0 d_Mo_set_0 rfl ?_
  refine zi_iconst 0 d_Mo_set_1 rfl ?_
  obtain ⟨m_1, em_1, h⟩ := zbind h
  refine zo_putI 5 zkd_11 0 d_Mo_set_2 em_1 rfl rfl rfl tw_1229 rfl ?_
  refine zi_aload_n 0 d_Mo_set_5 rfl ?_
  refine zi_aload_n 0 d_Mo_set_6 rfl ?_
  refine zi_iload_n 1 d_Mo_set_7 rfl ?_
  refine zi_iload_n 2 d_Mo_set_8 rfl ?_
  obtain ⟨u_2, eu_2, h⟩ := zbind h
  obtain ⟨q_3, eq_3, h⟩ := zbind h
  refine zo_virt (k' := 0) (n' := 0) 12 [.int x1, .int x2] [.ref a0] [.int q_3.1, .ref a0] zkd_11 (zck_s eu_2) (C_Mo_setNow n E S a0 x1 x2 m_1 q_3.1 q_3.2 eq_3) d_Mo_set_9 tw_1720 tw_1717 tw_1719 ts_82 tw_13 dd_Mo_setNow ⟨Nat.le_of_ble_eq_true rfl, Nat.le_of_ble_eq_true rfl, Nat.le_of_ble_eq_true rfl, Nat.le_of_ble_eq_true rfl⟩ (Nat.le_of_ble_eq_true rfl) rfl rfl rfl rfl ?_
  obtain ⟨q_4, eq_4, h⟩ := zbind h
  refine zo_virt (k' := 0) (n' := 0) 15 [.int q_3.1] [] [.int q_4.1] zkd_11 (zck_s eu_2) (C_Mo_tell n E S a0 q_3.1 q_3.2 q_4.1 q_4.2 eq_4) d_Mo_set_12 tw_1408 tw_1405 tw_1407 ts_36 tw_13 dd_Mo_tell ⟨Nat.le_of_ble_eq_true rfl, Nat.le_of_ble_eq_true rfl, Nat.le_of_ble_eq_true rfl, Nat.le_of_ble_eq_true rfl⟩ (Nat.le_of_ble_eq_true rfl) rfl rfl rfl rfl ?_
  cases h
  exact zo_ret d_Mo_set_15 (Nat.le_of_ble_eq_true rfl) (Nat.le_of_ble_eq_true rfl) rfl
theorem C_Mo_set (n : Nat) (E : zE) (S : zS) (a0 : Nat) (x1 : Int32) (x2 : Int32) (M : zH) (r : Int32) (M' : zH) (h : F_Mo_set n E S a0 x1 x2 M = some (r, M')) : zC E Y_Mo_set [.ref a0, .int x1, .int x2] S M (some (.int r), S, M') :=
  zC.of (Or.inl (show plainName "NightColanderModel" = true by decide)) (Nat.le_of_ble_eq_true rfl) (trivial) (K_Mo_set n E S a0 x1 x2 M r M' h)
theorem d_Mo_catchIn_0 : decode (yB Y_Mo_catchIn) 0 = .ok (.aload_n 0, 1) := by decide +kernel
theorem d_Mo_catchIn_1 : decode (yB Y_Mo_catchIn) 1 = .ok (.getfield 13, 3) := by decide +kernel
theorem d_Mo_catchIn_4 : decode (yB Y_Mo_catchIn) 4 = .ok (.bipush 54, 2) := by decide +kernel
theorem d_Mo_catchIn_6 : decode (yB Y_Mo_catchIn) 6 = .ok (.iload_n 1, 1) := by decide +kernel
theorem d_Mo_catchIn_7 : decode (yB Y_Mo_catchIn) 7 = .ok (.iadd, 1) := by decide +kernel
theorem d_Mo_catchIn_8 : decode (yB Y_Mo_catchIn) 8 = .ok (.iaload, 1) := by decide +kernel
theorem d_Mo_catchIn_9 : decode (yB Y_Mo_catchIn) 9 = .ok (.aload_n 0, 1) := by decide +kernel
theorem d_Mo_catchIn_10 : decode (yB Y_Mo_catchIn) 10 = .ok (.getfield 13, 3) := by decide +kernel
theorem d_Mo_catchIn_13 : decode (yB Y_Mo_catchIn) 13 = .ok (.bipush 48, 2) := by decide +kernel
theorem d_Mo_catchIn_15 : decode (yB Y_Mo_catchIn) 15 = .ok (.iload_n 1, 1) := by decide +kernel
theorem d_Mo_catchIn_16 : decode (yB Y_Mo_catchIn) 16 = .ok (.iadd, 1) := by decide +kernel
theorem d_Mo_catchIn_17 : decode (yB Y_Mo_catchIn) 17 = .ok (.iaload, 1) := by decide +kernel
theorem d_Mo_catchIn_18 : decode (yB Y_Mo_catchIn) 18 = .ok (.isub, 1) := by decide +kernel
theorem d_Mo_catchIn_19 : decode (yB Y_Mo_catchIn) 19 = .ok (.istore_n 3, 1) := by decide +kernel
theorem d_Mo_catchIn_20 : decode (yB Y_Mo_catchIn) 20 = .ok (.iload_n 2, 1) := by decide +kernel
theorem d_Mo_catchIn_21 : decode (yB Y_Mo_catchIn) 21 = .ok (.iload_n 3, 1) := by decide +kernel
theorem d_Mo_catchIn_22 : decode (yB Y_Mo_catchIn) 22 = .ok (.if_icmp .ge 7, 3) := by decide +kernel
theorem d_Mo_catchIn_25 : decode (yB Y_Mo_catchIn) 25 = .ok (.iload_n 2, 1) := by decide +kernel
theorem d_Mo_catchIn_26 : decode (yB Y_Mo_catchIn) 26 = .ok (.goto 4, 3) := by decide +kernel
theorem d_Mo_catchIn_29 : decode (yB Y_Mo_catchIn) 29 = .ok (.iload_n 3, 1) := by decide +kernel
theorem d_Mo_catchIn_30 : decode (yB Y_Mo_catchIn) 30 = .ok (.istore 4, 2) := by decide +kernel
theorem d_Mo_catchIn_32 : decode (yB Y_Mo_catchIn) 32 = .ok (.aload_n 0, 1) := by decide +kernel
theorem d_Mo_catchIn_33 : decode (yB Y_Mo_catchIn) 33 = .ok (.getfield 13, 3) := by decide +kernel
theorem d_Mo_catchIn_36 : decode (yB Y_Mo_catchIn) 36 = .ok (.bipush 48, 2) := by decide +kernel
theorem d_Mo_catchIn_38 : decode (yB Y_Mo_catchIn) 38 = .ok (.iload_n 1, 1) := by decide +kernel
theorem d_Mo_catchIn_39 : decode (yB Y_Mo_catchIn) 39 = .ok (.iadd, 1) := by decide +kernel
theorem d_Mo_catchIn_40 : decode (yB Y_Mo_catchIn) 40 = .ok (.dup2, 1) := by decide +kernel
theorem d_Mo_catchIn_41 : decode (yB Y_Mo_catchIn) 41 = .ok (.iaload, 1) := by decide +kernel
theorem d_Mo_catchIn_42 : decode (yB Y_Mo_catchIn) 42 = .ok (.iload 4, 2) := by decide +kernel
theorem d_Mo_catchIn_44 : decode (yB Y_Mo_catchIn) 44 = .ok (.iadd, 1) := by decide +kernel
theorem d_Mo_catchIn_45 : decode (yB Y_Mo_catchIn) 45 = .ok (.iastore, 1) := by decide +kernel
theorem d_Mo_catchIn_46 : decode (yB Y_Mo_catchIn) 46 = .ok (.aload_n 0, 1) := by decide +kernel
theorem d_Mo_catchIn_47 : decode (yB Y_Mo_catchIn) 47 = .ok (.getfield 13, 3) := by decide +kernel
theorem d_Mo_catchIn_50 : decode (yB Y_Mo_catchIn) 50 = .ok (.bipush 48, 2) := by decide +kernel
theorem d_Mo_catchIn_52 : decode (yB Y_Mo_catchIn) 52 = .ok (.iload_n 1, 1) := by decide +kernel
theorem d_Mo_catchIn_53 : decode (yB Y_Mo_catchIn) 53 = .ok (.iadd, 1) := by decide +kernel
theorem d_Mo_catchIn_54 : decode (yB Y_Mo_catchIn) 54 = .ok (.aload_n 0, 1) := by decide +kernel
theorem d_Mo_catchIn_55 : decode (yB Y_Mo_catchIn) 55 = .ok (.getfield 13, 3) := by decide +kernel
theorem d_Mo_catchIn_58 : decode (yB Y_Mo_catchIn) 58 = .ok (.bipush 48, 2) := by decide +kernel
theorem d_Mo_catchIn_60 : decode (yB Y_Mo_catchIn) 60 = .ok (.iload_n 1, 1) := by decide +kernel
theorem d_Mo_catchIn_61 : decode (yB Y_Mo_catchIn) 61 = .ok (.iadd, 1) := by decide +kernel
theorem d_Mo_catchIn_62 : decode (yB Y_Mo_catchIn) 62 = .ok (.iaload, 1) := by decide +kernel
theorem d_Mo_catchIn_63 : decode (yB Y_Mo_catchIn) 63 = .ok (.aload_n 0, 1) := by decide +kernel
theorem d_Mo_catchIn_64 : decode (yB Y_Mo_catchIn) 64 = .ok (.iload_n 1, 1) := by decide +kernel
theorem d_Mo_catchIn_65 : decode (yB Y_Mo_catchIn) 65 = .ok (.invokevirtual 219, 3) := by decide +kernel
theorem d_Mo_catchIn_68 : decode (yB Y_Mo_catchIn) 68 = .ok (.isub, 1) := by decide +kernel
theorem d_Mo_catchIn_69 : decode (yB Y_Mo_catchIn) 69 = .ok (.i2l, 1) := by decide +kernel
theorem d_Mo_catchIn_70 : decode (yB Y_Mo_catchIn) 70 = .ok (.iconst 0, 1) := by decide +kernel
theorem d_Mo_catchIn_71 : decode (yB Y_Mo_catchIn) 71 = .ok (.bipush 99, 2) := by decide +kernel
theorem d_Mo_catchIn_73 : decode (yB Y_Mo_catchIn) 73 = .ok (.invokestatic 435, 3) := by decide +kernel
theorem d_Mo_catchIn_76 : decode (yB Y_Mo_catchIn) 76 = .ok (.iastore, 1) := by decide +kernel
theorem d_Mo_catchIn_77 : decode (yB Y_Mo_catchIn) 77 = .ok (.iload 4, 2) := by decide +kernel
theorem d_Mo_catchIn_79 : decode (yB Y_Mo_catchIn) 79 = .ok (.ireturn, 1) := by decide +kernel
def F_Mo_catchIn_b30 (n : Nat) (E : zE) (S : zS) (a0 : Nat) (x1 : Int32) (s0 : Int32) (M : zH) : Option (Int32 × zH) :=
  (zgR S a0 11 3).bind fun b_1 =>
  (zldI S M b_1 (48 + x1)).bind fun v_2 =>
  (zstI S M b_1 (48 + x1) (v_2 + s0)).bind fun m_3 =>
  (zldI S m_3 b_1 (48 + x1)).bind fun v_4 =>
  (F_Mo_leaksOf n E S a0 x1 m_3).bind fun q_5 =>
  (F_Mo_within n E S ((v_4 - q_5.1).toInt64) 0 99 q_5.2).bind fun q_6 =>
  (zstI S q_6.2 b_1 (48 + x1) q_6.1).bind fun m_7 =>
  some (s0, m_7)
def F_Mo_catchIn (n : Nat) (E : zE) (S : zS) (a0 : Nat) (x1 : Int32) (x2 : Int32) (M : zH) : Option (Int32 × zH) :=
  (zgR S a0 11 3).bind fun b_8 =>
  (zldI S M b_8 (54 + x1)).bind fun v_9 =>
  (zldI S M b_8 (48 + x1)).bind fun v_10 =>
  if (v_9 - v_10) ≤ x2 then
    F_Mo_catchIn_b30 n E S a0 x1 (v_9 - v_10) M
  else
    F_Mo_catchIn_b30 n E S a0 x1 x2 M
theorem K_Mo_catchIn_b30 (n : Nat) (E : zE) (S : zS) (a0 : Nat) (x1 : Int32) (s0 : Int32) (M : zH) (r : Int32) (M' : zH)  (h : F_Mo_catchIn_b30 n E S a0 x1 s0 M = some (r, M')) : zG E Y_Mo_catchIn (some (.int r), S, M') 30 [(0, .ref a0), (1, .int x1)] [.int s0] S M 0 0 := by
  unfold F_Mo_catchIn_b30 at h
  refine zi_istore [(4, .int s0), (0, .ref a0), (1, .int x1)] d_Mo_catchIn_30 (by decide) rfl ?_
  refine zi_aload_n 1 d_Mo_catchIn_32 rfl ?_
  obtain ⟨b_1, eb_1, h⟩ := zbind h
  refine zo_getR 36 zkd_11 3 d_Mo_catchIn_33 eb_1 rfl tw_1232 rfl ?_
  refine zi_bipush 48 d_Mo_catchIn_36 rfl ?_
  refine zi_iload_n 2 d_Mo_catchIn_38 rfl ?_
  refine zi_iadd d_Mo_catchIn_39 ?_
  refine zi_dup2 d_Mo_catchIn_40 rfl rfl ?_
  obtain ⟨v_2, ev_2, h⟩ := zbind h
  refine zo_iald 42 d_Mo_catchIn_41 ev_2 rfl ?_
  refine zi_iload 0 d_Mo_catchIn_42 rfl ?_
  refine zi_iadd d_Mo_catchIn_44 ?_
  obtain ⟨m_3, em_3, h⟩ := zbind h
  refine zo_iast 46 d_Mo_catchIn_45 em_3 rfl ?_
  refine zi_aload_n 1 d_Mo_catchIn_46 rfl ?_
  refine zo_getR 50 zkd_11 3 d_Mo_catchIn_47 eb_1 rfl tw_1232 rfl ?_
  refine zi_bipush 48 d_Mo_catchIn_50 rfl ?_
  refine zi_iload_n 2 d_Mo_catchIn_52 rfl ?_
  refine zi_iadd d_Mo_catchIn_53 ?_
  refine zi_aload_n 1 d_Mo_catchIn_54 rfl ?_
  refine zo_getR 58 zkd_11 3 d_Mo_catchIn_55 eb_1 rfl tw_1232 rfl ?_
  refine zi_bipush 48 d_Mo_catchIn_58 rfl ?_
  refine zi_iload_n 2 d_Mo_catchIn_60 rfl ?_
  refine zi_iadd d_Mo_catchIn_61 ?_
  obtain ⟨v_4, ev_4, h⟩ := zbind h
  refine zo_iald 63 d_Mo_catchIn_62 ev_4 rfl ?_
  refine zi_aload_n 1 d_Mo_catchIn_63 rfl ?_
  refine zi_iload_n 2 d_Mo_catchIn_64 rfl ?_
  obtain ⟨q_5, eq_5, h⟩ := zbind h
  refine zo_virt (k' := 0) (n' := 0) 68 [.int x1] [.int v_4, .int (48 + x1), .ref b_1] [.int q_5.1, .int v_4, .int (48 + x1), .ref b_1] zkd_11 (zgR_s eb_1).1 (C_Mo_leaksOf n E S a0 x1 m_3 q_5.1 q_5.2 eq_5) d_Mo_catchIn_65 tw_1498 tw_1495 tw_1497 ts_47 tw_13 dd_Mo_leaksOf ⟨Nat.le_of_ble_eq_true rfl, Nat.le_of_ble_eq_true rfl, Nat.le_of_ble_eq_true rfl, Nat.le_of_ble_eq_true rfl⟩ (Nat.le_of_ble_eq_true rfl) rfl rfl rfl rfl ?_
  refine zi_isub d_Mo_catchIn_68 ?_
  refine zi_i2l d_Mo_catchIn_69 ?_
  refine zi_iconst 0 d_Mo_catchIn_70 rfl ?_
  refine zi_bipush 99 d_Mo_catchIn_71 rfl ?_
  obtain ⟨q_6, eq_6, h⟩ := zbind h
  refine zo_stat (k' := 0) (n' := 0) 76 [.long ((v_4 - q_5.1).toInt64), .int 0, .int 99] [.int (48 + x1), .ref b_1] [.int q_6.1, .int (48 + x1), .ref b_1] (C_Mo_within n E S ((v_4 - q_5.1).toInt64) 0 99 q_5.2 q_6.1 q_6.2 eq_6) d_Mo_catchIn_73 tw_1472 tw_1470 tw_1471 tw_13 dd_Mo_within ⟨Nat.le_of_ble_eq_true rfl, Nat.le_of_ble_eq_true rfl, Nat.le_of_ble_eq_true rfl, Nat.le_of_ble_eq_true rfl⟩ (Nat.le_of_ble_eq_true rfl) rfl rfl rfl rfl ?_
  obtain ⟨m_7, em_7, h⟩ := zbind h
  refine zo_iast 77 d_Mo_catchIn_76 em_7 rfl ?_
  refine zi_iload 0 d_Mo_catchIn_77 rfl ?_
  cases h
  exact zo_ret d_Mo_catchIn_79 (Nat.le_of_ble_eq_true rfl) (Nat.le_of_ble_eq_true rfl) rfl
theorem K_Mo_catchIn (n : Nat) (E : zE) (S : zS) (a0 : Nat) (x1 : Int32) (x2 : Int32) (M : zH) (r : Int32) (M' : zH)  (h : F_Mo_catchIn n E S a0 x1 x2 M = some (r, M')) : zG E Y_Mo_catchIn (some (.int r), S, M') 0 [(0, .ref a0), (1, .int x1), (2, .int x2)] [] S M 0 0 := by
  unfold F_Mo_catchIn at h
  refine zi_aload_n 0 d_Mo_catchIn_0 rfl ?_
  obtain ⟨b_8, eb_8, h⟩ := zbind h
  refine zo_getR 4 zkd_11 3 d_Mo_catchIn_1 eb_8 rfl tw_1232 rfl ?_
  refine zi_bipush 54 d_Mo_catchIn_4 rfl ?_
  refine zi_iload_n 1 d_Mo_catchIn_6 rfl ?_
  refine zi_iadd d_Mo_catchIn_7 ?_
  obtain ⟨v_9, ev_9, h⟩ := zbind h
  refine zo_iald 9 d_Mo_catchIn_8 ev_9 rfl ?_
  refine zi_aload_n 0 d_Mo_catchIn_9 rfl ?_
  refine zo_getR 13 zkd_11 3 d_Mo_catchIn_10 eb_8 rfl tw_1232 rfl ?_
  refine zi_bipush 48 d_Mo_catchIn_13 rfl ?_
  refine zi_iload_n 1 d_Mo_catchIn_15 rfl ?_
  refine zi_iadd d_Mo_catchIn_16 ?_
  obtain ⟨v_10, ev_10, h⟩ := zbind h
  refine zo_iald 18 d_Mo_catchIn_17 ev_10 rfl ?_
  refine zi_isub d_Mo_catchIn_18 ?_
  refine zi_istore_n [(3, .int (v_9 - v_10)), (0, .ref a0), (1, .int x1), (2, .int x2)] d_Mo_catchIn_19 (by decide) rfl ?_
  refine zi_iload_n 3 d_Mo_catchIn_20 rfl ?_
  refine zi_iload_n 0 d_Mo_catchIn_21 rfl ?_
  refine zi_icmp_ge (tgt := 29) d_Mo_catchIn_22 rfl (fun c_11 => ?_) (fun c_11 => ?_)
  · rw [if_pos c_11] at h
    refine zi_iload_n 0 d_Mo_catchIn_29 rfl ?_
    refine zi_lo [(0, .ref a0), (1, .int x1)] [1, 2] rfl ?_
    exact K_Mo_catchIn_b30 n E S a0 x1 (v_9 - v_10) M r M'  h
  · rw [if_neg c_11] at h
    refine zi_iload_n 3 d_Mo_catchIn_25 rfl ?_
    refine zi_goto (tgt := 30) d_Mo_catchIn_26 rfl ?_
    refine zi_lo [(0, .ref a0), (1, .int x1)] [1, 2] rfl ?_
    exact K_Mo_catchIn_b30 n E S a0 x1 x2 M r M'  h
theorem C_Mo_catchIn (n : Nat) (E : zE) (S : zS) (a0 : Nat) (x1 : Int32) (x2 : Int32) (M : zH) (r : Int32) (M' : zH) (h : F_Mo_catchIn n E S a0 x1 x2 M = some (r, M')) : zC E Y_Mo_catchIn [.ref a0, .int x1, .int x2] S M (some (.int r), S, M') :=
  zC.of (Or.inl (show plainName "NightColanderModel" = true by decide)) (Nat.le_of_ble_eq_true rfl) (trivial) (K_Mo_catchIn n E S a0 x1 x2 M r M' h)
theorem d_Mo_layFlow_0 : decode (yB Y_Mo_layFlow) 0 = .ok (.iconst 0, 1) := by decide +kernel
theorem d_Mo_layFlow_1 : decode (yB Y_Mo_layFlow) 1 = .ok (.istore_n 1, 1) := by decide +kernel
theorem d_Mo_layFlow_2 : decode (yB Y_Mo_layFlow) 2 = .ok (.iload_n 1, 1) := by decide +kernel
theorem d_Mo_layFlow_3 : decode (yB Y_Mo_layFlow) 3 = .ok (.bipush 8, 2) := by decide +kernel
theorem d_Mo_layFlow_5 : decode (yB Y_Mo_layFlow) 5 = .ok (.if_icmp .ge 20, 3) := by decide +kernel
theorem d_Mo_layFlow_8 : decode (yB Y_Mo_layFlow) 8 = .ok (.aload_n 0, 1) := by decide +kernel
theorem d_Mo_layFlow_9 : decode (yB Y_Mo_layFlow) 9 = .ok (.getfield 112, 3) := by decide +kernel
theorem d_Mo_layFlow_12 : decode (yB Y_Mo_layFlow) 12 = .ok (.iload_n 1, 1) := by decide +kernel
theorem d_Mo_layFlow_13 : decode (yB Y_Mo_layFlow) 13 = .ok (.aload_n 0, 1) := by decide +kernel
theorem d_Mo_layFlow_14 : decode (yB Y_Mo_layFlow) 14 = .ok (.iload_n 1, 1) := by decide +kernel
theorem d_Mo_layFlow_15 : decode (yB Y_Mo_layFlow) 15 = .ok (.invokevirtual 232, 3) := by decide +kernel
theorem d_Mo_layFlow_18 : decode (yB Y_Mo_layFlow) 18 = .ok (.iastore, 1) := by decide +kernel
theorem d_Mo_layFlow_19 : decode (yB Y_Mo_layFlow) 19 = .ok (.iinc 1 1, 3) := by decide +kernel
theorem d_Mo_layFlow_22 : decode (yB Y_Mo_layFlow) 22 = .ok (.goto (-20), 3) := by decide +kernel
theorem d_Mo_layFlow_25 : decode (yB Y_Mo_layFlow) 25 = .ok (.return_, 1) := by decide +kernel
def F_Mo_layFlow_L2 (n : Nat) (E : zE) (S : zS) (r2 : Nat × Int32 × zH → Option (zH)) (a0 : Nat) (x1 : Int32) (M : zH) : Option (zH) :=
  if 8 ≤ x1 then
    some (M)
  else
    (zgR S a0 11 41).bind fun b_2 =>
    (F_Mo_flowOn n E S a0 x1 M).bind fun q_3 =>
    (zstI S q_3.2 b_2 x1 q_3.1).bind fun m_4 =>
    r2 (a0, x1 + 1, m_4)
def F_Mo_layFlow_b2 (n : Nat) (E : zE) (S : zS) : Nat × Int32 × zH → Option (zH) := zfix (fun r2 s => F_Mo_layFlow_L2 n E S r2 s.1 s.2.1 s.2.2) n
def F_Mo_layFlow (n : Nat) (E : zE) (S : zS) (a0 : Nat) (M : zH) : Option (zH) :=
  F_Mo_layFlow_b2 n E S (a0, 0, M)
theorem K_Mo_layFlow_L2 (n : Nat) (E : zE) (S : zS) (r2 : Nat × Int32 × zH → Option (zH)) (a0 : Nat) (x1 : Int32) (M : zH) (M' : zH) (hr2 : ∀ (a0 : Nat) (x1 : Int32) (M : zH), r2 (a0, x1, M) = some M' → zG E Y_Mo_layFlow (none, S, M') 2 [(0, .ref a0), (1, .int x1)] [] S M 0 0) (h : F_Mo_layFlow_L2 n E S r2 a0 x1 M = some M') : zG E Y_Mo_layFlow (none, S, M') 2 [(0, .ref a0), (1, .int x1)] [] S M 0 0 := by
  unfold F_Mo_layFlow_L2 at h
  refine zi_iload_n 1 d_Mo_layFlow_2 rfl ?_
  refine zi_bipush 8 d_Mo_layFlow_3 rfl ?_
  refine zi_icmp_ge (tgt := 25) d_Mo_layFlow_5 rfl (fun c_1 => ?_) (fun c_1 => ?_)
  · rw [if_pos c_1] at h
    cases h
    exact zo_ret d_Mo_layFlow_25 (Nat.le_of_ble_eq_true rfl) (Nat.le_of_ble_eq_true rfl) rfl
  · rw [if_neg c_1] at h
    refine zi_aload_n 0 d_Mo_layFlow_8 rfl ?_
    obtain ⟨b_2, eb_2, h⟩ := zbind h
    refine zo_getR 12 zkd_11 41 d_Mo_layFlow_9 eb_2 rfl tw_1270 rfl ?_
    refine zi_iload_n 1 d_Mo_layFlow_12 rfl ?_
    refine zi_aload_n 0 d_Mo_layFlow_13 rfl ?_
    refine zi_iload_n 1 d_Mo_layFlow_14 rfl ?_
    obtain ⟨q_3, eq_3, h⟩ := zbind h
    refine zo_virt (k' := 0) (n' := 0) 18 [.int x1] [.int x1, .ref b_2] [.int q_3.1, .int x1, .ref b_2] zkd_11 (zgR_s eb_2).1 (C_Mo_flowOn n E S a0 x1 M q_3.1 q_3.2 eq_3) d_Mo_layFlow_15 tw_1523 tw_1520 tw_1522 ts_51 tw_13 dd_Mo_flowOn ⟨Nat.le_of_ble_eq_true rfl, Nat.le_of_ble_eq_true rfl, Nat.le_of_ble_eq_true rfl, Nat.le_of_ble_eq_true rfl⟩ (Nat.le_of_ble_eq_true rfl) rfl rfl rfl rfl ?_
    obtain ⟨m_4, em_4, h⟩ := zbind h
    refine zo_iast 19 d_Mo_layFlow_18 em_4 rfl ?_
    refine zi_iinc 1 (x1 + 1) [(1, .int (x1 + 1)), (0, .ref a0)] d_Mo_layFlow_19 rfl rfl (by decide) rfl ?_
    refine zi_goto (tgt := 2) d_Mo_layFlow_22 rfl ?_
    refine zi_lo [(0, .ref a0), (1, .int (x1 + 1))] [1, 0] rfl ?_
    exact hr2 a0 (x1 + 1) m_4 h
theorem K_Mo_layFlow_b2 (n : Nat) (E : zE) (S : zS) (a0 : Nat) (x1 : Int32) (M : zH) (M' : zH)  (h : F_Mo_layFlow_b2 n E S (a0, x1, M) = some M') : zG E Y_Mo_layFlow (none, S, M') 2 [(0, .ref a0), (1, .int x1)] [] S M 0 0 := by
  have key : ∀ (k : Nat) (a0 : Nat) (x1 : Int32) (M : zH), zfix (fun r2 s => F_Mo_layFlow_L2 n E S r2 s.1 s.2.1 s.2.2) k (a0, x1, M) = some M' → zG E Y_Mo_layFlow (none, S, M') 2 [(0, .ref a0), (1, .int x1)] [] S M 0 0 := by
    intro k
    induction k with
    | zero => intro a0 x1 M h; cases h
    | succ k ih => intro a0 x1 M h; exact K_Mo_layFlow_L2 n E S _ a0 x1 M M'  (fun a0 x1 M h => ih a0 x1 M h) h
  exact key n a0 x1 M h
theorem K_Mo_layFlow (n : Nat) (E : zE) (S : zS) (a0 : Nat) (M : zH) (M' : zH)  (h : F_Mo_layFlow n E S a0 M = some M') : zG E Y_Mo_layFlow (none, S, M') 0 [(0, .ref a0)] [] S M 0 0 := by
  unfold F_Mo_layFlow at h
  refine zi_iconst 0 d_Mo_layFlow_0 rfl ?_
  refine zi_istore_n [(1, .int 0), (0, .ref a0)] d_Mo_layFlow_1 (by decide) rfl ?_
  refine zi_lo [(0, .ref a0), (1, .int 0)] [1, 0] rfl ?_
  exact K_Mo_layFlow_b2 n E S a0 0 M M'  h
theorem C_Mo_layFlow (n : Nat) (E : zE) (S : zS) (a0 : Nat) (M : zH) (M' : zH) (h : F_Mo_layFlow n E S a0 M = some M') : zC E Y_Mo_layFlow [.ref a0] S M (none, S, M') :=
  zC.of (Or.inl (show plainName "NightColanderModel" = true by decide)) (Nat.le_of_ble_eq_true rfl) (trivial) (K_Mo_layFlow n E S a0 M M' h)
theorem d_Mo_turnAll_0 : decode (yB Y_Mo_turnAll) 0 = .ok (.iconst 0, 1) := by decide +kernel
theorem d_Mo_turnAll_1 : decode (yB Y_Mo_turnAll) 1 = .ok (.istore_n 1, 1) := by decide +kernel
theorem d_Mo_turnAll_2 : decode (yB Y_Mo_turnAll) 2 = .ok (.iload_n 1, 1) := by decide +kernel
theorem d_Mo_turnAll_3 : decode (yB Y_Mo_turnAll) 3 = .ok (.iconst 4, 1) := by decide +kernel
theorem d_Mo_turnAll_4 : decode (yB Y_Mo_turnAll) 4 = .ok (.if_icmp .ge 34, 3) := by decide +kernel
theorem d_Mo_turnAll_7 : decode (yB Y_Mo_turnAll) 7 = .ok (.aload_n 0, 1) := by decide +kernel
theorem d_Mo_turnAll_8 : decode (yB Y_Mo_turnAll) 8 = .ok (.getfield 13, 3) := by decide +kernel
theorem d_Mo_turnAll_11 : decode (yB Y_Mo_turnAll) 11 = .ok (.bipush 8, 2) := by decide +kernel
theorem d_Mo_turnAll_13 : decode (yB Y_Mo_turnAll) 13 = .ok (.iload_n 1, 1) := by decide +kernel
theorem d_Mo_turnAll_14 : decode (yB Y_Mo_turnAll) 14 = .ok (.iadd, 1) := by decide +kernel
theorem d_Mo_turnAll_15 : decode (yB Y_Mo_turnAll) 15 = .ok (.aload_n 0, 1) := by decide +kernel
theorem d_Mo_turnAll_16 : decode (yB Y_Mo_turnAll) 16 = .ok (.getfield 13, 3) := by decide +kernel
theorem d_Mo_turnAll_19 : decode (yB Y_Mo_turnAll) 19 = .ok (.bipush 8, 2) := by decide +kernel
theorem d_Mo_turnAll_21 : decode (yB Y_Mo_turnAll) 21 = .ok (.iload_n 1, 1) := by decide +kernel
theorem d_Mo_turnAll_22 : decode (yB Y_Mo_turnAll) 22 = .ok (.iadd, 1) := by decide +kernel
theorem d_Mo_turnAll_23 : decode (yB Y_Mo_turnAll) 23 = .ok (.iaload, 1) := by decide +kernel
theorem d_Mo_turnAll_24 : decode (yB Y_Mo_turnAll) 24 = .ok (.iload_n 1, 1) := by decide +kernel
theorem d_Mo_turnAll_25 : decode (yB Y_Mo_turnAll) 25 = .ok (.iadd, 1) := by decide +kernel
theorem d_Mo_turnAll_26 : decode (yB Y_Mo_turnAll) 26 = .ok (.iconst 1, 1) := by decide +kernel
theorem d_Mo_turnAll_27 : decode (yB Y_Mo_turnAll) 27 = .ok (.iadd, 1) := by decide +kernel
theorem d_Mo_turnAll_28 : decode (yB Y_Mo_turnAll) 28 = .ok (.bipush 8, 2) := by decide +kernel
theorem d_Mo_turnAll_30 : decode (yB Y_Mo_turnAll) 30 = .ok (.irem, 1) := by decide +kernel
theorem d_Mo_turnAll_31 : decode (yB Y_Mo_turnAll) 31 = .ok (.iastore, 1) := by decide +kernel
theorem d_Mo_turnAll_32 : decode (yB Y_Mo_turnAll) 32 = .ok (.iinc 1 1, 3) := by decide +kernel
theorem d_Mo_turnAll_35 : decode (yB Y_Mo_turnAll) 35 = .ok (.goto (-33), 3) := by decide +kernel
theorem d_Mo_turnAll_38 : decode (yB Y_Mo_turnAll) 38 = .ok (.aload_n 0, 1) := by decide +kernel
theorem d_Mo_turnAll_39 : decode (yB Y_Mo_turnAll) 39 = .ok (.getfield 13, 3) := by decide +kernel
theorem d_Mo_turnAll_42 : decode (yB Y_Mo_turnAll) 42 = .ok (.iconst 4, 1) := by decide +kernel
theorem d_Mo_turnAll_43 : decode (yB Y_Mo_turnAll) 43 = .ok (.dup2, 1) := by decide +kernel
theorem d_Mo_turnAll_44 : decode (yB Y_Mo_turnAll) 44 = .ok (.iaload, 1) := by decide +kernel
theorem d_Mo_turnAll_45 : decode (yB Y_Mo_turnAll) 45 = .ok (.iconst 1, 1) := by decide +kernel
theorem d_Mo_turnAll_46 : decode (yB Y_Mo_turnAll) 46 = .ok (.iadd, 1) := by decide +kernel
theorem d_Mo_turnAll_47 : decode (yB Y_Mo_turnAll) 47 = .ok (.iastore, 1) := by decide +kernel
theorem d_Mo_turnAll_48 : decode (yB Y_Mo_turnAll) 48 = .ok (.return_, 1) := by decide +kernel
def F_Mo_turnAll_L2 (n : Nat) (E : zE) (S : zS) (r2 : Nat × Int32 × zH → Option (zH)) (a0 : Nat) (x1 : Int32) (M : zH) : Option (zH) :=
  if 4 ≤ x1 then
    (zgR S a0 11 3).bind fun b_2 =>
    (zldI S M b_2 4).bind fun v_3 =>
    (zstI S M b_2 4 (v_3 + 1)).bind fun m_4 =>
    some (m_4)
  else
    (zgR S a0 11 3).bind fun b_5 =>
    (zldI S M b_5 (8 + x1)).bind fun v_6 =>
    (zremI ((v_6 + x1) + 1) 8).bind fun v_7 =>
    (zstI S M b_5 (8 + x1) v_7).bind fun m_8 =>
    r2 (a0, x1 + 1, m_8)
def F_Mo_turnAll_b2 (n : Nat) (E : zE) (S : zS) : Nat × Int32 × zH → Option (zH) := zfix (fun r2 s => F_Mo_turnAll_L2 n E S r2 s.1 s.2.1 s.2.2) n
def F_Mo_turnAll (n : Nat) (E : zE) (S : zS) (a0 : Nat) (M : zH) : Option (zH) :=
  F_Mo_turnAll_b2 n E S (a0, 0, M)
theorem K_Mo_turnAll_L2 (n : Nat) (E : zE) (S : zS) (r2 : Nat × Int32 × zH → Option (zH)) (a0 : Nat) (x1 : Int32) (M : zH) (M' : zH) (hr2 : ∀ (a0 : Nat) (x1 : Int32) (M : zH), r2 (a0, x1, M) = some M' → zG E Y_Mo_turnAll (none, S, M') 2 [(0, .ref a0), (1, .int x1)] [] S M 0 0) (h : F_Mo_turnAll_L2 n E S r2 a0 x1 M = some M') : zG E Y_Mo_turnAll (none, S, M') 2 [(0, .ref a0), (1, .int x1)] [] S M 0 0 := by
  unfold F_Mo_turnAll_L2 at h
  refine zi_iload_n 1 d_Mo_turnAll_2 rfl ?_
  refine zi_iconst 4 d_Mo_turnAll_3 rfl ?_
  refine zi_icmp_ge (tgt := 38) d_Mo_turnAll_4 rfl (fun c_1 => ?_) (fun c_1 => ?_)
  · rw [if_pos c_1] at h
    refine zi_aload_n 0 d_Mo_turnAll_38 rfl ?_
    obtain ⟨b_2, eb_2, h⟩ := zbind h
    refine zo_getR 42 zkd_11 3 d_Mo_turnAll_39 eb_2 rfl tw_1232 rfl ?_
    refine zi_iconst 4 d_Mo_turnAll_42 rfl ?_
    refine zi_dup2 d_Mo_turnAll_43 rfl rfl ?_
    obtain ⟨v_3, ev_3, h⟩ := zbind h
    refine zo_iald 45 d_Mo_turnAll_44 ev_3 rfl ?_
    refine zi_iconst 1 d_Mo_turnAll_45 rfl ?_
    refine zi_iadd d_Mo_turnAll_46 ?_
    obtain ⟨m_4, em_4, h⟩ := zbind h
    refine zo_iast 48 d_Mo_turnAll_47 em_4 rfl ?_
    cases h
    exact zo_ret d_Mo_turnAll_48 (Nat.le_of_ble_eq_true rfl) (Nat.le_of_ble_eq_true rfl) rfl
  · rw [if_neg c_1] at h
    refine zi_aload_n 0 d_Mo_turnAll_7 rfl ?_
    obtain ⟨b_5, eb_5, h⟩ := zbind h
    refine zo_getR 11 zkd_11 3 d_Mo_turnAll_8 eb_5 rfl tw_1232 rfl ?_
    refine zi_bipush 8 d_Mo_turnAll_11 rfl ?_
    refine zi_iload_n 1 d_Mo_turnAll_13 rfl ?_
    refine zi_iadd d_Mo_turnAll_14 ?_
    refine zi_aload_n 0 d_Mo_turnAll_15 rfl ?_
    refine zo_getR 19 zkd_11 3 d_Mo_turnAll_16 eb_5 rfl tw_1232 rfl ?_
    refine zi_bipush 8 d_Mo_turnAll_19 rfl ?_
    refine zi_iload_n 1 d_Mo_turnAll_21 rfl ?_
    refine zi_iadd d_Mo_turnAll_22 ?_
    obtain ⟨v_6, ev_6, h⟩ := zbind h
    refine zo_iald 24 d_Mo_turnAll_23 ev_6 rfl ?_
    refine zi_iload_n 1 d_Mo_turnAll_24 rfl ?_
    refine zi_iadd d_Mo_turnAll_25 ?_
    refine zi_iconst 1 d_Mo_turnAll_26 rfl ?_
    refine zi_iadd d_Mo_turnAll_27 ?_
    refine zi_bipush 8 d_Mo_turnAll_28 rfl ?_
    obtain ⟨v_7, ev_7, h⟩ := zbind h
    refine zo_irem 31 d_Mo_turnAll_30 ev_7 rfl ?_
    obtain ⟨m_8, em_8, h⟩ := zbind h
    refine zo_iast 32 d_Mo_turnAll_31 em_8 rfl ?_
    refine zi_iinc 1 (x1 + 1) [(1, .int (x1 + 1)), (0, .ref a0)] d_Mo_turnAll_32 rfl rfl (by decide) rfl ?_
    refine zi_goto (tgt := 2) d_Mo_turnAll_35 rfl ?_
    refine zi_lo [(0, .ref a0), (1, .int (x1 + 1))] [1, 0] rfl ?_
    exact hr2 a0 (x1 + 1) m_8 h
theorem K_Mo_turnAll_b2 (n : Nat) (E : zE) (S : zS) (a0 : Nat) (x1 : Int32) (M : zH) (M' : zH)  (h : F_Mo_turnAll_b2 n E S (a0, x1, M) = some M') : zG E Y_Mo_turnAll (none, S, M') 2 [(0, .ref a0), (1, .int x1)] [] S M 0 0 := by
  have key : ∀ (k : Nat) (a0 : Nat) (x1 : Int32) (M : zH), zfix (fun r2 s => F_Mo_turnAll_L2 n E S r2 s.1 s.2.1 s.2.2) k (a0, x1, M) = some M' → zG E Y_Mo_turnAll (none, S, M') 2 [(0, .ref a0), (1, .int x1)] [] S M 0 0 := by
    intro k
    induction k with
    | zero => intro a0 x1 M h; cases h
    | succ k ih => intro a0 x1 M h; exact K_Mo_turnAll_L2 n E S _ a0 x1 M M'  (fun a0 x1 M h => ih a0 x1 M h) h
  exact key n a0 x1 M h
theorem K_Mo_turnAll (n : Nat) (E : zE) (S : zS) (a0 : Nat) (M : zH) (M' : zH)  (h : F_Mo_turnAll n E S a0 M = some M') : zG E Y_Mo_turnAll (none, S, M') 0 [(0, .ref a0)] [] S M 0 0 := by
  unfold F_Mo_turnAll at h
  refine zi_iconst 0 d_Mo_turnAll_0 rfl ?_
  refine zi_istore_n [(1, .int 0), (0, .ref a0)] d_Mo_turnAll_1 (by decide) rfl ?_
  refine zi_lo [(0, .ref a0), (1, .int 0)] [1, 0] rfl ?_
  exact K_Mo_turnAll_b2 n E S a0 0 M M'  h
theorem C_Mo_turnAll (n : Nat) (E : zE) (S : zS) (a0 : Nat) (M : zH) (M' : zH) (h : F_Mo_turnAll n E S a0 M = some M') : zC E Y_Mo_turnAll [.ref a0] S M (none, S, M') :=
  zC.of (Or.inl (show plainName "NightColanderModel" = true by decide)) (Nat.le_of_ble_eq_true rfl) (trivial) (K_Mo_turnAll n E S a0 M M' h)
theorem d_Mo_passIt_0 : decode (yB Y_Mo_passIt) 0 = .ok (.aload_n 0, 1) := by decide +kernel
theorem d_Mo_passIt_1 : decode (yB Y_Mo_passIt) 1 = .ok (.invokevirtual 457, 3) := by decide +kernel
theorem d_Mo_passIt_4 : decode (yB Y_Mo_passIt) 4 = .ok (.iconst 0, 1) := by decide +kernel
theorem d_Mo_passIt_5 : decode (yB Y_Mo_passIt) 5 = .ok (.istore_n 1, 1) := by decide +kernel
theorem d_Mo_passIt_6 : decode (yB Y_Mo_passIt) 6 = .ok (.iconst 0, 1) := by decide +kernel
theorem d_Mo_passIt_7 : decode (yB Y_Mo_passIt) 7 = .ok (.istore_n 2, 1) := by decide +kernel
theorem d_Mo_passIt_8 : decode (yB Y_Mo_passIt) 8 = .ok (.iload_n 2, 1) := by decide +kernel
theorem d_Mo_passIt_9 : decode (yB Y_Mo_passIt) 9 = .ok (.aload_n 0, 1) := by decide +kernel
theorem d_Mo_passIt_10 : decode (yB Y_Mo_passIt) 10 = .ok (.getfield 13, 3) := by decide +kernel
theorem d_Mo_passIt_13 : decode (yB Y_Mo_passIt) 13 = .ok (.iconst 0, 1) := by decide +kernel
theorem d_Mo_passIt_14 : decode (yB Y_Mo_passIt) 14 = .ok (.iaload, 1) := by decide +kernel
theorem d_Mo_passIt_15 : decode (yB Y_Mo_passIt) 15 = .ok (.if_icmp .ge 31, 3) := by decide +kernel
theorem d_Mo_passIt_18 : decode (yB Y_Mo_passIt) 18 = .ok (.iload_n 1, 1) := by decide +kernel
theorem d_Mo_passIt_19 : decode (yB Y_Mo_passIt) 19 = .ok (.aload_n 0, 1) := by decide +kernel
theorem d_Mo_passIt_20 : decode (yB Y_Mo_passIt) 20 = .ok (.iload_n 2, 1) := by decide +kernel
theorem d_Mo_passIt_21 : decode (yB Y_Mo_passIt) 21 = .ok (.aload_n 0, 1) := by decide +kernel
theorem d_Mo_passIt_22 : decode (yB Y_Mo_passIt) 22 = .ok (.getfield 112, 3) := by decide +kernel
theorem d_Mo_passIt_25 : decode (yB Y_Mo_passIt) 25 = .ok (.aload_n 0, 1) := by decide +kernel
theorem d_Mo_passIt_26 : decode (yB Y_Mo_passIt) 26 = .ok (.getfield 13, 3) := by decide +kernel
theorem d_Mo_passIt_29 : decode (yB Y_Mo_passIt) 29 = .ok (.bipush 51, 2) := by decide +kernel
theorem d_Mo_passIt_31 : decode (yB Y_Mo_passIt) 31 = .ok (.iload_n 2, 1) := by decide +kernel
theorem d_Mo_passIt_32 : decode (yB Y_Mo_passIt) 32 = .ok (.iadd, 1) := by decide +kernel
theorem d_Mo_passIt_33 : decode (yB Y_Mo_passIt) 33 = .ok (.iaload, 1) := by decide +kernel
theorem d_Mo_passIt_34 : decode (yB Y_Mo_passIt) 34 = .ok (.iaload, 1) := by decide +kernel
theorem d_Mo_passIt_35 : decode (yB Y_Mo_passIt) 35 = .ok (.invokevirtual 460, 3) := by decide +kernel
theorem d_Mo_passIt_38 : decode (yB Y_Mo_passIt) 38 = .ok (.iadd, 1) := by decide +kernel
theorem d_Mo_passIt_39 : decode (yB Y_Mo_passIt) 39 = .ok (.istore_n 1, 1) := by decide +kernel
theorem d_Mo_passIt_40 : decode (yB Y_Mo_passIt) 40 = .ok (.iinc 2 1, 3) := by decide +kernel
theorem d_Mo_passIt_43 : decode (yB Y_Mo_passIt) 43 = .ok (.goto (-35), 3) := by decide +kernel
theorem d_Mo_passIt_46 : decode (yB Y_Mo_passIt) 46 = .ok (.aload_n 0, 1) := by decide +kernel
theorem d_Mo_passIt_47 : decode (yB Y_Mo_passIt) 47 = .ok (.invokevirtual 463, 3) := by decide +kernel
theorem d_Mo_passIt_50 : decode (yB Y_Mo_passIt) 50 = .ok (.iload_n 1, 1) := by decide +kernel
theorem d_Mo_passIt_51 : decode (yB Y_Mo_passIt) 51 = .ok (.ireturn, 1) := by decide +kernel
def F_Mo_passIt_L8 (n : Nat) (E : zE) (S : zS) (r8 : Nat × Int32 × Int32 × zH → Option (Int32 × zH)) (a0 : Nat) (x1 : Int32) (x2 : Int32) (M : zH) : Option (Int32 × zH) :=
  (zgR S a0 11 3).bind fun b_1 =>
  (zldI S M b_1 0).bind fun v_2 =>
  if v_2 ≤ x2 then
    (F_Mo_turnAll n E S a0 M).bind fun q_4 =>
    some (x1, q_4)
  else
    (zgR S a0 11 41).bind fun b_5 =>
    (zldI S M b_1 (51 + x2)).bind fun v_6 =>
    (zldI S M b_5 v_6).bind fun v_7 =>
    (F_Mo_catchIn n E S a0 x2 v_7 M).bind fun q_8 =>
    r8 (a0, x1 + q_8.1, x2 + 1, q_8.2)
def F_Mo_passIt_b8 (n : Nat) (E : zE) (S : zS) : Nat × Int32 × Int32 × zH → Option (Int32 × zH) := zfix (fun r8 s => F_Mo_passIt_L8 n E S r8 s.1 s.2.1 s.2.2.1 s.2.2.2) n
def F_Mo_passIt (n : Nat) (E : zE) (S : zS) (a0 : Nat) (M : zH) : Option (Int32 × zH) :=
  (zck S a0 11).bind fun u_9 =>
  (F_Mo_layFlow n E S a0 M).bind fun q_10 =>
  F_Mo_passIt_b8 n E S (a0, 0, 0, q_10)
theorem K_Mo_passIt_L8 (n : Nat) (E : zE) (S : zS) (r8 : Nat × Int32 × Int32 × zH → Option (Int32 × zH)) (a0 : Nat) (x1 : Int32) (x2 : Int32) (M : zH) (r : Int32) (M' : zH) (hr8 : ∀ (a0 : Nat) (x1 : Int32) (x2 : Int32) (M : zH), r8 (a0, x1, x2, M) = some (r, M') → zG E Y_Mo_passIt (some (.int r), S, M') 8 [(0, .ref a0), (1, .int x1), (2, .int x2)] [] S M 0 0) (h : F_Mo_passIt_L8 n E S r8 a0 x1 x2 M = some (r, M')) : zG E Y_Mo_passIt (some (.int r), S, M') 8 [(0, .ref a0), (1, .int x1), (2, .int x2)] [] S M 0 0 := by
  unfold F_Mo_passIt_L8 at h
  refine zi_iload_n 2 d_Mo_passIt_8 rfl ?_
  refine zi_aload_n 0 d_Mo_passIt_9 rfl ?_
  obtain ⟨b_1, eb_1, h⟩ := zbind h
  refine zo_getR 13 zkd_11 3 d_Mo_passIt_10 eb_1 rfl tw_1232 rfl ?_
  refine zi_iconst 0 d_Mo_passIt_13 rfl ?_
  obtain ⟨v_2, ev_2, h⟩ := zbind h
  refine zo_iald 15 d_Mo_passIt_14 ev_2 rfl ?_
  refine zi_icmp_ge (tgt := 46) d_Mo_passIt_15 rfl (fun c_3 => ?_) (fun c_3 => ?_)
  · rw [if_pos c_3] at h
    refine zi_aload_n 0 d_Mo_passIt_46 rfl ?_
    obtain ⟨q_4, eq_4, h⟩ := zbind h
    refine zo_virt (k' := 0) (n' := 0) 50 [] [] [] zkd_11 (zgR_s eb_1).1 (C_Mo_turnAll n E S a0 M q_4 eq_4) d_Mo_passIt_47 tw_1744 tw_1741 tw_1743 ts_87 tw_13 dd_Mo_turnAll ⟨Nat.le_of_ble_eq_true rfl, Nat.le_of_ble_eq_true rfl, Nat.le_of_ble_eq_true rfl, Nat.le_of_ble_eq_true rfl⟩ (Nat.le_of_ble_eq_true rfl) rfl rfl rfl rfl ?_
    refine zi_iload_n 1 d_Mo_passIt_50 rfl ?_
    cases h
    exact zo_ret d_Mo_passIt_51 (Nat.le_of_ble_eq_true rfl) (Nat.le_of_ble_eq_true rfl) rfl
  · rw [if_neg c_3] at h
    refine zi_iload_n 1 d_Mo_passIt_18 rfl ?_
    refine zi_aload_n 0 d_Mo_passIt_19 rfl ?_
    refine zi_iload_n 2 d_Mo_passIt_20 rfl ?_
    refine zi_aload_n 0 d_Mo_passIt_21 rfl ?_
    obtain ⟨b_5, eb_5, h⟩ := zbind h
    refine zo_getR 25 zkd_11 41 d_Mo_passIt_22 eb_5 rfl tw_1270 rfl ?_
    refine zi_aload_n 0 d_Mo_passIt_25 rfl ?_
    refine zo_getR 29 zkd_11 3 d_Mo_passIt_26 eb_1 rfl tw_1232 rfl ?_
    refine zi_bipush 51 d_Mo_passIt_29 rfl ?_
    refine zi_iload_n 2 d_Mo_passIt_31 rfl ?_
    refine zi_iadd d_Mo_passIt_32 ?_
    obtain ⟨v_6, ev_6, h⟩ := zbind h
    refine zo_iald 34 d_Mo_passIt_33 ev_6 rfl ?_
    obtain ⟨v_7, ev_7, h⟩ := zbind h
    refine zo_iald 35 d_Mo_passIt_34 ev_7 rfl ?_
    obtain ⟨q_8, eq_8, h⟩ := zbind h
    refine zo_virt (k' := 0) (n' := 0) 38 [.int x2, .int v_7] [.int x1] [.int q_8.1, .int x1] zkd_11 (zgR_s eb_1).1 (C_Mo_catchIn n E S a0 x2 v_7 M q_8.1 q_8.2 eq_8) d_Mo_passIt_35 tw_1740 tw_1737 tw_1739 ts_86 tw_13 dd_Mo_catchIn ⟨Nat.le_of_ble_eq_true rfl, Nat.le_of_ble_eq_true rfl, Nat.le_of_ble_eq_true rfl, Nat.le_of_ble_eq_true rfl⟩ (Nat.le_of_ble_eq_true rfl) rfl rfl rfl rfl ?_
    refine zi_iadd d_Mo_passIt_38 ?_
    refine zi_istore_n [(1, .int (x1 + q_8.1)), (0, .ref a0), (2, .int x2)] d_Mo_passIt_39 (by decide) rfl ?_
    refine zi_iinc 2 (x2 + 1) [(2, .int (x2 + 1)), (1, .int (x1 + q_8.1)), (0, .ref a0)] d_Mo_passIt_40 rfl rfl (by decide) rfl ?_
    refine zi_goto (tgt := 8) d_Mo_passIt_43 rfl ?_
    refine zi_lo [(0, .ref a0), (1, .int (x1 + q_8.1)), (2, .int (x2 + 1))] [2, 1, 0] rfl ?_
    exact hr8 a0 (x1 + q_8.1) (x2 + 1) q_8.2 h
theorem K_Mo_passIt_b8 (n : Nat) (E : zE) (S : zS) (a0 : Nat) (x1 : Int32) (x2 : Int32) (M : zH) (r : Int32) (M' : zH)  (h : F_Mo_passIt_b8 n E S (a0, x1, x2, M) = some (r, M')) : zG E Y_Mo_passIt (some (.int r), S, M') 8 [(0, .ref a0), (1, .int x1), (2, .int x2)] [] S M 0 0 := by
  have key : ∀ (k : Nat) (a0 : Nat) (x1 : Int32) (x2 : Int32) (M : zH), zfix (fun r8 s => F_Mo_passIt_L8 n E S r8 s.1 s.2.1 s.2.2.1 s.2.2.2) k (a0, x1, x2, M) = some (r, M') → zG E Y_Mo_passIt (some (.int r), S, M') 8 [(0, .ref a0), (1, .int x1), (2, .int x2)] [] S M 0 0 := by
    intro k
    induction k with
    | zero => intro a0 x1 x2 M h; cases h
    | succ k ih => intro a0 x1 x2 M h; exact K_Mo_passIt_L8 n E S _ a0 x1 x2 M r M'  (fun a0 x1 x2 M h => ih a0 x1 x2 M h) h
  exact key n a0 x1 x2 M h
theorem K_Mo_passIt (n : Nat) (E : zE) (S : zS) (a0 : Nat) (M : zH) (r : Int32) (M' : zH)  (h : F_Mo_passIt n E S a0 M = some (r, M')) : zG E Y_Mo_passIt (some (.int r), S, M') 0 [(0, .ref a0)] [] S M 0 0 := by
  unfold F_Mo_passIt at h
  refine zi_aload_n 0 d_Mo_passIt_0 rfl ?_
  obtain ⟨u_9, eu_9, h⟩ := zbind h
  obtain ⟨q_10, eq_10, h⟩ := zbind h
  refine zo_virt (k' := 0) (n' := 0) 4 [] [] [] zkd_11 (zck_s eu_9) (C_Mo_layFlow n E S a0 M q_10 eq_10) d_Mo_passIt_1 tw_1736 tw_1733 tw_1735 ts_85 tw_13 dd_Mo_layFlow ⟨Nat.le_of_ble_eq_true rfl, Nat.le_of_ble_eq_true rfl, Nat.le_of_ble_eq_true rfl, Nat.le_of_ble_eq_true rfl⟩ (Nat.le_of_ble_eq_true rfl) rfl rfl rfl rfl ?_
  refine zi_iconst 0 d_Mo_passIt_4 rfl ?_
  refine zi_istore_n [(1, .int 0), (0, .ref a0)] d_Mo_passIt_5 (by decide) rfl ?_
  refine zi_iconst 0 d_Mo_passIt_6 rfl ?_
  refine zi_istore_n [(2, .int 0), (1, .int 0), (0, .ref a0)] d_Mo_passIt_7 (by decide) rfl ?_
  refine zi_lo [(0, .ref a0), (1, .int 0), (2, .int 0)] [2, 1, 0] rfl ?_
  exact K_Mo_passIt_b8 n E S a0 0 0 q_10 r M'  h
theorem C_Mo_passIt (n : Nat) (E : zE) (S : zS) (a0 : Nat) (M : zH) (r : Int32) (M' : zH) (h : F_Mo_passIt n E S a0 M = some (r, M')) : zC E Y_Mo_passIt [.ref a0] S M (some (.int r), S, M') :=
  zC.of (Or.inl (show plainName "NightColanderModel" = true by decide)) (Nat.le_of_ble_eq_true rfl) (trivial) (K_Mo_passIt n E S a0 M r M' h)
theorem d_Mo_passNow_0 : decode (yB Y_Mo_passNow) 0 = .ok (.aload_n 0, 1) := by decide +kernel
theorem d_Mo_passNow_1 : decode (yB Y_Mo_passNow) 1 = .ok (.getfield 13, 3) := by decide +kernel
theorem d_Mo_passNow_4 : decode (yB Y_Mo_passNow) 4 = .ok (.iconst 4, 1) := by decide +kernel
theorem d_Mo_passNow_5 : decode (yB Y_Mo_passNow) 5 = .ok (.iaload, 1) := by decide +kernel
theorem d_Mo_passNow_6 : decode (yB Y_Mo_passNow) 6 = .ok (.sipush 999, 3) := by decide +kernel
theorem d_Mo_passNow_9 : decode (yB Y_Mo_passNow) 9 = .ok (.if_icmp .ne 6, 3) := by decide +kernel
theorem d_Mo_passNow_12 : decode (yB Y_Mo_passNow) 12 = .ok (.bipush (-3), 2) := by decide +kernel
theorem d_Mo_passNow_14 : decode (yB Y_Mo_passNow) 14 = .ok (.ireturn, 1) := by decide +kernel
theorem d_Mo_passNow_15 : decode (yB Y_Mo_passNow) 15 = .ok (.aload_n 0, 1) := by decide +kernel
theorem d_Mo_passNow_16 : decode (yB Y_Mo_passNow) 16 = .ok (.iconst 3, 1) := by decide +kernel
theorem d_Mo_passNow_17 : decode (yB Y_Mo_passNow) 17 = .ok (.invokevirtual 445, 3) := by decide +kernel
theorem d_Mo_passNow_20 : decode (yB Y_Mo_passNow) 20 = .ok (.aload_n 0, 1) := by decide +kernel
theorem d_Mo_passNow_21 : decode (yB Y_Mo_passNow) 21 = .ok (.invokevirtual 466, 3) := by decide +kernel
theorem d_Mo_passNow_24 : decode (yB Y_Mo_passNow) 24 = .ok (.ireturn, 1) := by decide +kernel
def F_Mo_passNow (n : Nat) (E : zE) (S : zS) (a0 : Nat) (M : zH) : Option (Int32 × zH) :=
  (zgR S a0 11 3).bind fun b_1 =>
  (zldI S M b_1 4).bind fun v_2 =>
  if v_2 = 999 then
    some ((-3), M)
  else
    (F_Mo_remember n E S a0 3 M).bind fun q_4 =>
    (F_Mo_passIt n E S a0 q_4).bind fun q_5 =>
    some (q_5.1, q_5.2)
theorem K_Mo_passNow (n : Nat) (E : zE) (S : zS) (a0 : Nat) (M : zH) (r : Int32) (M' : zH)  (h : F_Mo_passNow n E S a0 M = some (r, M')) : zG E Y_Mo_passNow (some (.int r), S, M') 0 [(0, .ref a0)] [] S M 0 0 := by
  unfold F_Mo_passNow at h
  refine zi_aload_n 0 d_Mo_passNow_0 rfl ?_
  obtain ⟨b_1, eb_1, h⟩ := zbind h
  refine zo_getR 4 zkd_11 3 d_Mo_passNow_1 eb_1 rfl tw_1232 rfl ?_
  refine zi_iconst 4 d_Mo_passNow_4 rfl ?_
  obtain ⟨v_2, ev_2, h⟩ := zbind h
  refine zo_iald 6 d_Mo_passNow_5 ev_2 rfl ?_
  refine zi_sipush 999 d_Mo_passNow_6 rfl ?_
  refine zi_icmp_ne (tgt := 15) d_Mo_passNow_9 rfl (fun c_3 => ?_) (fun c_3 => ?_)
  · rw [if_neg c_3] at h
    refine zi_aload_n 0 d_Mo_passNow_15 rfl ?_
    refine zi_iconst 3 d_Mo_passNow_16 rfl ?_
    obtain ⟨q_4, eq_4, h⟩ := zbind h
    refine zo_virt (k' := 0) (n' := 0) 20 [.int 3] [] [] zkd_11 (zgR_s eb_1).1 (C_Mo_remember n E S a0 3 M q_4 eq_4) d_Mo_passNow_17 tw_1700 tw_1697 tw_1699 ts_79 tw_13 dd_Mo_remember ⟨Nat.le_of_ble_eq_true rfl, Nat.le_of_ble_eq_true rfl, Nat.le_of_ble_eq_true rfl, Nat.le_of_ble_eq_true rfl⟩ (Nat.le_of_ble_eq_true rfl) rfl rfl rfl rfl ?_
    refine zi_aload_n 0 d_Mo_passNow_20 rfl ?_
    obtain ⟨q_5, eq_5, h⟩ := zbind h
    refine zo_virt (k' := 0) (n' := 0) 24 [] [] [.int q_5.1] zkd_11 (zgR_s eb_1).1 (C_Mo_passIt n E S a0 q_4 q_5.1 q_5.2 eq_5) d_Mo_passNow_21 tw_1732 tw_1729 tw_1731 ts_84 tw_13 dd_Mo_passIt ⟨Nat.le_of_ble_eq_true rfl, Nat.le_of_ble_eq_true rfl, Nat.le_of_ble_eq_true rfl, Nat.le_of_ble_eq_true rfl⟩ (Nat.le_of_ble_eq_true rfl) rfl rfl rfl rfl ?_
    cases h
    exact zo_ret d_Mo_passNow_24 (Nat.le_of_ble_eq_true rfl) (Nat.le_of_ble_eq_true rfl) rfl
  · rw [if_pos c_3] at h
    refine zi_bipush (-3) d_Mo_passNow_12 rfl ?_
    cases h
    exact zo_ret d_Mo_passNow_14 (Nat.le_of_ble_eq_true rfl) (Nat.le_of_ble_eq_true rfl) rfl
theorem C_Mo_passNow (n : Nat) (E : zE) (S : zS) (a0 : Nat) (M : zH) (r : Int32) (M' : zH) (h : F_Mo_passNow n E S a0 M = some (r, M')) : zC E Y_Mo_passNow [.ref a0] S M (some (.int r), S, M') :=
  zC.of (Or.inl (show plainName "NightColanderModel" = true by decide)) (Nat.le_of_ble_eq_true rfl) (trivial) (K_Mo_passNow n E S a0 M r M' h)
theorem d_Mo_pass_0 : decode (yB Y_Mo_pass) 0 = .ok (.aload_n 0, 1) := by decide +kernel
theorem d_Mo_pass_1 : decode (yB Y_Mo_pass) 1 = .ok (.iconst 0, 1) := by decide +kernel
theorem d_Mo_pass_2 : decode (yB Y_Mo_pass) 2 = .ok (.putfield 156, 3) := by decide +kernel
theorem d_Mo_pass_5 : decode (yB Y_Mo_pass) 5 = .ok (.aload_n 0, 1) := by decide +kernel
theorem d_Mo_pass_6 : decode (yB Y_Mo_pass) 6 = .ok (.aload_n 0, 1) := by decide +kernel
theorem d_Mo_pass_7 : decode (yB Y_Mo_pass) 7 = .ok (.invokevirtual 469, 3) := by decide +kernel
theorem d_Mo_pass_10 : decode (yB Y_Mo_pass) 10 = .ok (.invokevirtual 165, 3) := by decide +kernel
theorem d_Mo_pass_13 : decode (yB Y_Mo_pass) 13 = .ok (.ireturn, 1) := by decide +kernel
def F_Mo_pass (n : Nat) (E : zE) (S : zS) (a0 : Nat) (M : zH) : Option (Int32 × zH) :=
  (zpI S M a0 11 0 0).bind fun m_1 =>
  (zck S a0 11).bind fun u_2 =>
  (F_Mo_passNow n E S a0 m_1).bind fun q_3 =>
  (F_Mo_tell n E S a0 q_3.1 q_3.2).bind fun q_4 =>
  some (q_4.1, q_4.2)
theorem K_Mo_pass (n : Nat) (E : zE) (S : zS) (a0 : Nat) (M : zH) (r : Int32) (M' : zH)  (h : F_Mo_pass n E S a0 M = some (r, M')) : zG E Y_Mo_pass (some (.int r), S, M') 0 [(0, .ref a0)] [] S M 0 0 := by
  unfold F_Mo_pass at h
  refine zi_aload_n 0 d_Mo_pass_0 rfl ?_
  refine zi_iconst 0 d_Mo_pass_1 rfl ?_
  obtain ⟨m_1, em_1, h⟩ := zbind h
  refine zo_putI 5 zkd_11 0 d_Mo_pass_2 em_1 rfl rfl rfl tw_1229 rfl ?_
  refine zi_aload_n 0 d_Mo_pass_5 rfl ?_
  refine zi_aload_n 0 d_Mo_pass_6 rfl ?_
  obtain ⟨u_2, eu_2, h⟩ := zbind h
  obtain ⟨q_3, eq_3, h⟩ := zbind h
  refine zo_virt (k' := 0) (n' := 0) 10 [] [.ref a0] [.int q_3.1, .ref a0] zkd_11 (zck_s eu_2) (C_Mo_passNow n E S a0 m_1 q_3.1 q_3.2 eq_3) d_Mo_pass_7 tw_1728 tw_1725 tw_1727 ts_83 tw_13 dd_Mo_passNow ⟨Nat.le_of_ble_eq_true rfl, Nat.le_of_ble_eq_true rfl, Nat.le_of_ble_eq_true rfl, Nat.le_of_ble_eq_true rfl⟩ (Nat.le_of_ble_eq_true rfl) rfl rfl rfl rfl ?_
  obtain ⟨q_4, eq_4, h⟩ := zbind h
  refine zo_virt (k' := 0) (n' := 0) 13 [.int q_3.1] [] [.int q_4.1] zkd_11 (zck_s eu_2) (C_Mo_tell n E S a0 q_3.1 q_3.2 q_4.1 q_4.2 eq_4) d_Mo_pass_10 tw_1408 tw_1405 tw_1407 ts_36 tw_13 dd_Mo_tell ⟨Nat.le_of_ble_eq_true rfl, Nat.le_of_ble_eq_true rfl, Nat.le_of_ble_eq_true rfl, Nat.le_of_ble_eq_true rfl⟩ (Nat.le_of_ble_eq_true rfl) rfl rfl rfl rfl ?_
  cases h
  exact zo_ret d_Mo_pass_13 (Nat.le_of_ble_eq_true rfl) (Nat.le_of_ble_eq_true rfl) rfl
theorem C_Mo_pass (n : Nat) (E : zE) (S : zS) (a0 : Nat) (M : zH) (r : Int32) (M' : zH) (h : F_Mo_pass n E S a0 M = some (r, M')) : zC E Y_Mo_pass [.ref a0] S M (some (.int r), S, M') :=
  zC.of (Or.inl (show plainName "NightColanderModel" = true by decide)) (Nat.le_of_ble_eq_true rfl) (trivial) (K_Mo_pass n E S a0 M r M' h)
theorem d_Mo_when_0 : decode (yB Y_Mo_when) 0 = .ok (.aload_n 0, 1) := by decide +kernel
theorem d_Mo_when_1 : decode (yB Y_Mo_when) 1 = .ok (.iconst 0, 1) := by decide +kernel
theorem d_Mo_when_2 : decode (yB Y_Mo_when) 2 = .ok (.putfield 156, 3) := by decide +kernel
theorem d_Mo_when_5 : decode (yB Y_Mo_when) 5 = .ok (.iload_n 1, 1) := by decide +kernel
theorem d_Mo_when_6 : decode (yB Y_Mo_when) 6 = .ok (.invokestatic 194, 3) := by decide +kernel
theorem d_Mo_when_9 : decode (yB Y_Mo_when) 9 = .ok (.ifCond .eq 15, 3) := by decide +kernel
theorem d_Mo_when_12 : decode (yB Y_Mo_when) 12 = .ok (.iload_n 2, 1) := by decide +kernel
theorem d_Mo_when_13 : decode (yB Y_Mo_when) 13 = .ok (.i2l, 1) := by decide +kernel
theorem d_Mo_when_14 : decode (yB Y_Mo_when) 14 = .ok (.lconst 0, 1) := by decide +kernel
theorem d_Mo_when_15 : decode (yB Y_Mo_when) 15 = .ok (.ldc2_w 230, 3) := by decide +kernel
theorem d_Mo_when_18 : decode (yB Y_Mo_when) 18 = .ok (.invokestatic 176, 3) := by decide +kernel
theorem d_Mo_when_21 : decode (yB Y_Mo_when) 21 = .ok (.ifCond .ne 5, 3) := by decide +kernel
theorem d_Mo_when_24 : decode (yB Y_Mo_when) 24 = .ok (.iconst (-1), 1) := by decide +kernel
theorem d_Mo_when_25 : decode (yB Y_Mo_when) 25 = .ok (.ireturn, 1) := by decide +kernel
theorem d_Mo_when_26 : decode (yB Y_Mo_when) 26 = .ok (.aload_n 0, 1) := by decide +kernel
theorem d_Mo_when_27 : decode (yB Y_Mo_when) 27 = .ok (.bipush 16, 2) := by decide +kernel
theorem d_Mo_when_29 : decode (yB Y_Mo_when) 29 = .ok (.invokevirtual 169, 3) := by decide +kernel
theorem d_Mo_when_32 : decode (yB Y_Mo_when) 32 = .ok (.iconst 0, 1) := by decide +kernel
theorem d_Mo_when_33 : decode (yB Y_Mo_when) 33 = .ok (.istore_n 3, 1) := by decide +kernel
theorem d_Mo_when_34 : decode (yB Y_Mo_when) 34 = .ok (.iload_n 3, 1) := by decide +kernel
theorem d_Mo_when_35 : decode (yB Y_Mo_when) 35 = .ok (.bipush 61, 2) := by decide +kernel
theorem d_Mo_when_37 : decode (yB Y_Mo_when) 37 = .ok (.if_icmp .ge 22, 3) := by decide +kernel
theorem d_Mo_when_40 : decode (yB Y_Mo_when) 40 = .ok (.aload_n 0, 1) := by decide +kernel
theorem d_Mo_when_41 : decode (yB Y_Mo_when) 41 = .ok (.iload_n 1, 1) := by decide +kernel
theorem d_Mo_when_42 : decode (yB Y_Mo_when) 42 = .ok (.invokevirtual 232, 3) := by decide +kernel
theorem d_Mo_when_45 : decode (yB Y_Mo_when) 45 = .ok (.iload_n 2, 1) := by decide +kernel
theorem d_Mo_when_46 : decode (yB Y_Mo_when) 46 = .ok (.if_icmp .ge 13, 3) := by decide +kernel
theorem d_Mo_when_49 : decode (yB Y_Mo_when) 49 = .ok (.aload_n 0, 1) := by decide +kernel
theorem d_Mo_when_50 : decode (yB Y_Mo_when) 50 = .ok (.invokevirtual 463, 3) := by decide +kernel
theorem d_Mo_when_53 : decode (yB Y_Mo_when) 53 = .ok (.iinc 3 1, 3) := by decide +kernel
theorem d_Mo_when_56 : decode (yB Y_Mo_when) 56 = .ok (.goto (-22), 3) := by decide +kernel
theorem d_Mo_when_59 : decode (yB Y_Mo_when) 59 = .ok (.aload_n 0, 1) := by decide +kernel
theorem d_Mo_when_60 : decode (yB Y_Mo_when) 60 = .ok (.bipush 16, 2) := by decide +kernel
theorem d_Mo_when_62 : decode (yB Y_Mo_when) 62 = .ok (.invokevirtual 173, 3) := by decide +kernel
theorem d_Mo_when_65 : decode (yB Y_Mo_when) 65 = .ok (.iload_n 3, 1) := by decide +kernel
theorem d_Mo_when_66 : decode (yB Y_Mo_when) 66 = .ok (.bipush 60, 2) := by decide +kernel
theorem d_Mo_when_68 : decode (yB Y_Mo_when) 68 = .ok (.if_icmp .le 7, 3) := by decide +kernel
theorem d_Mo_when_71 : decode (yB Y_Mo_when) 71 = .ok (.iconst (-1), 1) := by decide +kernel
theorem d_Mo_when_72 : decode (yB Y_Mo_when) 72 = .ok (.goto 4, 3) := by decide +kernel
theorem d_Mo_when_75 : decode (yB Y_Mo_when) 75 = .ok (.iload_n 3, 1) := by decide +kernel
theorem d_Mo_when_76 : decode (yB Y_Mo_when) 76 = .ok (.ireturn, 1) := by decide +kernel
def F_Mo_when_b59 (n : Nat) (E : zE) (S : zS) (a0 : Nat) (x3 : Int32) (M : zH) : Option (Int32 × zH) :=
  (zck S a0 11).bind fun u_1 =>
  (F_Mo_putBack n E S a0 16 M).bind fun q_2 =>
  if x3 ≤ 60 then
    some (x3, q_2)
  else
    some ((-1), q_2)
def F_Mo_when_L34 (n : Nat) (E : zE) (S : zS) (r34 : Nat × Int32 × Int32 × Int32 × zH → Option (Int32 × zH)) (a0 : Nat) (x1 : Int32) (x2 : Int32) (x3 : Int32) (M : zH) : Option (Int32 × zH) :=
  if 61 ≤ x3 then
    F_Mo_when_b59 n E S a0 x3 M
  else
    (zck S a0 11).bind fun u_5 =>
    (F_Mo_flowOn n E S a0 x1 M).bind fun q_6 =>
    if x2 ≤ q_6.1 then
      F_Mo_when_b59 n E S a0 x3 q_6.2
    else
      (F_Mo_turnAll n E S a0 q_6.2).bind fun q_8 =>
      r34 (a0, x1, x2, x3 + 1, q_8)
def F_Mo_when_b34 (n : Nat) (E : zE) (S : zS) : Nat × Int32 × Int32 × Int32 × zH → Option (Int32 × zH) := zfix (fun r34 s => F_Mo_when_L34 n E S r34 s.1 s.2.1 s.2.2.1 s.2.2.2.1 s.2.2.2.2) n
def F_Mo_when (n : Nat) (E : zE) (S : zS) (a0 : Nat) (x1 : Int32) (x2 : Int32) (M : zH) : Option (Int32 × zH) :=
  (zpI S M a0 11 0 0).bind fun m_9 =>
  (F_Mo_isField n E S x1 m_9).bind fun q_10 =>
  if q_10.1 = true then
    (F_Mo_in n E S x2.toInt64 0 400 q_10.2).bind fun q_12 =>
    if q_12.1 = true then
      (zck S a0 11).bind fun u_14 =>
      (F_Mo_keepAll n E S a0 16 q_12.2).bind fun q_15 =>
      F_Mo_when_b34 n E S (a0, x1, x2, 0, q_15)
    else
      some ((-1), q_12.2)
  else
    some ((-1), q_10.2)
theorem K_Mo_when_b59 (n : Nat) (E : zE) (S : zS) (a0 : Nat) (x3 : Int32) (M : zH) (r : Int32) (M' : zH)  (h : F_Mo_when_b59 n E S a0 x3 M = some (r, M')) : zG E Y_Mo_when (some (.int r), S, M') 59 [(0, .ref a0), (3, .int x3)] [] S M 0 0 := by
  unfold F_Mo_when_b59 at h
  refine zi_aload_n 0 d_Mo_when_59 rfl ?_
  refine zi_bipush 16 d_Mo_when_60 rfl ?_
  obtain ⟨u_1, eu_1, h⟩ := zbind h
  obtain ⟨q_2, eq_2, h⟩ := zbind h
  refine zo_virt (k' := 0) (n' := 0) 65 [.int 16] [] [] zkd_11 (zck_s eu_1) (C_Mo_putBack n E S a0 16 M q_2 eq_2) d_Mo_when_62 tw_1412 tw_1409 tw_1411 ts_37 tw_13 dd_Mo_putBack ⟨Nat.le_of_ble_eq_true rfl, Nat.le_of_ble_eq_true rfl, Nat.le_of_ble_eq_true rfl, Nat.le_of_ble_eq_true rfl⟩ (Nat.le_of_ble_eq_true rfl) rfl rfl rfl rfl ?_
  refine zi_iload_n 1 d_Mo_when_65 rfl ?_
  refine zi_bipush 60 d_Mo_when_66 rfl ?_
  refine zi_icmp_le (tgt := 75) d_Mo_when_68 rfl (fun c_3 => ?_) (fun c_3 => ?_)
  · rw [if_pos c_3] at h
    refine zi_iload_n 1 d_Mo_when_75 rfl ?_
    cases h
    exact zo_ret d_Mo_when_76 (Nat.le_of_ble_eq_true rfl) (Nat.le_of_ble_eq_true rfl) rfl
  · rw [if_neg c_3] at h
    refine zi_iconst (-1) d_Mo_when_71 rfl ?_
    refine zi_goto (tgt := 76) d_Mo_when_72 rfl ?_
    cases h
    exact zo_ret d_Mo_when_76 (Nat.le_of_ble_eq_true rfl) (Nat.le_of_ble_eq_true rfl) rfl
theorem K_Mo_when_L34 (n : Nat) (E : zE) (S : zS) (r34 : Nat × Int32 × Int32 × Int32 × zH → Option (Int32 × zH)) (a0 : Nat) (x1 : Int32) (x2 : Int32) (x3 : Int32) (M : zH) (r : Int32) (M' : zH) (hr34 : ∀ (a0 : Nat) (x1 : Int32) (x2 : Int32) (x3 : Int32) (M : zH), r34 (a0, x1, x2, x3, M) = some (r, M') → zG E Y_Mo_when (some (.int r), S, M') 34 [(0, .ref a0), (1, .int x1), (2, .int x2), (3, .int x3)] [] S M 0 0) (h : F_Mo_when_L34 n E S r34 a0 x1 x2 x3 M = some (r, M')) : zG E Y_Mo_when (some (.int r), S, M') 34 [(0, .ref a0), (1, .int x1), (2, .int x2), (3, .int x3)] [] S M 0 0 := by
  unfold F_Mo_when_L34 at h
  refine zi_iload_n 3 d_Mo_when_34 rfl ?_
  refine zi_bipush 61 d_Mo_when_35 rfl ?_
  refine zi_icmp_ge (tgt := 59) d_Mo_when_37 rfl (fun c_4 => ?_) (fun c_4 => ?_)
  · rw [if_pos c_4] at h
    refine zi_lo [(0, .ref a0), (3, .int x3)] [0, 3] rfl ?_
    exact K_Mo_when_b59 n E S a0 x3 M r M'  h
  · rw [if_neg c_4] at h
    refine zi_aload_n 0 d_Mo_when_40 rfl ?_
    refine zi_iload_n 1 d_Mo_when_41 rfl ?_
    obtain ⟨u_5, eu_5, h⟩ := zbind h
    obtain ⟨q_6, eq_6, h⟩ := zbind h
    refine zo_virt (k' := 0) (n' := 0) 45 [.int x1] [] [.int q_6.1] zkd_11 (zck_s eu_5) (C_Mo_flowOn n E S a0 x1 M q_6.1 q_6.2 eq_6) d_Mo_when_42 tw_1523 tw_1520 tw_1522 ts_51 tw_13 dd_Mo_flowOn ⟨Nat.le_of_ble_eq_true rfl, Nat.le_of_ble_eq_true rfl, Nat.le_of_ble_eq_true rfl, Nat.le_of_ble_eq_true rfl⟩ (Nat.le_of_ble_eq_true rfl) rfl rfl rfl rfl ?_
    refine zi_iload_n 2 d_Mo_when_45 rfl ?_
    refine zi_icmp_ge (tgt := 59) d_Mo_when_46 rfl (fun c_7 => ?_) (fun c_7 => ?_)
    · rw [if_pos c_7] at h
      refine zi_lo [(0, .ref a0), (3, .int x3)] [0, 3] rfl ?_
      exact K_Mo_when_b59 n E S a0 x3 q_6.2 r M'  h
    · rw [if_neg c_7] at h
      refine zi_aload_n 0 d_Mo_when_49 rfl ?_
      obtain ⟨q_8, eq_8, h⟩ := zbind h
      refine zo_virt (k' := 0) (n' := 0) 53 [] [] [] zkd_11 (zck_s eu_5) (C_Mo_turnAll n E S a0 q_6.2 q_8 eq_8) d_Mo_when_50 tw_1744 tw_1741 tw_1743 ts_87 tw_13 dd_Mo_turnAll ⟨Nat.le_of_ble_eq_true rfl, Nat.le_of_ble_eq_true rfl, Nat.le_of_ble_eq_true rfl, Nat.le_of_ble_eq_true rfl⟩ (Nat.le_of_ble_eq_true rfl) rfl rfl rfl rfl ?_
      refine zi_iinc 3 (x3 + 1) [(3, .int (x3 + 1)), (0, .ref a0), (1, .int x1), (2, .int x2)] d_Mo_when_53 rfl rfl (by decide) rfl ?_
      refine zi_goto (tgt := 34) d_Mo_when_56 rfl ?_
      refine zi_lo [(0, .ref a0), (1, .int x1), (2, .int x2), (3, .int (x3 + 1))] [1, 2, 3, 0] rfl ?_
      exact hr34 a0 x1 x2 (x3 + 1) q_8 h
theorem K_Mo_when_b34 (n : Nat) (E : zE) (S : zS) (a0 : Nat) (x1 : Int32) (x2 : Int32) (x3 : Int32) (M : zH) (r : Int32) (M' : zH)  (h : F_Mo_when_b34 n E S (a0, x1, x2, x3, M) = some (r, M')) : zG E Y_Mo_when (some (.int r), S, M') 34 [(0, .ref a0), (1, .int x1), (2, .int x2), (3, .int x3)] [] S M 0 0 := by
  have key : ∀ (k : Nat) (a0 : Nat) (x1 : Int32) (x2 : Int32) (x3 : Int32) (M : zH), zfix (fun r34 s => F_Mo_when_L34 n E S r34 s.1 s.2.1 s.2.2.1 s.2.2.2.1 s.2.2.2.2) k (a0, x1, x2, x3, M) = some (r, M') → zG E Y_Mo_when (some (.int r), S, M') 34 [(0, .ref a0), (1, .int x1), (2, .int x2), (3, .int x3)] [] S M 0 0 := by
    intro k
    induction k with
    | zero => intro a0 x1 x2 x3 M h; cases h
    | succ k ih => intro a0 x1 x2 x3 M h; exact K_Mo_when_L34 n E S _ a0 x1 x2 x3 M r M'  (fun a0 x1 x2 x3 M h => ih a0 x1 x2 x3 M h) h
  exact key n a0 x1 x2 x3 M h
theorem K_Mo_when (n : Nat) (E : zE) (S : zS) (a0 : Nat) (x1 : Int32) (x2 : Int32) (M : zH) (r : Int32) (M' : zH)  (h : F_Mo_when n E S a0 x1 x2 M = some (r, M')) : zG E Y_Mo_when (some (.int r), S, M') 0 [(0, .ref a0), (1, .int x1), (2, .int x2)] [] S M 0 0 := by
  unfold F_Mo_when at h
  refine zi_aload_n 0 d_Mo_when_0 rfl ?_
  refine zi_iconst 0 d_Mo_when_1 rfl ?_
  obtain ⟨m_9, em_9, h⟩ := zbind h
  refine zo_putI 5 zkd_11 0 d_Mo_when_2 em_9 rfl rfl rfl tw_1229 rfl ?_
  refine zi_iload_n 1 d_Mo_when_5 rfl ?_
  obtain ⟨q_10, eq_10, h⟩ := zbind h
  refine zo_stat (k' := 0) (n' := 0) 9 [.int x1] [] [.int (bI q_10.1)] (C_Mo_isField n E S x1 m_9 q_10.1 q_10.2 eq_10) d_Mo_when_6 tw_1438 tw_1436 tw_1437 tw_13 dd_Mo_isField ⟨Nat.le_of_ble_eq_true rfl, Nat.le_of_ble_eq_true rfl, Nat.le_of_ble_eq_true rfl, Nat.le_of_ble_eq_true rfl⟩ (Nat.le_of_ble_eq_true rfl) rfl rfl rfl rfl ?_
  refine zo_ifeqB d_Mo_when_9 rfl 12 rfl (fun c_11 => ?_) (fun c_11 => ?_)
  · rw [if_neg c_11] at h
    refine zi_iconst (-1) d_Mo_when_24 rfl ?_
    cases h
    exact zo_ret d_Mo_when_25 (Nat.le_of_ble_eq_true rfl) (Nat.le_of_ble_eq_true rfl) rfl
  · rw [if_pos c_11] at h
    refine zi_iload_n 2 d_Mo_when_12 rfl ?_
    refine zi_i2l d_Mo_when_13 ?_
    refine zi_lconst 0 d_Mo_when_14 rfl ?_
    refine zi_ldc2 d_Mo_when_15 tw_1515 ?_
    obtain ⟨q_12, eq_12, h⟩ := zbind h
    refine zo_stat (k' := 0) (n' := 0) 21 [.long x2.toInt64, .long 0, .long 400] [] [.int (bI q_12.1)] (C_Mo_in n E S x2.toInt64 0 400 q_10.2 q_12.1 q_12.2 eq_12) d_Mo_when_18 tw_1419 tw_1417 tw_1418 tw_13 dd_Mo_in ⟨Nat.le_of_ble_eq_true rfl, Nat.le_of_ble_eq_true rfl, Nat.le_of_ble_eq_true rfl, Nat.le_of_ble_eq_true rfl⟩ (Nat.le_of_ble_eq_true rfl) rfl rfl rfl rfl ?_
    refine zo_ifneB d_Mo_when_21 rfl 24 rfl (fun c_13 => ?_) (fun c_13 => ?_)
    · rw [if_pos c_13] at h
      refine zi_aload_n 0 d_Mo_when_26 rfl ?_
      refine zi_bipush 16 d_Mo_when_27 rfl ?_
      obtain ⟨u_14, eu_14, h⟩ := zbind h
      obtain ⟨q_15, eq_15, h⟩ := zbind h
      refine zo_virt (k' := 0) (n' := 0) 32 [.int 16] [] [] zkd_11 (zck_s eu_14) (C_Mo_keepAll n E S a0 16 q_12.2 q_15 eq_15) d_Mo_when_29 tw_1704 tw_1701 tw_1703 ts_80 tw_13 dd_Mo_keepAll ⟨Nat.le_of_ble_eq_true rfl, Nat.le_of_ble_eq_true rfl, Nat.le_of_ble_eq_true rfl, Nat.le_of_ble_eq_true rfl⟩ (Nat.le_of_ble_eq_true rfl) rfl rfl rfl rfl ?_
      refine zi_iconst 0 d_Mo_when_32 rfl ?_
      refine zi_istore_n [(3, .int 0), (0, .ref a0), (1, .int x1), (2, .int x2)] d_Mo_when_33 (by decide) rfl ?_
      refine zi_lo [(0, .ref a0), (1, .int x1), (2, .int x2), (3, .int 0)] [1, 2, 3, 0] rfl ?_
      exact K_Mo_when_b34 n E S a0 x1 x2 0 q_15 r M'  h
    · rw [if_neg c_13] at h
      refine zi_iconst (-1) d_Mo_when_24 rfl ?_
      cases h
      exact zo_ret d_Mo_when_25 (Nat.le_of_ble_eq_true rfl) (Nat.le_of_ble_eq_true rfl) rfl
theorem C_Mo_when (n : Nat) (E : zE) (S : zS) (a0 : Nat) (x1 : Int32) (x2 : Int32) (M : zH) (r : Int32) (M' : zH) (h : F_Mo_when n E S a0 x1 x2 M = some (r, M')) : zC E Y_Mo_when [.ref a0, .int x1, .int x2] S M (some (.int r), S, M') :=
  zC.of (Or.inl (show plainName "NightColanderModel" = true by decide)) (Nat.le_of_ble_eq_true rfl) (trivial) (K_Mo_when n E S a0 x1 x2 M r M' h)
theorem d_Mo_isNew_0 : decode (yB Y_Mo_isNew) 0 = .ok (.aload_n 0, 1) := by decide +kernel
theorem d_Mo_isNew_1 : decode (yB Y_Mo_isNew) 1 = .ok (.getfield 115, 3) := by decide +kernel
theorem d_Mo_isNew_4 : decode (yB Y_Mo_isNew) 4 = .ok (.bipush 8, 2) := by decide +kernel
theorem d_Mo_isNew_6 : decode (yB Y_Mo_isNew) 6 = .ok (.iload_n 1, 1) := by decide +kernel
theorem d_Mo_isNew_7 : decode (yB Y_Mo_isNew) 7 = .ok (.imul, 1) := by decide +kernel
theorem d_Mo_isNew_8 : decode (yB Y_Mo_isNew) 8 = .ok (.aload_n 0, 1) := by decide +kernel
theorem d_Mo_isNew_9 : decode (yB Y_Mo_isNew) 9 = .ok (.getfield 118, 3) := by decide +kernel
theorem d_Mo_isNew_12 : decode (yB Y_Mo_isNew) 12 = .ok (.iload_n 1, 1) := by decide +kernel
theorem d_Mo_isNew_13 : decode (yB Y_Mo_isNew) 13 = .ok (.iaload, 1) := by decide +kernel
theorem d_Mo_isNew_14 : decode (yB Y_Mo_isNew) 14 = .ok (.iadd, 1) := by decide +kernel
theorem d_Mo_isNew_15 : decode (yB Y_Mo_isNew) 15 = .ok (.iaload, 1) := by decide +kernel
theorem d_Mo_isNew_16 : decode (yB Y_Mo_isNew) 16 = .ok (.iconst (-1), 1) := by decide +kernel
theorem d_Mo_isNew_17 : decode (yB Y_Mo_isNew) 17 = .ok (.if_icmp .eq 7, 3) := by decide +kernel
theorem d_Mo_isNew_20 : decode (yB Y_Mo_isNew) 20 = .ok (.iconst 1, 1) := by decide +kernel
theorem d_Mo_isNew_21 : decode (yB Y_Mo_isNew) 21 = .ok (.goto 4, 3) := by decide +kernel
theorem d_Mo_isNew_24 : decode (yB Y_Mo_isNew) 24 = .ok (.iconst 0, 1) := by decide +kernel
theorem d_Mo_isNew_25 : decode (yB Y_Mo_isNew) 25 = .ok (.istore_n 2, 1) := by decide +kernel
theorem d_Mo_isNew_26 : decode (yB Y_Mo_isNew) 26 = .ok (.iconst 0, 1) := by decide +kernel
theorem d_Mo_isNew_27 : decode (yB Y_Mo_isNew) 27 = .ok (.istore_n 3, 1) := by decide +kernel
theorem d_Mo_isNew_28 : decode (yB Y_Mo_isNew) 28 = .ok (.iload_n 3, 1) := by decide +kernel
theorem d_Mo_isNew_29 : decode (yB Y_Mo_isNew) 29 = .ok (.iload_n 1, 1) := by decide +kernel
theorem d_Mo_isNew_30 : decode (yB Y_Mo_isNew) 30 = .ok (.if_icmp .ge 34, 3) := by decide +kernel
theorem d_Mo_isNew_33 : decode (yB Y_Mo_isNew) 33 = .ok (.iload_n 2, 1) := by decide +kernel
theorem d_Mo_isNew_34 : decode (yB Y_Mo_isNew) 34 = .ok (.ifCond .eq 22, 3) := by decide +kernel
theorem d_Mo_isNew_37 : decode (yB Y_Mo_isNew) 37 = .ok (.aload_n 0, 1) := by decide +kernel
theorem d_Mo_isNew_38 : decode (yB Y_Mo_isNew) 38 = .ok (.getfield 118, 3) := by decide +kernel
theorem d_Mo_isNew_41 : decode (yB Y_Mo_isNew) 41 = .ok (.iload_n 3, 1) := by decide +kernel
theorem d_Mo_isNew_42 : decode (yB Y_Mo_isNew) 42 = .ok (.iaload, 1) := by decide +kernel
theorem d_Mo_isNew_43 : decode (yB Y_Mo_isNew) 43 = .ok (.aload_n 0, 1) := by decide +kernel
theorem d_Mo_isNew_44 : decode (yB Y_Mo_isNew) 44 = .ok (.getfield 118, 3) := by decide +kernel
theorem d_Mo_isNew_47 : decode (yB Y_Mo_isNew) 47 = .ok (.iload_n 1, 1) := by decide +kernel
theorem d_Mo_isNew_48 : decode (yB Y_Mo_isNew) 48 = .ok (.iaload, 1) := by decide +kernel
theorem d_Mo_isNew_49 : decode (yB Y_Mo_isNew) 49 = .ok (.if_icmp .eq 7, 3) := by decide +kernel
theorem d_Mo_isNew_52 : decode (yB Y_Mo_isNew) 52 = .ok (.iconst 1, 1) := by decide +kernel
theorem d_Mo_isNew_53 : decode (yB Y_Mo_isNew) 53 = .ok (.goto 4, 3) := by decide +kernel
theorem d_Mo_isNew_56 : decode (yB Y_Mo_isNew) 56 = .ok (.iconst 0, 1) := by decide +kernel
theorem d_Mo_isNew_57 : decode (yB Y_Mo_isNew) 57 = .ok (.istore_n 2, 1) := by decide +kernel
theorem d_Mo_isNew_58 : decode (yB Y_Mo_isNew) 58 = .ok (.iinc 3 1, 3) := by decide +kernel
theorem d_Mo_isNew_61 : decode (yB Y_Mo_isNew) 61 = .ok (.goto (-33), 3) := by decide +kernel
theorem d_Mo_isNew_64 : decode (yB Y_Mo_isNew) 64 = .ok (.iload_n 2, 1) := by decide +kernel
theorem d_Mo_isNew_65 : decode (yB Y_Mo_isNew) 65 = .ok (.ireturn, 1) := by decide +kernel
def F_Mo_isNew_b57 (n : Nat) (E : zE) (S : zS) (r28 : Nat × Int32 × Int32 × Int32 × zH → Option (Bool × zH)) (a0 : Nat) (x1 : Int32) (x3 : Int32) (s0 : Int32) (M : zH) : Option (Bool × zH) :=
  r28 (a0, x1, s0, x3 + 1, M)
def F_Mo_isNew_b56 (n : Nat) (E : zE) (S : zS) (r28 : Nat × Int32 × Int32 × Int32 × zH → Option (Bool × zH)) (a0 : Nat) (x1 : Int32) (x3 : Int32) (M : zH) : Option (Bool × zH) :=
  F_Mo_isNew_b57 n E S r28 a0 x1 x3 0 M
def F_Mo_isNew_L28 (n : Nat) (E : zE) (S : zS) (r28 : Nat × Int32 × Int32 × Int32 × zH → Option (Bool × zH)) (a0 : Nat) (x1 : Int32) (x2 : Int32) (x3 : Int32) (M : zH) : Option (Bool × zH) :=
  if x1 ≤ x3 then
    (zbl x2).bind fun z_2 =>
    some (z_2, M)
  else
    if x2 = 0 then
      F_Mo_isNew_b56 n E S r28 a0 x1 x3 M
    else
      (zgR S a0 11 43).bind fun b_4 =>
      (zldI S M b_4 x3).bind fun v_5 =>
      (zldI S M b_4 x1).bind fun v_6 =>
      if v_5 = v_6 then
        F_Mo_isNew_b56 n E S r28 a0 x1 x3 M
      else
        F_Mo_isNew_b57 n E S r28 a0 x1 x3 1 M
def F_Mo_isNew_b28 (n : Nat) (E : zE) (S : zS) : Nat × Int32 × Int32 × Int32 × zH → Option (Bool × zH) := zfix (fun r28 s => F_Mo_isNew_L28 n E S r28 s.1 s.2.1 s.2.2.1 s.2.2.2.1 s.2.2.2.2) n
def F_Mo_isNew_b25 (n : Nat) (E : zE) (S : zS) (a0 : Nat) (x1 : Int32) (s0 : Int32) (M : zH) : Option (Bool × zH) :=
  F_Mo_isNew_b28 n E S (a0, x1, s0, 0, M)
def F_Mo_isNew (n : Nat) (E : zE) (S : zS) (a0 : Nat) (x1 : Int32) (M : zH) : Option (Bool × zH) :=
  (zgR S a0 11 42).bind fun b_8 =>
  (zgR S a0 11 43).bind fun b_9 =>
  (zldI S M b_9 x1).bind fun v_10 =>
  (zldI S M b_8 ((8 * x1) + v_10)).bind fun v_11 =>
  if v_11 = (-1) then
    F_Mo_isNew_b25 n E S a0 x1 0 M
  else
    F_Mo_isNew_b25 n E S a0 x1 1 M
theorem K_Mo_isNew_b57 (n : Nat) (E : zE) (S : zS) (r28 : Nat × Int32 × Int32 × Int32 × zH → Option (Bool × zH)) (a0 : Nat) (x1 : Int32) (x3 : Int32) (s0 : Int32) (M : zH) (r : Bool) (M' : zH) (hr28 : ∀ (a0 : Nat) (x1 : Int32) (x2 : Int32) (x3 : Int32) (M : zH), r28 (a0, x1, x2, x3, M) = some (r, M') → zG E Y_Mo_isNew (some (.int (bI r)), S, M') 28 [(0, .ref a0), (1, .int x1), (2, .int x2), (3, .int x3)] [] S M 0 0) (h : F_Mo_isNew_b57 n E S r28 a0 x1 x3 s0 M = some (r, M')) : zG E Y_Mo_isNew (some (.int (bI r)), S, M') 57 [(0, .ref a0), (1, .int x1), (3, .int x3)] [.int s0] S M 0 0 := by
  unfold F_Mo_isNew_b57 at h
  refine zi_istore_n [(2, .int s0), (0, .ref a0), (1, .int x1), (3, .int x3)] d_Mo_isNew_57 (by decide) rfl ?_
  refine zi_iinc 3 (x3 + 1) [(3, .int (x3 + 1)), (2, .int s0), (0, .ref a0), (1, .int x1)] d_Mo_isNew_58 rfl rfl (by decide) rfl ?_
  refine zi_goto (tgt := 28) d_Mo_isNew_61 rfl ?_
  refine zi_lo [(0, .ref a0), (1, .int x1), (2, .int s0), (3, .int (x3 + 1))] [2, 3, 1, 0] rfl ?_
  exact hr28 a0 x1 s0 (x3 + 1) M h
theorem K_Mo_isNew_b56 (n : Nat) (E : zE) (S : zS) (r28 : Nat × Int32 × Int32 × Int32 × zH → Option (Bool × zH)) (a0 : Nat) (x1 : Int32) (x3 : Int32) (M : zH) (r : Bool) (M' : zH) (hr28 : ∀ (a0 : Nat) (x1 : Int32) (x2 : Int32) (x3 : Int32) (M : zH), r28 (a0, x1, x2, x3, M) = some (r, M') → zG E Y_Mo_isNew (some (.int (bI r)), S, M') 28 [(0, .ref a0), (1, .int x1), (2, .int x2), (3, .int x3)] [] S M 0 0) (h : F_Mo_isNew_b56 n E S r28 a0 x1 x3 M = some (r, M')) : zG E Y_Mo_isNew (some (.int (bI r)), S, M') 56 [(0, .ref a0), (1, .int x1), (3, .int x3)] [] S M 0 0 := by
  unfold F_Mo_isNew_b56 at h
  refine zi_iconst 0 d_Mo_isNew_56 rfl ?_
  refine zi_lo [(0, .ref a0), (1, .int x1), (3, .int x3)] [0, 1, 2] rfl ?_
  exact K_Mo_isNew_b57 n E S r28 a0 x1 x3 0 M r M' hr28 h
theorem K_Mo_isNew_L28 (n : Nat) (E : zE) (S : zS) (r28 : Nat × Int32 × Int32 × Int32 × zH → Option (Bool × zH)) (a0 : Nat) (x1 : Int32) (x2 : Int32) (x3 : Int32) (M : zH) (r : Bool) (M' : zH) (hr28 : ∀ (a0 : Nat) (x1 : Int32) (x2 : Int32) (x3 : Int32) (M : zH), r28 (a0, x1, x2, x3, M) = some (r, M') → zG E Y_Mo_isNew (some (.int (bI r)), S, M') 28 [(0, .ref a0), (1, .int x1), (2, .int x2), (3, .int x3)] [] S M 0 0) (h : F_Mo_isNew_L28 n E S r28 a0 x1 x2 x3 M = some (r, M')) : zG E Y_Mo_isNew (some (.int (bI r)), S, M') 28 [(0, .ref a0), (1, .int x1), (2, .int x2), (3, .int x3)] [] S M 0 0 := by
  unfold F_Mo_isNew_L28 at h
  refine zi_iload_n 3 d_Mo_isNew_28 rfl ?_
  refine zi_iload_n 1 d_Mo_isNew_29 rfl ?_
  refine zi_icmp_ge (tgt := 64) d_Mo_isNew_30 rfl (fun c_1 => ?_) (fun c_1 => ?_)
  · rw [if_pos c_1] at h
    refine zi_iload_n 2 d_Mo_isNew_64 rfl ?_
    obtain ⟨z_2, ez_2, h⟩ := zbind h
    cases h
    exact zo_retB d_Mo_isNew_65 (Nat.le_of_ble_eq_true rfl) (Nat.le_of_ble_eq_true rfl) (zbl_s ez_2)
  · rw [if_neg c_1] at h
    refine zi_iload_n 2 d_Mo_isNew_33 rfl ?_
    refine zi_if_eq (tgt := 56) d_Mo_isNew_34 rfl (fun c_3 => ?_) (fun c_3 => ?_)
    · rw [if_pos c_3] at h
      refine zi_lo [(0, .ref a0), (1, .int x1), (3, .int x3)] [0, 1, 3] rfl ?_
      exact K_Mo_isNew_b56 n E S r28 a0 x1 x3 M r M' hr28 h
    · rw [if_neg c_3] at h
      refine zi_aload_n 0 d_Mo_isNew_37 rfl ?_
      obtain ⟨b_4, eb_4, h⟩ := zbind h
      refine zo_getR 41 zkd_11 43 d_Mo_isNew_38 eb_4 rfl tw_1272 rfl ?_
      refine zi_iload_n 3 d_Mo_isNew_41 rfl ?_
      obtain ⟨v_5, ev_5, h⟩ := zbind h
      refine zo_iald 43 d_Mo_isNew_42 ev_5 rfl ?_
      refine zi_aload_n 0 d_Mo_isNew_43 rfl ?_
      refine zo_getR 47 zkd_11 43 d_Mo_isNew_44 eb_4 rfl tw_1272 rfl ?_
      refine zi_iload_n 1 d_Mo_isNew_47 rfl ?_
      obtain ⟨v_6, ev_6, h⟩ := zbind h
      refine zo_iald 49 d_Mo_isNew_48 ev_6 rfl ?_
      refine zi_icmp_eq (tgt := 56) d_Mo_isNew_49 rfl (fun c_7 => ?_) (fun c_7 => ?_)
      · rw [if_pos c_7] at h
        refine zi_lo [(0, .ref a0), (1, .int x1), (3, .int x3)] [0, 1, 3] rfl ?_
        exact K_Mo_isNew_b56 n E S r28 a0 x1 x3 M r M' hr28 h
      · rw [if_neg c_7] at h
        refine zi_iconst 1 d_Mo_isNew_52 rfl ?_
        refine zi_goto (tgt := 57) d_Mo_isNew_53 rfl ?_
        refine zi_lo [(0, .ref a0), (1, .int x1), (3, .int x3)] [0, 1, 3] rfl ?_
        exact K_Mo_isNew_b57 n E S r28 a0 x1 x3 1 M r M' hr28 h
theorem K_Mo_isNew_b28 (n : Nat) (E : zE) (S : zS) (a0 : Nat) (x1 : Int32) (x2 : Int32) (x3 : Int32) (M : zH) (r : Bool) (M' : zH)  (h : F_Mo_isNew_b28 n E S (a0, x1, x2, x3, M) = some (r, M')) : zG E Y_Mo_isNew (some (.int (bI r)), S, M') 28 [(0, .ref a0), (1, .int x1), (2, .int x2), (3, .int x3)] [] S M 0 0 := by
  have key : ∀ (k : Nat) (a0 : Nat) (x1 : Int32) (x2 : Int32) (x3 : Int32) (M : zH), zfix (fun r28 s => F_Mo_isNew_L28 n E S r28 s.1 s.2.1 s.2.2.1 s.2.2.2.1 s.2.2.2.2) k (a0, x1, x2, x3, M) = some (r, M') → zG E Y_Mo_isNew (some (.int (bI r)), S, M') 28 [(0, .ref a0), (1, .int x1), (2, .int x2), (3, .int x3)] [] S M 0 0 := by
    intro k
    induction k with
    | zero => intro a0 x1 x2 x3 M h; cases h
    | succ k ih => intro a0 x1 x2 x3 M h; exact K_Mo_isNew_L28 n E S _ a0 x1 x2 x3 M r M'  (fun a0 x1 x2 x3 M h => ih a0 x1 x2 x3 M h) h
  exact key n a0 x1 x2 x3 M h
theorem K_Mo_isNew_b25 (n : Nat) (E : zE) (S : zS) (a0 : Nat) (x1 : Int32) (s0 : Int32) (M : zH) (r : Bool) (M' : zH)  (h : F_Mo_isNew_b25 n E S a0 x1 s0 M = some (r, M')) : zG E Y_Mo_isNew (some (.int (bI r)), S, M') 25 [(0, .ref a0), (1, .int x1)] [.int s0] S M 0 0 := by
  unfold F_Mo_isNew_b25 at h
  refine zi_istore_n [(2, .int s0), (0, .ref a0), (1, .int x1)] d_Mo_isNew_25 (by decide) rfl ?_
  refine zi_iconst 0 d_Mo_isNew_26 rfl ?_
  refine zi_istore_n [(3, .int 0), (2, .int s0), (0, .ref a0), (1, .int x1)] d_Mo_isNew_27 (by decide) rfl ?_
  refine zi_lo [(0, .ref a0), (1, .int x1), (2, .int s0), (3, .int 0)] [2, 3, 1, 0] rfl ?_
  exact K_Mo_isNew_b28 n E S a0 x1 s0 0 M r M'  h
theorem K_Mo_isNew (n : Nat) (E : zE) (S : zS) (a0 : Nat) (x1 : Int32) (M : zH) (r : Bool) (M' : zH)  (h : F_Mo_isNew n E S a0 x1 M = some (r, M')) : zG E Y_Mo_isNew (some (.int (bI r)), S, M') 0 [(0, .ref a0), (1, .int x1)] [] S M 0 0 := by
  unfold F_Mo_isNew at h
  refine zi_aload_n 0 d_Mo_isNew_0 rfl ?_
  obtain ⟨b_8, eb_8, h⟩ := zbind h
  refine zo_getR 4 zkd_11 42 d_Mo_isNew_1 eb_8 rfl tw_1271 rfl ?_
  refine zi_bipush 8 d_Mo_isNew_4 rfl ?_
  refine zi_iload_n 1 d_Mo_isNew_6 rfl ?_
  refine zi_imul d_Mo_isNew_7 ?_
  refine zi_aload_n 0 d_Mo_isNew_8 rfl ?_
  obtain ⟨b_9, eb_9, h⟩ := zbind h
  refine zo_getR 12 zkd_11 43 d_Mo_isNew_9 eb_9 rfl tw_1272 rfl ?_
  refine zi_iload_n 1 d_Mo_isNew_12 rfl ?_
  obtain ⟨v_10, ev_10, h⟩ := zbind h
  refine zo_iald 14 d_Mo_isNew_13 ev_10 rfl ?_
  refine zi_iadd d_Mo_isNew_14 ?_
  obtain ⟨v_11, ev_11, h⟩ := zbind h
  refine zo_iald 16 d_Mo_isNew_15 ev_11 rfl ?_
  refine zi_iconst (-1) d_Mo_isNew_16 rfl ?_
  refine zi_icmp_eq (tgt := 24) d_Mo_isNew_17 rfl (fun c_12 => ?_) (fun c_12 => ?_)
  · rw [if_pos c_12] at h
    refine zi_iconst 0 d_Mo_isNew_24 rfl ?_
    refine zi_lo [(0, .ref a0), (1, .int x1)] [0, 1] rfl ?_
    exact K_Mo_isNew_b25 n E S a0 x1 0 M r M'  h
  · rw [if_neg c_12] at h
    refine zi_iconst 1 d_Mo_isNew_20 rfl ?_
    refine zi_goto (tgt := 25) d_Mo_isNew_21 rfl ?_
    refine zi_lo [(0, .ref a0), (1, .int x1)] [0, 1] rfl ?_
    exact K_Mo_isNew_b25 n E S a0 x1 1 M r M'  h
theorem C_Mo_isNew (n : Nat) (E : zE) (S : zS) (a0 : Nat) (x1 : Int32) (M : zH) (r : Bool) (M' : zH) (h : F_Mo_isNew n E S a0 x1 M = some (r, M')) : zC E Y_Mo_isNew [.ref a0, .int x1] S M (some (.int (bI r)), S, M') :=
  zC.of (Or.inl (show plainName "NightColanderModel" = true by decide)) (Nat.le_of_ble_eq_true rfl) (bI_nar r) (K_Mo_isNew n E S a0 x1 M r M' h)
theorem d_Mo_findPlaced_0 : decode (yB Y_Mo_findPlaced) 0 = .ok (.aload_n 0, 1) := by decide +kernel
theorem d_Mo_findPlaced_1 : decode (yB Y_Mo_findPlaced) 1 = .ok (.getfield 13, 3) := by decide +kernel
theorem d_Mo_findPlaced_4 : decode (yB Y_Mo_findPlaced) 4 = .ok (.iconst 0, 1) := by decide +kernel
theorem d_Mo_findPlaced_5 : decode (yB Y_Mo_findPlaced) 5 = .ok (.iaload, 1) := by decide +kernel
theorem d_Mo_findPlaced_6 : decode (yB Y_Mo_findPlaced) 6 = .ok (.istore_n 1, 1) := by decide +kernel
theorem d_Mo_findPlaced_7 : decode (yB Y_Mo_findPlaced) 7 = .ok (.iconst (-1), 1) := by decide +kernel
theorem d_Mo_findPlaced_8 : decode (yB Y_Mo_findPlaced) 8 = .ok (.istore_n 2, 1) := by decide +kernel
theorem d_Mo_findPlaced_9 : decode (yB Y_Mo_findPlaced) 9 = .ok (.iconst 0, 1) := by decide +kernel
theorem d_Mo_findPlaced_10 : decode (yB Y_Mo_findPlaced) 10 = .ok (.istore_n 3, 1) := by decide +kernel
theorem d_Mo_findPlaced_11 : decode (yB Y_Mo_findPlaced) 11 = .ok (.aload_n 0, 1) := by decide +kernel
theorem d_Mo_findPlaced_12 : decode (yB Y_Mo_findPlaced) 12 = .ok (.getfield 118, 3) := by decide +kernel
theorem d_Mo_findPlaced_15 : decode (yB Y_Mo_findPlaced) 15 = .ok (.iconst 0, 1) := by decide +kernel
theorem d_Mo_findPlaced_16 : decode (yB Y_Mo_findPlaced) 16 = .ok (.iconst (-1), 1) := by decide +kernel
theorem d_Mo_findPlaced_17 : decode (yB Y_Mo_findPlaced) 17 = .ok (.iastore, 1) := by decide +kernel
theorem d_Mo_findPlaced_18 : decode (yB Y_Mo_findPlaced) 18 = .ok (.iload_n 3, 1) := by decide +kernel
theorem d_Mo_findPlaced_19 : decode (yB Y_Mo_findPlaced) 19 = .ok (.ifCond .lt 166, 3) := by decide +kernel
theorem d_Mo_findPlaced_22 : decode (yB Y_Mo_findPlaced) 22 = .ok (.aload_n 0, 1) := by decide +kernel
theorem d_Mo_findPlaced_23 : decode (yB Y_Mo_findPlaced) 23 = .ok (.getfield 118, 3) := by decide +kernel
theorem d_Mo_findPlaced_26 : decode (yB Y_Mo_findPlaced) 26 = .ok (.iload_n 3, 1) := by decide +kernel
theorem d_Mo_findPlaced_27 : decode (yB Y_Mo_findPlaced) 27 = .ok (.dup2, 1) := by decide +kernel
theorem d_Mo_findPlaced_28 : decode (yB Y_Mo_findPlaced) 28 = .ok (.iaload, 1) := by decide +kernel
theorem d_Mo_findPlaced_29 : decode (yB Y_Mo_findPlaced) 29 = .ok (.iconst 1, 1) := by decide +kernel
theorem d_Mo_findPlaced_30 : decode (yB Y_Mo_findPlaced) 30 = .ok (.iadd, 1) := by decide +kernel
theorem d_Mo_findPlaced_31 : decode (yB Y_Mo_findPlaced) 31 = .ok (.iastore, 1) := by decide +kernel
theorem d_Mo_findPlaced_32 : decode (yB Y_Mo_findPlaced) 32 = .ok (.iload_n 3, 1) := by decide +kernel
theorem d_Mo_findPlaced_33 : decode (yB Y_Mo_findPlaced) 33 = .ok (.iload_n 1, 1) := by decide +kernel
theorem d_Mo_findPlaced_34 : decode (yB Y_Mo_findPlaced) 34 = .ok (.if_icmp .eq 14, 3) := by decide +kernel
theorem d_Mo_findPlaced_37 : decode (yB Y_Mo_findPlaced) 37 = .ok (.aload_n 0, 1) := by decide +kernel
theorem d_Mo_findPlaced_38 : decode (yB Y_Mo_findPlaced) 38 = .ok (.getfield 118, 3) := by decide +kernel
theorem d_Mo_findPlaced_41 : decode (yB Y_Mo_findPlaced) 41 = .ok (.iload_n 3, 1) := by decide +kernel
theorem d_Mo_findPlaced_42 : decode (yB Y_Mo_findPlaced) 42 = .ok (.iaload, 1) := by decide +kernel
theorem d_Mo_findPlaced_43 : decode (yB Y_Mo_findPlaced) 43 = .ok (.bipush 8, 2) := by decide +kernel
theorem d_Mo_findPlaced_45 : decode (yB Y_Mo_findPlaced) 45 = .ok (.if_icmp .lt 119, 3) := by decide +kernel
theorem d_Mo_findPlaced_48 : decode (yB Y_Mo_findPlaced) 48 = .ok (.iconst 0, 1) := by decide +kernel
theorem d_Mo_findPlaced_49 : decode (yB Y_Mo_findPlaced) 49 = .ok (.istore 4, 2) := by decide +kernel
theorem d_Mo_findPlaced_51 : decode (yB Y_Mo_findPlaced) 51 = .ok (.iconst 0, 1) := by decide +kernel
theorem d_Mo_findPlaced_52 : decode (yB Y_Mo_findPlaced) 52 = .ok (.istore 5, 2) := by decide +kernel
theorem d_Mo_findPlaced_54 : decode (yB Y_Mo_findPlaced) 54 = .ok (.iload 5, 2) := by decide +kernel
theorem d_Mo_findPlaced_56 : decode (yB Y_Mo_findPlaced) 56 = .ok (.iload_n 1, 1) := by decide +kernel
theorem d_Mo_findPlaced_57 : decode (yB Y_Mo_findPlaced) 57 = .ok (.if_icmp .ge 37, 3) := by decide +kernel
theorem d_Mo_findPlaced_60 : decode (yB Y_Mo_findPlaced) 60 = .ok (.iload_n 3, 1) := by decide +kernel
theorem d_Mo_findPlaced_61 : decode (yB Y_Mo_findPlaced) 61 = .ok (.iload_n 1, 1) := by decide +kernel
theorem d_Mo_findPlaced_62 : decode (yB Y_Mo_findPlaced) 62 = .ok (.if_icmp .ne 32, 3) := by decide +kernel
theorem d_Mo_findPlaced_65 : decode (yB Y_Mo_findPlaced) 65 = .ok (.iload 4, 2) := by decide +kernel
theorem d_Mo_findPlaced_67 : decode (yB Y_Mo_findPlaced) 67 = .ok (.aload_n 0, 1) := by decide +kernel
theorem d_Mo_findPlaced_68 : decode (yB Y_Mo_findPlaced) 68 = .ok (.getfield 115, 3) := by decide +kernel
theorem d_Mo_findPlaced_71 : decode (yB Y_Mo_findPlaced) 71 = .ok (.bipush 8, 2) := by decide +kernel
theorem d_Mo_findPlaced_73 : decode (yB Y_Mo_findPlaced) 73 = .ok (.iload 5, 2) := by decide +kernel
theorem d_Mo_findPlaced_75 : decode (yB Y_Mo_findPlaced) 75 = .ok (.imul, 1) := by decide +kernel
theorem d_Mo_findPlaced_76 : decode (yB Y_Mo_findPlaced) 76 = .ok (.aload_n 0, 1) := by decide +kernel
theorem d_Mo_findPlaced_77 : decode (yB Y_Mo_findPlaced) 77 = .ok (.getfield 118, 3) := by decide +kernel
theorem d_Mo_findPlaced_80 : decode (yB Y_Mo_findPlaced) 80 = .ok (.iload 5, 2) := by decide +kernel
theorem d_Mo_findPlaced_82 : decode (yB Y_Mo_findPlaced) 82 = .ok (.iaload, 1) := by decide +kernel
theorem d_Mo_findPlaced_83 : decode (yB Y_Mo_findPlaced) 83 = .ok (.iadd, 1) := by decide +kernel
theorem d_Mo_findPlaced_84 : decode (yB Y_Mo_findPlaced) 84 = .ok (.iaload, 1) := by decide +kernel
theorem d_Mo_findPlaced_85 : decode (yB Y_Mo_findPlaced) 85 = .ok (.iadd, 1) := by decide +kernel
theorem d_Mo_findPlaced_86 : decode (yB Y_Mo_findPlaced) 86 = .ok (.istore 4, 2) := by decide +kernel
theorem d_Mo_findPlaced_88 : decode (yB Y_Mo_findPlaced) 88 = .ok (.iinc 5 1, 3) := by decide +kernel
theorem d_Mo_findPlaced_91 : decode (yB Y_Mo_findPlaced) 91 = .ok (.goto (-37), 3) := by decide +kernel
theorem d_Mo_findPlaced_94 : decode (yB Y_Mo_findPlaced) 94 = .ok (.iload_n 3, 1) := by decide +kernel
theorem d_Mo_findPlaced_95 : decode (yB Y_Mo_findPlaced) 95 = .ok (.iload_n 1, 1) := by decide +kernel
theorem d_Mo_findPlaced_96 : decode (yB Y_Mo_findPlaced) 96 = .ok (.if_icmp .ne 13, 3) := by decide +kernel
theorem d_Mo_findPlaced_99 : decode (yB Y_Mo_findPlaced) 99 = .ok (.iload 4, 2) := by decide +kernel
theorem d_Mo_findPlaced_101 : decode (yB Y_Mo_findPlaced) 101 = .ok (.iload_n 2, 1) := by decide +kernel
theorem d_Mo_findPlaced_102 : decode (yB Y_Mo_findPlaced) 102 = .ok (.if_icmp .le 7, 3) := by decide +kernel
theorem d_Mo_findPlaced_105 : decode (yB Y_Mo_findPlaced) 105 = .ok (.iconst 1, 1) := by decide +kernel
theorem d_Mo_findPlaced_106 : decode (yB Y_Mo_findPlaced) 106 = .ok (.goto 4, 3) := by decide +kernel
theorem d_Mo_findPlaced_109 : decode (yB Y_Mo_findPlaced) 109 = .ok (.iconst 0, 1) := by decide +kernel
theorem d_Mo_findPlaced_110 : decode (yB Y_Mo_findPlaced) 110 = .ok (.istore 5, 2) := by decide +kernel
theorem d_Mo_findPlaced_112 : decode (yB Y_Mo_findPlaced) 112 = .ok (.iconst 0, 1) := by decide +kernel
theorem d_Mo_findPlaced_113 : decode (yB Y_Mo_findPlaced) 113 = .ok (.istore 6, 2) := by decide +kernel
theorem d_Mo_findPlaced_115 : decode (yB Y_Mo_findPlaced) 115 = .ok (.iload 6, 2) := by decide +kernel
theorem d_Mo_findPlaced_117 : decode (yB Y_Mo_findPlaced) 117 = .ok (.iload_n 1, 1) := by decide +kernel
theorem d_Mo_findPlaced_118 : decode (yB Y_Mo_findPlaced) 118 = .ok (.if_icmp .ge 28, 3) := by decide +kernel
theorem d_Mo_findPlaced_121 : decode (yB Y_Mo_findPlaced) 121 = .ok (.iload 5, 2) := by decide +kernel
theorem d_Mo_findPlaced_123 : decode (yB Y_Mo_findPlaced) 123 = .ok (.ifCond .eq 23, 3) := by decide +kernel
theorem d_Mo_findPlaced_126 : decode (yB Y_Mo_findPlaced) 126 = .ok (.aload_n 0, 1) := by decide +kernel
theorem d_Mo_findPlaced_127 : decode (yB Y_Mo_findPlaced) 127 = .ok (.getfield 121, 3) := by decide +kernel
theorem d_Mo_findPlaced_130 : decode (yB Y_Mo_findPlaced) 130 = .ok (.iload 6, 2) := by decide +kernel
theorem d_Mo_findPlaced_132 : decode (yB Y_Mo_findPlaced) 132 = .ok (.aload_n 0, 1) := by decide +kernel
theorem d_Mo_findPlaced_133 : decode (yB Y_Mo_findPlaced) 133 = .ok (.getfield 118, 3) := by decide +kernel
theorem d_Mo_findPlaced_136 : decode (yB Y_Mo_findPlaced) 136 = .ok (.iload 6, 2) := by decide +kernel
theorem d_Mo_findPlaced_138 : decode (yB Y_Mo_findPlaced) 138 = .ok (.iaload, 1) := by decide +kernel
theorem d_Mo_findPlaced_139 : decode (yB Y_Mo_findPlaced) 139 = .ok (.iastore, 1) := by decide +kernel
theorem d_Mo_findPlaced_140 : decode (yB Y_Mo_findPlaced) 140 = .ok (.iinc 6 1, 3) := by decide +kernel
theorem d_Mo_findPlaced_143 : decode (yB Y_Mo_findPlaced) 143 = .ok (.goto (-28), 3) := by decide +kernel
theorem d_Mo_findPlaced_146 : decode (yB Y_Mo_findPlaced) 146 = .ok (.iload 5, 2) := by decide +kernel
theorem d_Mo_findPlaced_148 : decode (yB Y_Mo_findPlaced) 148 = .ok (.ifCond .eq 8, 3) := by decide +kernel
theorem d_Mo_findPlaced_151 : decode (yB Y_Mo_findPlaced) 151 = .ok (.iload 4, 2) := by decide +kernel
theorem d_Mo_findPlaced_153 : decode (yB Y_Mo_findPlaced) 153 = .ok (.goto 4, 3) := by decide +kernel
theorem d_Mo_findPlaced_156 : decode (yB Y_Mo_findPlaced) 156 = .ok (.iload_n 2, 1) := by decide +kernel
theorem d_Mo_findPlaced_157 : decode (yB Y_Mo_findPlaced) 157 = .ok (.istore_n 2, 1) := by decide +kernel
theorem d_Mo_findPlaced_158 : decode (yB Y_Mo_findPlaced) 158 = .ok (.iinc 3 (-1), 3) := by decide +kernel
theorem d_Mo_findPlaced_161 : decode (yB Y_Mo_findPlaced) 161 = .ok (.goto (-143), 3) := by decide +kernel
theorem d_Mo_findPlaced_164 : decode (yB Y_Mo_findPlaced) 164 = .ok (.aload_n 0, 1) := by decide +kernel
theorem d_Mo_findPlaced_165 : decode (yB Y_Mo_findPlaced) 165 = .ok (.iload_n 3, 1) := by decide +kernel
theorem d_Mo_findPlaced_166 : decode (yB Y_Mo_findPlaced) 166 = .ok (.invokevirtual 472, 3) := by decide +kernel
theorem d_Mo_findPlaced_169 : decode (yB Y_Mo_findPlaced) 169 = .ok (.ifCond .eq (-151), 3) := by decide +kernel
theorem d_Mo_findPlaced_172 : decode (yB Y_Mo_findPlaced) 172 = .ok (.iinc 3 1, 3) := by decide +kernel
theorem d_Mo_findPlaced_175 : decode (yB Y_Mo_findPlaced) 175 = .ok (.aload_n 0, 1) := by decide +kernel
theorem d_Mo_findPlaced_176 : decode (yB Y_Mo_findPlaced) 176 = .ok (.getfield 118, 3) := by decide +kernel
theorem d_Mo_findPlaced_179 : decode (yB Y_Mo_findPlaced) 179 = .ok (.iload_n 3, 1) := by decide +kernel
theorem d_Mo_findPlaced_180 : decode (yB Y_Mo_findPlaced) 180 = .ok (.iconst (-1), 1) := by decide +kernel
theorem d_Mo_findPlaced_181 : decode (yB Y_Mo_findPlaced) 181 = .ok (.iastore, 1) := by decide +kernel
theorem d_Mo_findPlaced_182 : decode (yB Y_Mo_findPlaced) 182 = .ok (.goto (-164), 3) := by decide +kernel
theorem d_Mo_findPlaced_185 : decode (yB Y_Mo_findPlaced) 185 = .ok (.iload_n 2, 1) := by decide +kernel
theorem d_Mo_findPlaced_186 : decode (yB Y_Mo_findPlaced) 186 = .ok (.ireturn, 1) := by decide +kernel
def F_Mo_findPlaced_b157 (n : Nat) (E : zE) (S : zS) (r18 : Nat × Int32 × Int32 × Int32 × zH → Option (Int32 × zH)) (a0 : Nat) (x1 : Int32) (x3 : Int32) (s0 : Int32) (M : zH) : Option (Int32 × zH) :=
  r18 (a0, x1, s0, x3 + (-1), M)
def F_Mo_findPlaced_b146 (n : Nat) (E : zE) (S : zS) (r18 : Nat × Int32 × Int32 × Int32 × zH → Option (Int32 × zH)) (a0 : Nat) (x1 : Int32) (x2 : Int32) (x3 : Int32) (x4 : Int32) (x5 : Int32) (M : zH) : Option (Int32 × zH) :=
  if x5 = 0 then
    F_Mo_findPlaced_b157 n E S r18 a0 x1 x3 x2 M
  else
    F_Mo_findPlaced_b157 n E S r18 a0 x1 x3 x4 M
def F_Mo_findPlaced_L115 (n : Nat) (E : zE) (S : zS) (r18 : Nat × Int32 × Int32 × Int32 × zH → Option (Int32 × zH)) (r115 : Nat × Int32 × Int32 × Int32 × Int32 × Int32 × Int32 × zH → Option (Int32 × zH)) (a0 : Nat) (x1 : Int32) (x2 : Int32) (x3 : Int32) (x4 : Int32) (x5 : Int32) (x6 : Int32) (M : zH) : Option (Int32 × zH) :=
  if x1 ≤ x6 then
    F_Mo_findPlaced_b146 n E S r18 a0 x1 x2 x3 x4 x5 M
  else
    if x5 = 0 then
      F_Mo_findPlaced_b146 n E S r18 a0 x1 x2 x3 x4 x5 M
    else
      (zgR S a0 11 44).bind fun b_4 =>
      (zgR S a0 11 43).bind fun b_5 =>
      (zldI S M b_5 x6).bind fun v_6 =>
      (zstI S M b_4 x6 v_6).bind fun m_7 =>
      r115 (a0, x1, x2, x3, x4, x5, x6 + 1, m_7)
def F_Mo_findPlaced_b115 (n : Nat) (E : zE) (S : zS) (r18 : Nat × Int32 × Int32 × Int32 × zH → Option (Int32 × zH)) : Nat × Int32 × Int32 × Int32 × Int32 × Int32 × Int32 × zH → Option (Int32 × zH) := zfix (fun r115 s => F_Mo_findPlaced_L115 n E S r18 r115 s.1 s.2.1 s.2.2.1 s.2.2.2.1 s.2.2.2.2.1 s.2.2.2.2.2.1 s.2.2.2.2.2.2.1 s.2.2.2.2.2.2.2) n
def F_Mo_findPlaced_b110 (n : Nat) (E : zE) (S : zS) (r18 : Nat × Int32 × Int32 × Int32 × zH → Option (Int32 × zH)) (a0 : Nat) (x1 : Int32) (x2 : Int32) (x3 : Int32) (x4 : Int32) (s0 : Int32) (M : zH) : Option (Int32 × zH) :=
  F_Mo_findPlaced_b115 n E S r18 (a0, x1, x2, x3, x4, s0, 0, M)
def F_Mo_findPlaced_b109 (n : Nat) (E : zE) (S : zS) (r18 : Nat × Int32 × Int32 × Int32 × zH → Option (Int32 × zH)) (a0 : Nat) (x1 : Int32) (x2 : Int32) (x3 : Int32) (x4 : Int32) (M : zH) : Option (Int32 × zH) :=
  F_Mo_findPlaced_b110 n E S r18 a0 x1 x2 x3 x4 0 M
def F_Mo_findPlaced_b94 (n : Nat) (E : zE) (S : zS) (r18 : Nat × Int32 × Int32 × Int32 × zH → Option (Int32 × zH)) (a0 : Nat) (x1 : Int32) (x2 : Int32) (x3 : Int32) (x4 : Int32) (M : zH) : Option (Int32 × zH) :=
  if x3 = x1 then
    if x4 ≤ x2 then
      F_Mo_findPlaced_b109 n E S r18 a0 x1 x2 x3 x4 M
    else
      F_Mo_findPlaced_b110 n E S r18 a0 x1 x2 x3 x4 1 M
  else
    F_Mo_findPlaced_b109 n E S r18 a0 x1 x2 x3 x4 M
def F_Mo_findPlaced_L54 (n : Nat) (E : zE) (S : zS) (r18 : Nat × Int32 × Int32 × Int32 × zH → Option (Int32 × zH)) (r54 : Nat × Int32 × Int32 × Int32 × Int32 × Int32 × zH → Option (Int32 × zH)) (a0 : Nat) (x1 : Int32) (x2 : Int32) (x3 : Int32) (x4 : Int32) (x5 : Int32) (M : zH) : Option (Int32 × zH) :=
  if x1 ≤ x5 then
    F_Mo_findPlaced_b94 n E S r18 a0 x1 x2 x3 x4 M
  else
    if x3 = x1 then
      (zgR S a0 11 42).bind fun b_12 =>
      (zgR S a0 11 43).bind fun b_13 =>
      (zldI S M b_13 x5).bind fun v_14 =>
      (zldI S M b_12 ((8 * x5) + v_14)).bind fun v_15 =>
      r54 (a0, x1, x2, x3, x4 + v_15, x5 + 1, M)
    else
      F_Mo_findPlaced_b94 n E S r18 a0 x1 x2 x3 x4 M
def F_Mo_findPlaced_b54 (n : Nat) (E : zE) (S : zS) (r18 : Nat × Int32 × Int32 × Int32 × zH → Option (Int32 × zH)) : Nat × Int32 × Int32 × Int32 × Int32 × Int32 × zH → Option (Int32 × zH) := zfix (fun r54 s => F_Mo_findPlaced_L54 n E S r18 r54 s.1 s.2.1 s.2.2.1 s.2.2.2.1 s.2.2.2.2.1 s.2.2.2.2.2.1 s.2.2.2.2.2.2) n
def F_Mo_findPlaced_b48 (n : Nat) (E : zE) (S : zS) (r18 : Nat × Int32 × Int32 × Int32 × zH → Option (Int32 × zH)) (a0 : Nat) (x1 : Int32) (x2 : Int32) (x3 : Int32) (M : zH) : Option (Int32 × zH) :=
  F_Mo_findPlaced_b54 n E S r18 (a0, x1, x2, x3, 0, 0, M)
def F_Mo_findPlaced_L18 (n : Nat) (E : zE) (S : zS) (r18 : Nat × Int32 × Int32 × Int32 × zH → Option (Int32 × zH)) (a0 : Nat) (x1 : Int32) (x2 : Int32) (x3 : Int32) (M : zH) : Option (Int32 × zH) :=
  if x3 < 0 then
    some (x2, M)
  else
    (zgR S a0 11 43).bind fun b_17 =>
    (zldI S M b_17 x3).bind fun v_18 =>
    (zstI S M b_17 x3 (v_18 + 1)).bind fun m_19 =>
    if x3 = x1 then
      F_Mo_findPlaced_b48 n E S r18 a0 x1 x2 x3 m_19
    else
      (zldI S m_19 b_17 x3).bind fun v_21 =>
      if v_21 < 8 then
        (F_Mo_isNew n E S a0 x3 m_19).bind fun q_23 =>
        if q_23.1 = true then
          (zstI S q_23.2 b_17 (x3 + 1) (-1)).bind fun m_25 =>
          r18 (a0, x1, x2, x3 + 1, m_25)
        else
          r18 (a0, x1, x2, x3, q_23.2)
      else
        F_Mo_findPlaced_b48 n E S r18 a0 x1 x2 x3 m_19
def F_Mo_findPlaced_b18 (n : Nat) (E : zE) (S : zS) : Nat × Int32 × Int32 × Int32 × zH → Option (Int32 × zH) := zfix (fun r18 s => F_Mo_findPlaced_L18 n E S r18 s.1 s.2.1 s.2.2.1 s.2.2.2.1 s.2.2.2.2) n
def F_Mo_findPlaced (n : Nat) (E : zE) (S : zS) (a0 : Nat) (M : zH) : Option (Int32 × zH) :=
  (zgR S a0 11 3).bind fun b_26 =>
  (zldI S M b_26 0).bind fun v_27 =>
  (zgR S a0 11 43).bind fun b_28 =>
  (zstI S M b_28 0 (-1)).bind fun m_29 =>
  F_Mo_findPlaced_b18 n E S (a0, v_27, (-1), 0, m_29)
theorem K_Mo_findPlaced_b157 (n : Nat) (E : zE) (S : zS) (r18 : Nat × Int32 × Int32 × Int32 × zH → Option (Int32 × zH)) (a0 : Nat) (x1 : Int32) (x3 : Int32) (s0 : Int32) (M : zH) (r : Int32) (M' : zH) (hr18 : ∀ (a0 : Nat) (x1 : Int32) (x2 : Int32) (x3 : Int32) (M : zH), r18 (a0, x1, x2, x3, M) = some (r, M') → zG E Y_Mo_findPlaced (some (.int r), S, M') 18 [(0, .ref a0), (1, .int x1), (2, .int x2), (3, .int x3)] [] S M 0 0) (h : F_Mo_findPlaced_b157 n E S r18 a0 x1 x3 s0 M = some (r, M')) : zG E Y_Mo_findPlaced (some (.int r), S, M') 157 [(0, .ref a0), (1, .int x1), (3, .int x3)] [.int s0] S M 0 0 := by
  unfold F_Mo_findPlaced_b157 at h
  refine zi_istore_n [(2, .int s0), (0, .ref a0), (1, .int x1), (3, .int x3)] d_Mo_findPlaced_157 (by decide) rfl ?_
  refine zi_iinc 3 (x3 + (-1)) [(3, .int (x3 + (-1))), (2, .int s0), (0, .ref a0), (1, .int x1)] d_Mo_findPlaced_158 rfl rfl (by decide) rfl ?_
  refine zi_goto (tgt := 18) d_Mo_findPlaced_161 rfl ?_
  refine zi_lo [(0, .ref a0), (1, .int x1), (2, .int s0), (3, .int (x3 + (-1)))] [2, 3, 1, 0] rfl ?_
  exact hr18 a0 x1 s0 (x3 + (-1)) M h
theorem K_Mo_findPlaced_b146 (n : Nat) (E : zE) (S : zS) (r18 : Nat × Int32 × Int32 × Int32 × zH → Option (Int32 × zH)) (a0 : Nat) (x1 : Int32) (x2 : Int32) (x3 : Int32) (x4 : Int32) (x5 : Int32) (M : zH) (r : Int32) (M' : zH) (hr18 : ∀ (a0 : Nat) (x1 : Int32) (x2 : Int32) (x3 : Int32) (M : zH), r18 (a0, x1, x2, x3, M) = some (r, M') → zG E Y_Mo_findPlaced (some (.int r), S, M') 18 [(0, .ref a0), (1, .int x1), (2, .int x2), (3, .int x3)] [] S M 0 0) (h : F_Mo_findPlaced_b146 n E S r18 a0 x1 x2 x3 x4 x5 M = some (r, M')) : zG E Y_Mo_findPlaced (some (.int r), S, M') 146 [(0, .ref a0), (1, .int x1), (2, .int x2), (3, .int x3), (4, .int x4), (5, .int x5)] [] S M 0 0 := by
  unfold F_Mo_findPlaced_b146 at h
  refine zi_iload 5 d_Mo_findPlaced_146 rfl ?_
  refine zi_if_eq (tgt := 156) d_Mo_findPlaced_148 rfl (fun c_1 => ?_) (fun c_1 => ?_)
  · rw [if_pos c_1] at h
    refine zi_iload_n 2 d_Mo_findPlaced_156 rfl ?_
    refine zi_lo [(0, .ref a0), (1, .int x1), (3, .int x3)] [0, 1, 3] rfl ?_
    exact K_Mo_findPlaced_b157 n E S r18 a0 x1 x3 x2 M r M' hr18 h
  · rw [if_neg c_1] at h
    refine zi_iload 4 d_Mo_findPlaced_151 rfl ?_
    refine zi_goto (tgt := 157) d_Mo_findPlaced_153 rfl ?_
    refine zi_lo [(0, .ref a0), (1, .int x1), (3, .int x3)] [0, 1, 3] rfl ?_
    exact K_Mo_findPlaced_b157 n E S r18 a0 x1 x3 x4 M r M' hr18 h
theorem K_Mo_findPlaced_L115 (n : Nat) (E : zE) (S : zS) (r18 : Nat × Int32 × Int32 × Int32 × zH → Option (Int32 × zH)) (r115 : Nat × Int32 × Int32 × Int32 × Int32 × Int32 × Int32 × zH → Option (Int32 × zH)) (a0 : Nat) (x1 : Int32) (x2 : Int32) (x3 : Int32) (x4 : Int32) (x5 : Int32) (x6 : Int32) (M : zH) (r : Int32) (M' : zH) (hr18 : ∀ (a0 : Nat) (x1 : Int32) (x2 : Int32) (x3 : Int32) (M : zH), r18 (a0, x1, x2, x3, M) = some (r, M') → zG E Y_Mo_findPlaced (some (.int r), S, M') 18 [(0, .ref a0), (1, .int x1), (2, .int x2), (3, .int x3)] [] S M 0 0) (hr115 : ∀ (a0 : Nat) (x1 : Int32) (x2 : Int32) (x3 : Int32) (x4 : Int32) (x5 : Int32) (x6 : Int32) (M : zH), r115 (a0, x1, x2, x3, x4, x5, x6, M) = some (r, M') → zG E Y_Mo_findPlaced (some (.int r), S, M') 115 [(0, .ref a0), (1, .int x1), (2, .int x2), (3, .int x3), (4, .int x4), (5, .int x5), (6, .int x6)] [] S M 0 0) (h : F_Mo_findPlaced_L115 n E S r18 r115 a0 x1 x2 x3 x4 x5 x6 M = some (r, M')) : zG E Y_Mo_findPlaced (some (.int r), S, M') 115 [(0, .ref a0), (1, .int x1), (2, .int x2), (3, .int x3), (4, .int x4), (5, .int x5), (6, .int x6)] [] S M 0 0 := by
  unfold F_Mo_findPlaced_L115 at h
  refine zi_iload 6 d_Mo_findPlaced_115 rfl ?_
  refine zi_iload_n 1 d_Mo_findPlaced_117 rfl ?_
  refine zi_icmp_ge (tgt := 146) d_Mo_findPlaced_118 rfl (fun c_2 => ?_) (fun c_2 => ?_)
  · rw [if_pos c_2] at h
    refine zi_lo [(0, .ref a0), (1, .int x1), (2, .int x2), (3, .int x3), (4, .int x4), (5, .int x5)] [0, 1, 2, 3, 4, 5] rfl ?_
    exact K_Mo_findPlaced_b146 n E S r18 a0 x1 x2 x3 x4 x5 M r M' hr18 h
  · rw [if_neg c_2] at h
    refine zi_iload 5 d_Mo_findPlaced_121 rfl ?_
    refine zi_if_eq (tgt := 146) d_Mo_findPlaced_123 rfl (fun c_3 => ?_) (fun c_3 => ?_)
    · rw [if_pos c_3] at h
      refine zi_lo [(0, .ref a0), (1, .int x1), (2, .int x2), (3, .int x3), (4, .int x4), (5, .int x5)] [0, 1, 2, 3, 4, 5] rfl ?_
      exact K_Mo_findPlaced_b146 n E S r18 a0 x1 x2 x3 x4 x5 M r M' hr18 h
    · rw [if_neg c_3] at h
      refine zi_aload_n 0 d_Mo_findPlaced_126 rfl ?_
      obtain ⟨b_4, eb_4, h⟩ := zbind h
      refine zo_getR 130 zkd_11 44 d_Mo_findPlaced_127 eb_4 rfl tw_1273 rfl ?_
      refine zi_iload 6 d_Mo_findPlaced_130 rfl ?_
      refine zi_aload_n 0 d_Mo_findPlaced_132 rfl ?_
      obtain ⟨b_5, eb_5, h⟩ := zbind h
      refine zo_getR 136 zkd_11 43 d_Mo_findPlaced_133 eb_5 rfl tw_1272 rfl ?_
      refine zi_iload 6 d_Mo_findPlaced_136 rfl ?_
      obtain ⟨v_6, ev_6, h⟩ := zbind h
      refine zo_iald 139 d_Mo_findPlaced_138 ev_6 rfl ?_
      obtain ⟨m_7, em_7, h⟩ := zbind h
      refine zo_iast 140 d_Mo_findPlaced_139 em_7 rfl ?_
      refine zi_iinc 6 (x6 + 1) [(6, .int (x6 + 1)), (0, .ref a0), (1, .int x1), (2, .int x2), (3, .int x3), (4, .int x4), (5, .int x5)] d_Mo_findPlaced_140 rfl rfl (by decide) rfl ?_
      refine zi_goto (tgt := 115) d_Mo_findPlaced_143 rfl ?_
      refine zi_lo [(0, .ref a0), (1, .int x1), (2, .int x2), (3, .int x3), (4, .int x4), (5, .int x5), (6, .int (x6 + 1))] [1, 2, 3, 4, 5, 6, 0] rfl ?_
      exact hr115 a0 x1 x2 x3 x4 x5 (x6 + 1) m_7 h
theorem K_Mo_findPlaced_b115 (n : Nat) (E : zE) (S : zS) (r18 : Nat × Int32 × Int32 × Int32 × zH → Option (Int32 × zH)) (a0 : Nat) (x1 : Int32) (x2 : Int32) (x3 : Int32) (x4 : Int32) (x5 : Int32) (x6 : Int32) (M : zH) (r : Int32) (M' : zH) (hr18 : ∀ (a0 : Nat) (x1 : Int32) (x2 : Int32) (x3 : Int32) (M : zH), r18 (a0, x1, x2, x3, M) = some (r, M') → zG E Y_Mo_findPlaced (some (.int r), S, M') 18 [(0, .ref a0), (1, .int x1), (2, .int x2), (3, .int x3)] [] S M 0 0) (h : F_Mo_findPlaced_b115 n E S r18 (a0, x1, x2, x3, x4, x5, x6, M) = some (r, M')) : zG E Y_Mo_findPlaced (some (.int r), S, M') 115 [(0, .ref a0), (1, .int x1), (2, .int x2), (3, .int x3), (4, .int x4), (5, .int x5), (6, .int x6)] [] S M 0 0 := by
  have key : ∀ (k : Nat) (a0 : Nat) (x1 : Int32) (x2 : Int32) (x3 : Int32) (x4 : Int32) (x5 : Int32) (x6 : Int32) (M : zH), zfix (fun r115 s => F_Mo_findPlaced_L115 n E S r18 r115 s.1 s.2.1 s.2.2.1 s.2.2.2.1 s.2.2.2.2.1 s.2.2.2.2.2.1 s.2.2.2.2.2.2.1 s.2.2.2.2.2.2.2) k (a0, x1, x2, x3, x4, x5, x6, M) = some (r, M') → zG E Y_Mo_findPlaced (some (.int r), S, M') 115 [(0, .ref a0), (1, .int x1), (2, .int x2), (3, .int x3), (4, .int x4), (5, .int x5), (6, .int x6)] [] S M 0 0 := by
    intro k
    induction k with
    | zero => intro a0 x1 x2 x3 x4 x5 x6 M h; cases h
    | succ k ih => intro a0 x1 x2 x3 x4 x5 x6 M h; exact K_Mo_findPlaced_L115 n E S r18 _ a0 x1 x2 x3 x4 x5 x6 M r M' hr18 (fun a0 x1 x2 x3 x4 x5 x6 M h => ih a0 x1 x2 x3 x4 x5 x6 M h) h
  exact key n a0 x1 x2 x3 x4 x5 x6 M h
theorem K_Mo_findPlaced_b110 (n : Nat) (E : zE) (S : zS) (r18 : Nat × Int32 × Int32 × Int32 × zH → Option (Int32 × zH)) (a0 : Nat) (x1 : Int32) (x2 : Int32) (x3 : Int32) (x4 : Int32) (s0 : Int32) (M : zH) (r : Int32) (M' : zH) (hr18 : ∀ (a0 : Nat) (x1 : Int32) (x2 : Int32) (x3 : Int32) (M : zH), r18 (a0, x1, x2, x3, M) = some (r, M') → zG E Y_Mo_findPlaced (some (.int r), S, M') 18 [(0, .ref a0), (1, .int x1), (2, .int x2), (3, .int x3)] [] S M 0 0) (h : F_Mo_findPlaced_b110 n E S r18 a0 x1 x2 x3 x4 s0 M = some (r, M')) : zG E Y_Mo_findPlaced (some (.int r), S, M') 110 [(0, .ref a0), (1, .int x1), (2, .int x2), (3, .int x3), (4, .int x4)] [.int s0] S M 0 0 := by
  unfold F_Mo_findPlaced_b110 at h
  refine zi_istore [(5, .int s0), (0, .ref a0), (1, .int x1), (2, .int x2), (3, .int x3), (4, .int x4)] d_Mo_findPlaced_110 (by decide) rfl ?_
  refine zi_iconst 0 d_Mo_findPlaced_112 rfl ?_
  refine zi_istore [(6, .int 0), (5, .int s0), (0, .ref a0), (1, .int x1), (2, .int x2), (3, .int x3), (4, .int x4)] d_Mo_findPlaced_113 (by decide) rfl ?_
  refine zi_lo [(0, .ref a0), (1, .int x1), (2, .int x2), (3, .int x3), (4, .int x4), (5, .int s0), (6, .int 0)] [2, 3, 4, 5, 6, 1, 0] rfl ?_
  exact K_Mo_findPlaced_b115 n E S r18 a0 x1 x2 x3 x4 s0 0 M r M' hr18 h
theorem K_Mo_findPlaced_b109 (n : Nat) (E : zE) (S : zS) (r18 : Nat × Int32 × Int32 × Int32 × zH → Option (Int32 × zH)) (a0 : Nat) (x1 : Int32) (x2 : Int32) (x3 : Int32) (x4 : Int32) (M : zH) (r : Int32) (M' : zH) (hr18 : ∀ (a0 : Nat) (x1 : Int32) (x2 : Int32) (x3 : Int32) (M : zH), r18 (a0, x1, x2, x3, M) = some (r, M') → zG E Y_Mo_findPlaced (some (.int r), S, M') 18 [(0, .ref a0), (1, .int x1), (2, .int x2), (3, .int x3)] [] S M 0 0) (h : F_Mo_findPlaced_b109 n E S r18 a0 x1 x2 x3 x4 M = some (r, M')) : zG E Y_Mo_findPlaced (some (.int r), S, M') 109 [(0, .ref a0), (1, .int x1), (2, .int x2), (3, .int x3), (4, .int x4)] [] S M 0 0 := by
  unfold F_Mo_findPlaced_b109 at h
  refine zi_iconst 0 d_Mo_findPlaced_109 rfl ?_
  refine zi_lo [(0, .ref a0), (1, .int x1), (2, .int x2), (3, .int x3), (4, .int x4)] [0, 1, 2, 3, 4] rfl ?_
  exact K_Mo_findPlaced_b110 n E S r18 a0 x1 x2 x3 x4 0 M r M' hr18 h
theorem K_Mo_findPlaced_b94 (n : Nat) (E : zE) (S : zS) (r18 : Nat × Int32 × Int32 × Int32 × zH → Option (Int32 × zH)) (a0 : Nat) (x1 : Int32) (x2 : Int32) (x3 : Int32) (x4 : Int32) (M : zH) (r : Int32) (M' : zH) (hr18 : ∀ (a0 : Nat) (x1 : Int32) (x2 : Int32) (x3 : Int32) (M : zH), r18 (a0, x1, x2, x3, M) = some (r, M') → zG E Y_Mo_findPlaced (some (.int r), S, M') 18 [(0, .ref a0), (1, .int x1), (2, .int x2), (3, .int x3)] [] S M 0 0) (h : F_Mo_findPlaced_b94 n E S r18 a0 x1 x2 x3 x4 M = some (r, M')) : zG E Y_Mo_findPlaced (some (.int r), S, M') 94 [(0, .ref a0), (1, .int x1), (2, .int x2), (3, .int x3), (4, .int x4)] [] S M 0 0 := by
  unfold F_Mo_findPlaced_b94 at h
  refine zi_iload_n 3 d_Mo_findPlaced_94 rfl ?_
  refine zi_iload_n 1 d_Mo_findPlaced_95 rfl ?_
  refine zi_icmp_ne (tgt := 109) d_Mo_findPlaced_96 rfl (fun c_8 => ?_) (fun c_8 => ?_)
  · rw [if_neg c_8] at h
    refine zi_lo [(0, .ref a0), (1, .int x1), (2, .int x2), (3, .int x3), (4, .int x4)] [0, 1, 2, 3, 4] rfl ?_
    exact K_Mo_findPlaced_b109 n E S r18 a0 x1 x2 x3 x4 M r M' hr18 h
  · rw [if_pos c_8] at h
    refine zi_iload 4 d_Mo_findPlaced_99 rfl ?_
    refine zi_iload_n 2 d_Mo_findPlaced_101 rfl ?_
    refine zi_icmp_le (tgt := 109) d_Mo_findPlaced_102 rfl (fun c_9 => ?_) (fun c_9 => ?_)
    · rw [if_pos c_9] at h
      refine zi_lo [(0, .ref a0), (1, .int x1), (2, .int x2), (3, .int x3), (4, .int x4)] [0, 1, 2, 3, 4] rfl ?_
      exact K_Mo_findPlaced_b109 n E S r18 a0 x1 x2 x3 x4 M r M' hr18 h
    · rw [if_neg c_9] at h
      refine zi_iconst 1 d_Mo_findPlaced_105 rfl ?_
      refine zi_goto (tgt := 110) d_Mo_findPlaced_106 rfl ?_
      refine zi_lo [(0, .ref a0), (1, .int x1), (2, .int x2), (3, .int x3), (4, .int x4)] [0, 1, 2, 3, 4] rfl ?_
      exact K_Mo_findPlaced_b110 n E S r18 a0 x1 x2 x3 x4 1 M r M' hr18 h
theorem K_Mo_findPlaced_L54 (n : Nat) (E : zE) (S : zS) (r18 : Nat × Int32 × Int32 × Int32 × zH → Option (Int32 × zH)) (r54 : Nat × Int32 × Int32 × Int32 × Int32 × Int32 × zH → Option (Int32 × zH)) (a0 : Nat) (x1 : Int32) (x2 : Int32) (x3 : Int32) (x4 : Int32) (x5 : Int32) (M : zH) (r : Int32) (M' : zH) (hr18 : ∀ (a0 : Nat) (x1 : Int32) (x2 : Int32) (x3 : Int32) (M : zH), r18 (a0, x1, x2, x3, M) = some (r, M') → zG E Y_Mo_findPlaced (some (.int r), S, M') 18 [(0, .ref a0), (1, .int x1), (2, .int x2), (3, .int x3)] [] S M 0 0) (hr54 : ∀ (a0 : Nat) (x1 : Int32) (x2 : Int32) (x3 : Int32) (x4 : Int32) (x5 : Int32) (M : zH), r54 (a0, x1, x2, x3, x4, x5, M) = some (r, M') → zG E Y_Mo_findPlaced (some (.int r), S, M') 54 [(0, .ref a0), (1, .int x1), (2, .int x2), (3, .int x3), (4, .int x4), (5, .int x5)] [] S M 0 0) (h : F_Mo_findPlaced_L54 n E S r18 r54 a0 x1 x2 x3 x4 x5 M = some (r, M')) : zG E Y_Mo_findPlaced (some (.int r), S, M') 54 [(0, .ref a0), (1, .int x1), (2, .int x2), (3, .int x3), (4, .int x4), (5, .int x5)] [] S M 0 0 := by
  unfold F_Mo_findPlaced_L54 at h
  refine zi_iload 5 d_Mo_findPlaced_54 rfl ?_
  refine zi_iload_n 1 d_Mo_findPlaced_56 rfl ?_
  refine zi_icmp_ge (tgt := 94) d_Mo_findPlaced_57 rfl (fun c_10 => ?_) (fun c_10 => ?_)
  · rw [if_pos c_10] at h
    refine zi_lo [(0, .ref a0), (1, .int x1), (2, .int x2), (3, .int x3), (4, .int x4)] [0, 1, 2, 3, 4] rfl ?_
    exact K_Mo_findPlaced_b94 n E S r18 a0 x1 x2 x3 x4 M r M' hr18 h
  · rw [if_neg c_10] at h
    refine zi_iload_n 3 d_Mo_findPlaced_60 rfl ?_
    refine zi_iload_n 1 d_Mo_findPlaced_61 rfl ?_
    refine zi_icmp_ne (tgt := 94) d_Mo_findPlaced_62 rfl (fun c_11 => ?_) (fun c_11 => ?_)
    · rw [if_neg c_11] at h
      refine zi_lo [(0, .ref a0), (1, .int x1), (2, .int x2), (3, .int x3), (4, .int x4)] [0, 1, 2, 3, 4] rfl ?_
      exact K_Mo_findPlaced_b94 n E S r18 a0 x1 x2 x3 x4 M r M' hr18 h
    · rw [if_pos c_11] at h
      refine zi_iload 4 d_Mo_findPlaced_65 rfl ?_
      refine zi_aload_n 0 d_Mo_findPlaced_67 rfl ?_
      obtain ⟨b_12, eb_12, h⟩ := zbind h
      refine zo_getR 71 zkd_11 42 d_Mo_findPlaced_68 eb_12 rfl tw_1271 rfl ?_
      refine zi_bipush 8 d_Mo_findPlaced_71 rfl ?_
      refine zi_iload 5 d_Mo_findPlaced_73 rfl ?_
      refine zi_imul d_Mo_findPlaced_75 ?_
      refine zi_aload_n 0 d_Mo_findPlaced_76 rfl ?_
      obtain ⟨b_13, eb_13, h⟩ := zbind h
      refine zo_getR 80 zkd_11 43 d_Mo_findPlaced_77 eb_13 rfl tw_1272 rfl ?_
      refine zi_iload 5 d_Mo_findPlaced_80 rfl ?_
      obtain ⟨v_14, ev_14, h⟩ := zbind h
      refine zo_iald 83 d_Mo_findPlaced_82 ev_14 rfl ?_
      refine zi_iadd d_Mo_findPlaced_83 ?_
      obtain ⟨v_15, ev_15, h⟩ := zbind h
      refine zo_iald 85 d_Mo_findPlaced_84 ev_15 rfl ?_
      refine zi_iadd d_Mo_findPlaced_85 ?_
      refine zi_istore [(4, .int (x4 + v_15)), (0, .ref a0), (1, .int x1), (2, .int x2), (3, .int x3), (5, .int x5)] d_Mo_findPlaced_86 (by decide) rfl ?_
      refine zi_iinc 5 (x5 + 1) [(5, .int (x5 + 1)), (4, .int (x4 + v_15)), (0, .ref a0), (1, .int x1), (2, .int x2), (3, .int x3)] d_Mo_findPlaced_88 rfl rfl (by decide) rfl ?_
      refine zi_goto (tgt := 54) d_Mo_findPlaced_91 rfl ?_
      refine zi_lo [(0, .ref a0), (1, .int x1), (2, .int x2), (3, .int x3), (4, .int (x4 + v_15)), (5, .int (x5 + 1))] [2, 3, 4, 5, 1, 0] rfl ?_
      exact hr54 a0 x1 x2 x3 (x4 + v_15) (x5 + 1) M h
theorem K_Mo_findPlaced_b54 (n : Nat) (E : zE) (S : zS) (r18 : Nat × Int32 × Int32 × Int32 × zH → Option (Int32 × zH)) (a0 : Nat) (x1 : Int32) (x2 : Int32) (x3 : Int32) (x4 : Int32) (x5 : Int32) (M : zH) (r : Int32) (M' : zH) (hr18 : ∀ (a0 : Nat) (x1 : Int32) (x2 : Int32) (x3 : Int32) (M : zH), r18 (a0, x1, x2, x3, M) = some (r, M') → zG E Y_Mo_findPlaced (some (.int r), S, M') 18 [(0, .ref a0), (1, .int x1), (2, .int x2), (3, .int x3)] [] S M 0 0) (h : F_Mo_findPlaced_b54 n E S r18 (a0, x1, x2, x3, x4, x5, M) = some (r, M')) : zG E Y_Mo_findPlaced (some (.int r), S, M') 54 [(0, .ref a0), (1, .int x1), (2, .int x2), (3, .int x3), (4, .int x4), (5, .int x5)] [] S M 0 0 := by
  have key : ∀ (k : Nat) (a0 : Nat) (x1 : Int32) (x2 : Int32) (x3 : Int32) (x4 : Int32) (x5 : Int32) (M : zH), zfix (fun r54 s => F_Mo_findPlaced_L54 n E S r18 r54 s.1 s.2.1 s.2.2.1 s.2.2.2.1 s.2.2.2.2.1 s.2.2.2.2.2.1 s.2.2.2.2.2.2) k (a0, x1, x2, x3, x4, x5, M) = some (r, M') → zG E Y_Mo_findPlaced (some (.int r), S, M') 54 [(0, .ref a0), (1, .int x1), (2, .int x2), (3, .int x3), (4, .int x4), (5, .int x5)] [] S M 0 0 := by
    intro k
    induction k with
    | zero => intro a0 x1 x2 x3 x4 x5 M h; cases h
    | succ k ih => intro a0 x1 x2 x3 x4 x5 M h; exact K_Mo_findPlaced_L54 n E S r18 _ a0 x1 x2 x3 x4 x5 M r M' hr18 (fun a0 x1 x2 x3 x4 x5 M h => ih a0 x1 x2 x3 x4 x5 M h) h
  exact key n a0 x1 x2 x3 x4 x5 M h
theorem K_Mo_findPlaced_b48 (n : Nat) (E : zE) (S : zS) (r18 : Nat × Int32 × Int32 × Int32 × zH → Option (Int32 × zH)) (a0 : Nat) (x1 : Int32) (x2 : Int32) (x3 : Int32) (M : zH) (r : Int32) (M' : zH) (hr18 : ∀ (a0 : Nat) (x1 : Int32) (x2 : Int32) (x3 : Int32) (M : zH), r18 (a0, x1, x2, x3, M) = some (r, M') → zG E Y_Mo_findPlaced (some (.int r), S, M') 18 [(0, .ref a0), (1, .int x1), (2, .int x2), (3, .int x3)] [] S M 0 0) (h : F_Mo_findPlaced_b48 n E S r18 a0 x1 x2 x3 M = some (r, M')) : zG E Y_Mo_findPlaced (some (.int r), S, M') 48 [(0, .ref a0), (1, .int x1), (2, .int x2), (3, .int x3)] [] S M 0 0 := by
  unfold F_Mo_findPlaced_b48 at h
  refine zi_iconst 0 d_Mo_findPlaced_48 rfl ?_
  refine zi_istore [(4, .int 0), (0, .ref a0), (1, .int x1), (2, .int x2), (3, .int x3)] d_Mo_findPlaced_49 (by decide) rfl ?_
  refine zi_iconst 0 d_Mo_findPlaced_51 rfl ?_
  refine zi_istore [(5, .int 0), (4, .int 0), (0, .ref a0), (1, .int x1), (2, .int x2), (3, .int x3)] d_Mo_findPlaced_52 (by decide) rfl ?_
  refine zi_lo [(0, .ref a0), (1, .int x1), (2, .int x2), (3, .int x3), (4, .int 0), (5, .int 0)] [2, 3, 4, 5, 1, 0] rfl ?_
  exact K_Mo_findPlaced_b54 n E S r18 a0 x1 x2 x3 0 0 M r M' hr18 h
theorem K_Mo_findPlaced_L18 (n : Nat) (E : zE) (S : zS) (r18 : Nat × Int32 × Int32 × Int32 × zH → Option (Int32 × zH)) (a0 : Nat) (x1 : Int32) (x2 : Int32) (x3 : Int32) (M : zH) (r : Int32) (M' : zH) (hr18 : ∀ (a0 : Nat) (x1 : Int32) (x2 : Int32) (x3 : Int32) (M : zH), r18 (a0, x1, x2, x3, M) = some (r, M') → zG E Y_Mo_findPlaced (some (.int r), S, M') 18 [(0, .ref a0), (1, .int x1), (2, .int x2), (3, .int x3)] [] S M 0 0) (h : F_Mo_findPlaced_L18 n E S r18 a0 x1 x2 x3 M = some (r, M')) : zG E Y_Mo_findPlaced (some (.int r), S, M') 18 [(0, .ref a0), (1, .int x1), (2, .int x2), (3, .int x3)] [] S M 0 0 := by
  unfold F_Mo_findPlaced_L18 at h
  refine zi_iload_n 3 d_Mo_findPlaced_18 rfl ?_
  refine zi_if_lt (tgt := 185) d_Mo_findPlaced_19 rfl (fun c_16 => ?_) (fun c_16 => ?_)
  · rw [if_pos c_16] at h
    refine zi_iload_n 2 d_Mo_findPlaced_185 rfl ?_
    cases h
    exact zo_ret d_Mo_findPlaced_186 (Nat.le_of_ble_eq_true rfl) (Nat.le_of_ble_eq_true rfl) rfl
  · rw [if_neg c_16] at h
    refine zi_aload_n 0 d_Mo_findPlaced_22 rfl ?_
    obtain ⟨b_17, eb_17, h⟩ := zbind h
    refine zo_getR 26 zkd_11 43 d_Mo_findPlaced_23 eb_17 rfl tw_1272 rfl ?_
    refine zi_iload_n 3 d_Mo_findPlaced_26 rfl ?_
    refine zi_dup2 d_Mo_findPlaced_27 rfl rfl ?_
    obtain ⟨v_18, ev_18, h⟩ := zbind h
    refine zo_iald 29 d_Mo_findPlaced_28 ev_18 rfl ?_
    refine zi_iconst 1 d_Mo_findPlaced_29 rfl ?_
    refine zi_iadd d_Mo_findPlaced_30 ?_
    obtain ⟨m_19, em_19, h⟩ := zbind h
    refine zo_iast 32 d_Mo_findPlaced_31 em_19 rfl ?_
    refine zi_iload_n 3 d_Mo_findPlaced_32 rfl ?_
    refine zi_iload_n 1 d_Mo_findPlaced_33 rfl ?_
    refine zi_icmp_eq (tgt := 48) d_Mo_findPlaced_34 rfl (fun c_20 => ?_) (fun c_20 => ?_)
    · rw [if_pos c_20] at h
      refine zi_lo [(0, .ref a0), (1, .int x1), (2, .int x2), (3, .int x3)] [0, 1, 2, 3] rfl ?_
      exact K_Mo_findPlaced_b48 n E S r18 a0 x1 x2 x3 m_19 r M' hr18 h
    · rw [if_neg c_20] at h
      refine zi_aload_n 0 d_Mo_findPlaced_37 rfl ?_
      refine zo_getR 41 zkd_11 43 d_Mo_findPlaced_38 eb_17 rfl tw_1272 rfl ?_
      refine zi_iload_n 3 d_Mo_findPlaced_41 rfl ?_
      obtain ⟨v_21, ev_21, h⟩ := zbind h
      refine zo_iald 43 d_Mo_findPlaced_42 ev_21 rfl ?_
      refine zi_bipush 8 d_Mo_findPlaced_43 rfl ?_
      refine zi_icmp_lt (tgt := 164) d_Mo_findPlaced_45 rfl (fun c_22 => ?_) (fun c_22 => ?_)
      · rw [if_pos c_22] at h
        refine zi_aload_n 0 d_Mo_findPlaced_164 rfl ?_
        refine zi_iload_n 3 d_Mo_findPlaced_165 rfl ?_
        obtain ⟨q_23, eq_23, h⟩ := zbind h
        refine zo_virt (k' := 0) (n' := 0) 169 [.int x3] [] [.int (bI q_23.1)] zkd_11 (zgR_s eb_17).1 (C_Mo_isNew n E S a0 x3 m_19 q_23.1 q_23.2 eq_23) d_Mo_findPlaced_166 tw_1764 tw_1761 tw_1763 ts_90 tw_13 dd_Mo_isNew ⟨Nat.le_of_ble_eq_true rfl, Nat.le_of_ble_eq_true rfl, Nat.le_of_ble_eq_true rfl, Nat.le_of_ble_eq_true rfl⟩ (Nat.le_of_ble_eq_true rfl) rfl rfl rfl rfl ?_
        refine zo_ifeqB d_Mo_findPlaced_169 rfl 172 rfl (fun c_24 => ?_) (fun c_24 => ?_)
        · rw [if_neg c_24] at h
          refine zi_lo [(0, .ref a0), (1, .int x1), (2, .int x2), (3, .int x3)] [0, 1, 2, 3] rfl ?_
          exact hr18 a0 x1 x2 x3 q_23.2 h
        · rw [if_pos c_24] at h
          refine zi_iinc 3 (x3 + 1) [(3, .int (x3 + 1)), (0, .ref a0), (1, .int x1), (2, .int x2)] d_Mo_findPlaced_172 rfl rfl (by decide) rfl ?_
          refine zi_aload_n 1 d_Mo_findPlaced_175 rfl ?_
          refine zo_getR 179 zkd_11 43 d_Mo_findPlaced_176 eb_17 rfl tw_1272 rfl ?_
          refine zi_iload_n 0 d_Mo_findPlaced_179 rfl ?_
          refine zi_iconst (-1) d_Mo_findPlaced_180 rfl ?_
          obtain ⟨m_25, em_25, h⟩ := zbind h
          refine zo_iast 182 d_Mo_findPlaced_181 em_25 rfl ?_
          refine zi_goto (tgt := 18) d_Mo_findPlaced_182 rfl ?_
          refine zi_lo [(0, .ref a0), (1, .int x1), (2, .int x2), (3, .int (x3 + 1))] [1, 2, 3, 0] rfl ?_
          exact hr18 a0 x1 x2 (x3 + 1) m_25 h
      · rw [if_neg c_22] at h
        refine zi_lo [(0, .ref a0), (1, .int x1), (2, .int x2), (3, .int x3)] [0, 1, 2, 3] rfl ?_
        exact K_Mo_findPlaced_b48 n E S r18 a0 x1 x2 x3 m_19 r M' hr18 h
theorem K_Mo_findPlaced_b18 (n : Nat) (E : zE) (S : zS) (a0 : Nat) (x1 : Int32) (x2 : Int32) (x3 : Int32) (M : zH) (r : Int32) (M' : zH)  (h : F_Mo_findPlaced_b18 n E S (a0, x1, x2, x3, M) = some (r, M')) : zG E Y_Mo_findPlaced (some (.int r), S, M') 18 [(0, .ref a0), (1, .int x1), (2, .int x2), (3, .int x3)] [] S M 0 0 := by
  have key : ∀ (k : Nat) (a0 : Nat) (x1 : Int32) (x2 : Int32) (x3 : Int32) (M : zH), zfix (fun r18 s => F_Mo_findPlaced_L18 n E S r18 s.1 s.2.1 s.2.2.1 s.2.2.2.1 s.2.2.2.2) k (a0, x1, x2, x3, M) = some (r, M') → zG E Y_Mo_findPlaced (some (.int r), S, M') 18 [(0, .ref a0), (1, .int x1), (2, .int x2), (3, .int x3)] [] S M 0 0 := by
    intro k
    induction k with
    | zero => intro a0 x1 x2 x3 M h; cases h
    | succ k ih => intro a0 x1 x2 x3 M h; exact K_Mo_findPlaced_L18 n E S _ a0 x1 x2 x3 M r M'  (fun a0 x1 x2 x3 M h => ih a0 x1 x2 x3 M h) h
  exact key n a0 x1 x2 x3 M h
theorem K_Mo_findPlaced (n : Nat) (E : zE) (S : zS) (a0 : Nat) (M : zH) (r : Int32) (M' : zH)  (h : F_Mo_findPlaced n E S a0 M = some (r, M')) : zG E Y_Mo_findPlaced (some (.int r), S, M') 0 [(0, .ref a0)] [] S M 0 0 := by
  unfold F_Mo_findPlaced at h
  refine zi_aload_n 0 d_Mo_findPlaced_0 rfl ?_
  obtain ⟨b_26, eb_26, h⟩ := zbind h
  refine zo_getR 4 zkd_11 3 d_Mo_findPlaced_1 eb_26 rfl tw_1232 rfl ?_
  refine zi_iconst 0 d_Mo_findPlaced_4 rfl ?_
  obtain ⟨v_27, ev_27, h⟩ := zbind h
  refine zo_iald 6 d_Mo_findPlaced_5 ev_27 rfl ?_
  refine zi_istore_n [(1, .int v_27), (0, .ref a0)] d_Mo_findPlaced_6 (by decide) rfl ?_
  refine zi_iconst (-1) d_Mo_findPlaced_7 rfl ?_
  refine zi_istore_n [(2, .int (-1)), (1, .int v_27), (0, .ref a0)] d_Mo_findPlaced_8 (by decide) rfl ?_
  refine zi_iconst 0 d_Mo_findPlaced_9 rfl ?_
  refine zi_istore_n [(3, .int 0), (2, .int (-1)), (1, .int v_27), (0, .ref a0)] d_Mo_findPlaced_10 (by decide) rfl ?_
  refine zi_aload_n 3 d_Mo_findPlaced_11 rfl ?_
  obtain ⟨b_28, eb_28, h⟩ := zbind h
  refine zo_getR 15 zkd_11 43 d_Mo_findPlaced_12 eb_28 rfl tw_1272 rfl ?_
  refine zi_iconst 0 d_Mo_findPlaced_15 rfl ?_
  refine zi_iconst (-1) d_Mo_findPlaced_16 rfl ?_
  obtain ⟨m_29, em_29, h⟩ := zbind h
  refine zo_iast 18 d_Mo_findPlaced_17 em_29 rfl ?_
  refine zi_lo [(0, .ref a0), (1, .int v_27), (2, .int (-1)), (3, .int 0)] [3, 2, 1, 0] rfl ?_
  exact K_Mo_findPlaced_b18 n E S a0 v_27 (-1) 0 m_29 r M'  h
theorem C_Mo_findPlaced (n : Nat) (E : zE) (S : zS) (a0 : Nat) (M : zH) (r : Int32) (M' : zH) (h : F_Mo_findPlaced n E S a0 M = some (r, M')) : zC E Y_Mo_findPlaced [.ref a0] S M (some (.int r), S, M') :=
  zC.of (Or.inl (show plainName "NightColanderModel" = true by decide)) (Nat.le_of_ble_eq_true rfl) (trivial) (K_Mo_findPlaced n E S a0 M r M' h)
