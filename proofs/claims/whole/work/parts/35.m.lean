/-! METHODS (printed by gen/build.py): Mo_change Mo_turn Mo_bucketAt Mo_bucket Mo_setBucket Mo_isBarred Mo_leaksOf Mo_paysOf Mo_of Mo_wanted Mo_holeAbove Mo_flowOn Mo_flow Mo_isTerm Mo_terms Mo_row -/
theorem d_Mo_change_0 : decode (yB Y_Mo_change) 0 = .ok (.aload_n 0, 1) := by decide +kernel
theorem d_Mo_change_1 : decode (yB Y_Mo_change) 1 = .ok (.getfield 13, 3) := by decide +kernel
theorem d_Mo_change_4 : decode (yB Y_Mo_change) 4 = .ok (.iload_n 1, 1) := by decide +kernel
theorem d_Mo_change_5 : decode (yB Y_Mo_change) 5 = .ok (.iaload, 1) := by decide +kernel
theorem d_Mo_change_6 : decode (yB Y_Mo_change) 6 = .ok (.istore_n 3, 1) := by decide +kernel
theorem d_Mo_change_7 : decode (yB Y_Mo_change) 7 = .ok (.aload_n 0, 1) := by decide +kernel
theorem d_Mo_change_8 : decode (yB Y_Mo_change) 8 = .ok (.getfield 13, 3) := by decide +kernel
theorem d_Mo_change_11 : decode (yB Y_Mo_change) 11 = .ok (.iload_n 1, 1) := by decide +kernel
theorem d_Mo_change_12 : decode (yB Y_Mo_change) 12 = .ok (.iload_n 2, 1) := by decide +kernel
theorem d_Mo_change_13 : decode (yB Y_Mo_change) 13 = .ok (.iastore, 1) := by decide +kernel
theorem d_Mo_change_14 : decode (yB Y_Mo_change) 14 = .ok (.aload_n 0, 1) := by decide +kernel
theorem d_Mo_change_15 : decode (yB Y_Mo_change) 15 = .ok (.iconst 0, 1) := by decide +kernel
theorem d_Mo_change_16 : decode (yB Y_Mo_change) 16 = .ok (.putfield 159, 3) := by decide +kernel
theorem d_Mo_change_19 : decode (yB Y_Mo_change) 19 = .ok (.iload_n 3, 1) := by decide +kernel
theorem d_Mo_change_20 : decode (yB Y_Mo_change) 20 = .ok (.ireturn, 1) := by decide +kernel
def F_Mo_change (n : Nat) (E : zE) (S : zS) (a0 : Nat) (x1 : Int32) (x2 : Int32) (M : zH) : Option (Int32 × zH) :=
  (zgR S a0 11 3).bind fun b_1 =>
  (zldI S M b_1 x1).bind fun v_2 =>
  (zstI S M b_1 x1 x2).bind fun m_3 =>
  (zpI S m_3 a0 11 1 0).bind fun m_4 =>
  some (v_2, m_4)
theorem K_Mo_change (n : Nat) (E : zE) (S : zS) (a0 : Nat) (x1 : Int32) (x2 : Int32) (M : zH) (r : Int32) (M' : zH)  (h : F_Mo_change n E S a0 x1 x2 M = some (r, M')) : zG E Y_Mo_change (some (.int r), S, M') 0 [(0, .ref a0), (1, .int x1), (2, .int x2)] [] S M 0 0 := by
  unfold F_Mo_change at h
  refine zi_aload_n 0 d_Mo_change_0 rfl ?_
  obtain ⟨b_1, eb_1, h⟩ := zbind h
  refine zo_getR 4 zkd_11 3 d_Mo_change_1 eb_1 rfl tw_1232 rfl ?_
  refine zi_iload_n 1 d_Mo_change_4 rfl ?_
  obtain ⟨v_2, ev_2, h⟩ := zbind h
  refine zo_iald 6 d_Mo_change_5 ev_2 rfl ?_
  refine zi_istore_n [(3, .int v_2), (0, .ref a0), (1, .int x1), (2, .int x2)] d_Mo_change_6 (by decide) rfl ?_
  refine zi_aload_n 1 d_Mo_change_7 rfl ?_
  refine zo_getR 11 zkd_11 3 d_Mo_change_8 eb_1 rfl tw_1232 rfl ?_
  refine zi_iload_n 2 d_Mo_change_11 rfl ?_
  refine zi_iload_n 3 d_Mo_change_12 rfl ?_
  obtain ⟨m_3, em_3, h⟩ := zbind h
  refine zo_iast 14 d_Mo_change_13 em_3 rfl ?_
  refine zi_aload_n 1 d_Mo_change_14 rfl ?_
  refine zi_iconst 0 d_Mo_change_15 rfl ?_
  obtain ⟨m_4, em_4, h⟩ := zbind h
  refine zo_putI 19 zkd_11 1 d_Mo_change_16 em_4 rfl rfl rfl tw_1230 rfl ?_
  refine zi_iload_n 0 d_Mo_change_19 rfl ?_
  cases h
  exact zo_ret d_Mo_change_20 (Nat.le_of_ble_eq_true rfl) (Nat.le_of_ble_eq_true rfl) rfl
theorem C_Mo_change (n : Nat) (E : zE) (S : zS) (a0 : Nat) (x1 : Int32) (x2 : Int32) (M : zH) (r : Int32) (M' : zH) (h : F_Mo_change n E S a0 x1 x2 M = some (r, M')) : zC E Y_Mo_change [.ref a0, .int x1, .int x2] S M (some (.int r), S, M') :=
  zC.of (Or.inl (show plainName "NightColanderModel" = true by decide)) (Nat.le_of_ble_eq_true rfl) (trivial) (K_Mo_change n E S a0 x1 x2 M r M' h)
theorem d_Mo_turn_0 : decode (yB Y_Mo_turn) 0 = .ok (.aload_n 0, 1) := by decide +kernel
theorem d_Mo_turn_1 : decode (yB Y_Mo_turn) 1 = .ok (.iconst 0, 1) := by decide +kernel
theorem d_Mo_turn_2 : decode (yB Y_Mo_turn) 2 = .ok (.putfield 156, 3) := by decide +kernel
theorem d_Mo_turn_5 : decode (yB Y_Mo_turn) 5 = .ok (.iload_n 1, 1) := by decide +kernel
theorem d_Mo_turn_6 : decode (yB Y_Mo_turn) 6 = .ok (.invokestatic 190, 3) := by decide +kernel
theorem d_Mo_turn_9 : decode (yB Y_Mo_turn) 9 = .ok (.ifCond .eq 10, 3) := by decide +kernel
theorem d_Mo_turn_12 : decode (yB Y_Mo_turn) 12 = .ok (.iload_n 2, 1) := by decide +kernel
theorem d_Mo_turn_13 : decode (yB Y_Mo_turn) 13 = .ok (.invokestatic 194, 3) := by decide +kernel
theorem d_Mo_turn_16 : decode (yB Y_Mo_turn) 16 = .ok (.ifCond .ne 9, 3) := by decide +kernel
theorem d_Mo_turn_19 : decode (yB Y_Mo_turn) 19 = .ok (.aload_n 0, 1) := by decide +kernel
theorem d_Mo_turn_20 : decode (yB Y_Mo_turn) 20 = .ok (.iconst (-1), 1) := by decide +kernel
theorem d_Mo_turn_21 : decode (yB Y_Mo_turn) 21 = .ok (.invokevirtual 165, 3) := by decide +kernel
theorem d_Mo_turn_24 : decode (yB Y_Mo_turn) 24 = .ok (.ireturn, 1) := by decide +kernel
theorem d_Mo_turn_25 : decode (yB Y_Mo_turn) 25 = .ok (.aload_n 0, 1) := by decide +kernel
theorem d_Mo_turn_26 : decode (yB Y_Mo_turn) 26 = .ok (.iconst 0, 1) := by decide +kernel
theorem d_Mo_turn_27 : decode (yB Y_Mo_turn) 27 = .ok (.putfield 162, 3) := by decide +kernel
theorem d_Mo_turn_30 : decode (yB Y_Mo_turn) 30 = .ok (.aload_n 0, 1) := by decide +kernel
theorem d_Mo_turn_31 : decode (yB Y_Mo_turn) 31 = .ok (.bipush 8, 2) := by decide +kernel
theorem d_Mo_turn_33 : decode (yB Y_Mo_turn) 33 = .ok (.iload_n 1, 1) := by decide +kernel
theorem d_Mo_turn_34 : decode (yB Y_Mo_turn) 34 = .ok (.iadd, 1) := by decide +kernel
theorem d_Mo_turn_35 : decode (yB Y_Mo_turn) 35 = .ok (.iload_n 2, 1) := by decide +kernel
theorem d_Mo_turn_36 : decode (yB Y_Mo_turn) 36 = .ok (.invokevirtual 205, 3) := by decide +kernel
theorem d_Mo_turn_39 : decode (yB Y_Mo_turn) 39 = .ok (.ireturn, 1) := by decide +kernel
def F_Mo_turn_b19 (n : Nat) (E : zE) (S : zS) (a0 : Nat) (M : zH) : Option (Int32 × zH) :=
  (zck S a0 11).bind fun u_1 =>
  (F_Mo_tell n E S a0 (-1) M).bind fun q_2 =>
  some (q_2.1, q_2.2)
def F_Mo_turn (n : Nat) (E : zE) (S : zS) (a0 : Nat) (x1 : Int32) (x2 : Int32) (M : zH) : Option (Int32 × zH) :=
  (zpI S M a0 11 0 0).bind fun m_3 =>
  (F_Mo_isRing n E S x1 m_3).bind fun q_4 =>
  if q_4.1 = true then
    (F_Mo_isField n E S x2 q_4.2).bind fun q_6 =>
    if q_6.1 = true then
      (zpI S q_6.2 a0 11 8 0).bind fun m_8 =>
      (zck S a0 11).bind fun u_9 =>
      (F_Mo_change n E S a0 (8 + x1) x2 m_8).bind fun q_10 =>
      some (q_10.1, q_10.2)
    else
      F_Mo_turn_b19 n E S a0 q_6.2
  else
    F_Mo_turn_b19 n E S a0 q_4.2
theorem K_Mo_turn_b19 (n : Nat) (E : zE) (S : zS) (a0 : Nat) (M : zH) (r : Int32) (M' : zH)  (h : F_Mo_turn_b19 n E S a0 M = some (r, M')) : zG E Y_Mo_turn (some (.int r), S, M') 19 [(0, .ref a0)] [] S M 0 0 := by
  unfold F_Mo_turn_b19 at h
  refine zi_aload_n 0 d_Mo_turn_19 rfl ?_
  refine zi_iconst (-1) d_Mo_turn_20 rfl ?_
  obtain ⟨u_1, eu_1, h⟩ := zbind h
  obtain ⟨q_2, eq_2, h⟩ := zbind h
  refine zo_virt (k' := 0) (n' := 0) 24 [.int (-1)] [] [.int q_2.1] zkd_11 (zck_s eu_1) (C_Mo_tell n E S a0 (-1) M q_2.1 q_2.2 eq_2) d_Mo_turn_21 tw_1408 tw_1405 tw_1407 ts_36 tw_13 dd_Mo_tell ⟨Nat.le_of_ble_eq_true rfl, Nat.le_of_ble_eq_true rfl, Nat.le_of_ble_eq_true rfl, Nat.le_of_ble_eq_true rfl⟩ (Nat.le_of_ble_eq_true rfl) rfl rfl rfl rfl ?_
  cases h
  exact zo_ret d_Mo_turn_24 (Nat.le_of_ble_eq_true rfl) (Nat.le_of_ble_eq_true rfl) rfl
theorem K_Mo_turn (n : Nat) (E : zE) (S : zS) (a0 : Nat) (x1 : Int32) (x2 : Int32) (M : zH) (r : Int32) (M' : zH)  (h : F_Mo_turn n E S a0 x1 x2 M = some (r, M')) : zG E Y_Mo_turn (some (.int r), S, M') 0 [(0, .ref a0), (1, .int x1), (2, .int x2)] [] S M 0 0 := by
  unfold F_Mo_turn at h
  refine zi_aload_n 0 d_Mo_turn_0 rfl ?_
  refine zi_iconst 0 d_Mo_turn_1 rfl ?_
  obtain ⟨m_3, em_3, h⟩ := zbind h
  refine zo_putI 5 zkd_11 0 d_Mo_turn_2 em_3 rfl rfl rfl tw_1229 rfl ?_
  refine zi_iload_n 1 d_Mo_turn_5 rfl ?_
  obtain ⟨q_4, eq_4, h⟩ := zbind h
  refine zo_stat (k' := 0) (n' := 0) 9 [.int x1] [] [.int (bI q_4.1)] (C_Mo_isRing n E S x1 m_3 q_4.1 q_4.2 eq_4) d_Mo_turn_6 tw_1434 tw_1432 tw_1433 tw_13 dd_Mo_isRing ⟨Nat.le_of_ble_eq_true rfl, Nat.le_of_ble_eq_true rfl, Nat.le_of_ble_eq_true rfl, Nat.le_of_ble_eq_true rfl⟩ (Nat.le_of_ble_eq_true rfl) rfl rfl rfl rfl ?_
  refine zo_ifeqB d_Mo_turn_9 rfl 12 rfl (fun c_5 => ?_) (fun c_5 => ?_)
  · rw [if_neg c_5] at h
    refine zi_lo [(0, .ref a0)] [0] rfl ?_
    exact K_Mo_turn_b19 n E S a0 q_4.2 r M'  h
  · rw [if_pos c_5] at h
    refine zi_iload_n 2 d_Mo_turn_12 rfl ?_
    obtain ⟨q_6, eq_6, h⟩ := zbind h
    refine zo_stat (k' := 0) (n' := 0) 16 [.int x2] [] [.int (bI q_6.1)] (C_Mo_isField n E S x2 q_4.2 q_6.1 q_6.2 eq_6) d_Mo_turn_13 tw_1438 tw_1436 tw_1437 tw_13 dd_Mo_isField ⟨Nat.le_of_ble_eq_true rfl, Nat.le_of_ble_eq_true rfl, Nat.le_of_ble_eq_true rfl, Nat.le_of_ble_eq_true rfl⟩ (Nat.le_of_ble_eq_true rfl) rfl rfl rfl rfl ?_
    refine zo_ifneB d_Mo_turn_16 rfl 19 rfl (fun c_7 => ?_) (fun c_7 => ?_)
    · rw [if_pos c_7] at h
      refine zi_aload_n 0 d_Mo_turn_25 rfl ?_
      refine zi_iconst 0 d_Mo_turn_26 rfl ?_
      obtain ⟨m_8, em_8, h⟩ := zbind h
      refine zo_putI 30 zkd_11 8 d_Mo_turn_27 em_8 rfl rfl rfl tw_1237 rfl ?_
      refine zi_aload_n 0 d_Mo_turn_30 rfl ?_
      refine zi_bipush 8 d_Mo_turn_31 rfl ?_
      refine zi_iload_n 1 d_Mo_turn_33 rfl ?_
      refine zi_iadd d_Mo_turn_34 ?_
      refine zi_iload_n 2 d_Mo_turn_35 rfl ?_
      obtain ⟨u_9, eu_9, h⟩ := zbind h
      obtain ⟨q_10, eq_10, h⟩ := zbind h
      refine zo_virt (k' := 0) (n' := 0) 39 [.int (8 + x1), .int x2] [] [.int q_10.1] zkd_11 (zck_s eu_9) (C_Mo_change n E S a0 (8 + x1) x2 m_8 q_10.1 q_10.2 eq_10) d_Mo_turn_36 tw_1480 tw_1477 tw_1479 ts_45 tw_13 dd_Mo_change ⟨Nat.le_of_ble_eq_true rfl, Nat.le_of_ble_eq_true rfl, Nat.le_of_ble_eq_true rfl, Nat.le_of_ble_eq_true rfl⟩ (Nat.le_of_ble_eq_true rfl) rfl rfl rfl rfl ?_
      cases h
      exact zo_ret d_Mo_turn_39 (Nat.le_of_ble_eq_true rfl) (Nat.le_of_ble_eq_true rfl) rfl
    · rw [if_neg c_7] at h
      refine zi_lo [(0, .ref a0)] [0] rfl ?_
      exact K_Mo_turn_b19 n E S a0 q_6.2 r M'  h
theorem C_Mo_turn (n : Nat) (E : zE) (S : zS) (a0 : Nat) (x1 : Int32) (x2 : Int32) (M : zH) (r : Int32) (M' : zH) (h : F_Mo_turn n E S a0 x1 x2 M = some (r, M')) : zC E Y_Mo_turn [.ref a0, .int x1, .int x2] S M (some (.int r), S, M') :=
  zC.of (Or.inl (show plainName "NightColanderModel" = true by decide)) (Nat.le_of_ble_eq_true rfl) (trivial) (K_Mo_turn n E S a0 x1 x2 M r M' h)
theorem d_Mo_bucketAt_0 : decode (yB Y_Mo_bucketAt) 0 = .ok (.iconst (-1), 1) := by decide +kernel
theorem d_Mo_bucketAt_1 : decode (yB Y_Mo_bucketAt) 1 = .ok (.istore_n 2, 1) := by decide +kernel
theorem d_Mo_bucketAt_2 : decode (yB Y_Mo_bucketAt) 2 = .ok (.iconst 0, 1) := by decide +kernel
theorem d_Mo_bucketAt_3 : decode (yB Y_Mo_bucketAt) 3 = .ok (.istore_n 3, 1) := by decide +kernel
theorem d_Mo_bucketAt_4 : decode (yB Y_Mo_bucketAt) 4 = .ok (.iload_n 3, 1) := by decide +kernel
theorem d_Mo_bucketAt_5 : decode (yB Y_Mo_bucketAt) 5 = .ok (.aload_n 0, 1) := by decide +kernel
theorem d_Mo_bucketAt_6 : decode (yB Y_Mo_bucketAt) 6 = .ok (.getfield 13, 3) := by decide +kernel
theorem d_Mo_bucketAt_9 : decode (yB Y_Mo_bucketAt) 9 = .ok (.iconst 0, 1) := by decide +kernel
theorem d_Mo_bucketAt_10 : decode (yB Y_Mo_bucketAt) 10 = .ok (.iaload, 1) := by decide +kernel
theorem d_Mo_bucketAt_11 : decode (yB Y_Mo_bucketAt) 11 = .ok (.if_icmp .ge 28, 3) := by decide +kernel
theorem d_Mo_bucketAt_14 : decode (yB Y_Mo_bucketAt) 14 = .ok (.aload_n 0, 1) := by decide +kernel
theorem d_Mo_bucketAt_15 : decode (yB Y_Mo_bucketAt) 15 = .ok (.getfield 13, 3) := by decide +kernel
theorem d_Mo_bucketAt_18 : decode (yB Y_Mo_bucketAt) 18 = .ok (.bipush 51, 2) := by decide +kernel
theorem d_Mo_bucketAt_20 : decode (yB Y_Mo_bucketAt) 20 = .ok (.iload_n 3, 1) := by decide +kernel
theorem d_Mo_bucketAt_21 : decode (yB Y_Mo_bucketAt) 21 = .ok (.iadd, 1) := by decide +kernel
theorem d_Mo_bucketAt_22 : decode (yB Y_Mo_bucketAt) 22 = .ok (.iaload, 1) := by decide +kernel
theorem d_Mo_bucketAt_23 : decode (yB Y_Mo_bucketAt) 23 = .ok (.iload_n 1, 1) := by decide +kernel
theorem d_Mo_bucketAt_24 : decode (yB Y_Mo_bucketAt) 24 = .ok (.if_icmp .ne 7, 3) := by decide +kernel
theorem d_Mo_bucketAt_27 : decode (yB Y_Mo_bucketAt) 27 = .ok (.iload_n 3, 1) := by decide +kernel
theorem d_Mo_bucketAt_28 : decode (yB Y_Mo_bucketAt) 28 = .ok (.goto 4, 3) := by decide +kernel
theorem d_Mo_bucketAt_31 : decode (yB Y_Mo_bucketAt) 31 = .ok (.iload_n 2, 1) := by decide +kernel
theorem d_Mo_bucketAt_32 : decode (yB Y_Mo_bucketAt) 32 = .ok (.istore_n 2, 1) := by decide +kernel
theorem d_Mo_bucketAt_33 : decode (yB Y_Mo_bucketAt) 33 = .ok (.iinc 3 1, 3) := by decide +kernel
theorem d_Mo_bucketAt_36 : decode (yB Y_Mo_bucketAt) 36 = .ok (.goto (-32), 3) := by decide +kernel
theorem d_Mo_bucketAt_39 : decode (yB Y_Mo_bucketAt) 39 = .ok (.iload_n 2, 1) := by decide +kernel
theorem d_Mo_bucketAt_40 : decode (yB Y_Mo_bucketAt) 40 = .ok (.ireturn, 1) := by decide +kernel
def F_Mo_bucketAt_b32 (n : Nat) (E : zE) (S : zS) (r4 : Nat × Int32 × Int32 × Int32 × zH → Option (Int32 × zH)) (a0 : Nat) (x1 : Int32) (x3 : Int32) (s0 : Int32) (M : zH) : Option (Int32 × zH) :=
  r4 (a0, x1, s0, x3 + 1, M)
def F_Mo_bucketAt_L4 (n : Nat) (E : zE) (S : zS) (r4 : Nat × Int32 × Int32 × Int32 × zH → Option (Int32 × zH)) (a0 : Nat) (x1 : Int32) (x2 : Int32) (x3 : Int32) (M : zH) : Option (Int32 × zH) :=
  (zgR S a0 11 3).bind fun b_1 =>
  (zldI S M b_1 0).bind fun v_2 =>
  if v_2 ≤ x3 then
    some (x2, M)
  else
    (zldI S M b_1 (51 + x3)).bind fun v_4 =>
    if v_4 = x1 then
      F_Mo_bucketAt_b32 n E S r4 a0 x1 x3 x3 M
    else
      F_Mo_bucketAt_b32 n E S r4 a0 x1 x3 x2 M
def F_Mo_bucketAt_b4 (n : Nat) (E : zE) (S : zS) : Nat × Int32 × Int32 × Int32 × zH → Option (Int32 × zH) := zfix (fun r4 s => F_Mo_bucketAt_L4 n E S r4 s.1 s.2.1 s.2.2.1 s.2.2.2.1 s.2.2.2.2) n
def F_Mo_bucketAt (n : Nat) (E : zE) (S : zS) (a0 : Nat) (x1 : Int32) (M : zH) : Option (Int32 × zH) :=
  F_Mo_bucketAt_b4 n E S (a0, x1, (-1), 0, M)
theorem K_Mo_bucketAt_b32 (n : Nat) (E : zE) (S : zS) (r4 : Nat × Int32 × Int32 × Int32 × zH → Option (Int32 × zH)) (a0 : Nat) (x1 : Int32) (x3 : Int32) (s0 : Int32) (M : zH) (r : Int32) (M' : zH) (hr4 : ∀ (a0 : Nat) (x1 : Int32) (x2 : Int32) (x3 : Int32) (M : zH), r4 (a0, x1, x2, x3, M) = some (r, M') → zG E Y_Mo_bucketAt (some (.int r), S, M') 4 [(0, .ref a0), (1, .int x1), (2, .int x2), (3, .int x3)] [] S M 0 0) (h : F_Mo_bucketAt_b32 n E S r4 a0 x1 x3 s0 M = some (r, M')) : zG E Y_Mo_bucketAt (some (.int r), S, M') 32 [(0, .ref a0), (1, .int x1), (3, .int x3)] [.int s0] S M 0 0 := by
  unfold F_Mo_bucketAt_b32 at h
  refine zi_istore_n [(2, .int s0), (0, .ref a0), (1, .int x1), (3, .int x3)] d_Mo_bucketAt_32 (by decide) rfl ?_
  refine zi_iinc 3 (x3 + 1) [(3, .int (x3 + 1)), (2, .int s0), (0, .ref a0), (1, .int x1)] d_Mo_bucketAt_33 rfl rfl (by decide) rfl ?_
  refine zi_goto (tgt := 4) d_Mo_bucketAt_36 rfl ?_
  refine zi_lo [(0, .ref a0), (1, .int x1), (2, .int s0), (3, .int (x3 + 1))] [2, 3, 1, 0] rfl ?_
  exact hr4 a0 x1 s0 (x3 + 1) M h
theorem K_Mo_bucketAt_L4 (n : Nat) (E : zE) (S : zS) (r4 : Nat × Int32 × Int32 × Int32 × zH → Option (Int32 × zH)) (a0 : Nat) (x1 : Int32) (x2 : Int32) (x3 : Int32) (M : zH) (r : Int32) (M' : zH) (hr4 : ∀ (a0 : Nat) (x1 : Int32) (x2 : Int32) (x3 : Int32) (M : zH), r4 (a0, x1, x2, x3, M) = some (r, M') → zG E Y_Mo_bucketAt (some (.int r), S, M') 4 [(0, .ref a0), (1, .int x1), (2, .int x2), (3, .int x3)] [] S M 0 0) (h : F_Mo_bucketAt_L4 n E S r4 a0 x1 x2 x3 M = some (r, M')) : zG E Y_Mo_bucketAt (some (.int r), S, M') 4 [(0, .ref a0), (1, .int x1), (2, .int x2), (3, .int x3)] [] S M 0 0 := by
  unfold F_Mo_bucketAt_L4 at h
  refine zi_iload_n 3 d_Mo_bucketAt_4 rfl ?_
  refine zi_aload_n 0 d_Mo_bucketAt_5 rfl ?_
  obtain ⟨b_1, eb_1, h⟩ := zbind h
  refine zo_getR 9 zkd_11 3 d_Mo_bucketAt_6 eb_1 rfl tw_1232 rfl ?_
  refine zi_iconst 0 d_Mo_bucketAt_9 rfl ?_
  obtain ⟨v_2, ev_2, h⟩ := zbind h
  refine zo_iald 11 d_Mo_bucketAt_10 ev_2 rfl ?_
  refine zi_icmp_ge (tgt := 39) d_Mo_bucketAt_11 rfl (fun c_3 => ?_) (fun c_3 => ?_)
  · rw [if_pos c_3] at h
    refine zi_iload_n 2 d_Mo_bucketAt_39 rfl ?_
    cases h
    exact zo_ret d_Mo_bucketAt_40 (Nat.le_of_ble_eq_true rfl) (Nat.le_of_ble_eq_true rfl) rfl
  · rw [if_neg c_3] at h
    refine zi_aload_n 0 d_Mo_bucketAt_14 rfl ?_
    refine zo_getR 18 zkd_11 3 d_Mo_bucketAt_15 eb_1 rfl tw_1232 rfl ?_
    refine zi_bipush 51 d_Mo_bucketAt_18 rfl ?_
    refine zi_iload_n 3 d_Mo_bucketAt_20 rfl ?_
    refine zi_iadd d_Mo_bucketAt_21 ?_
    obtain ⟨v_4, ev_4, h⟩ := zbind h
    refine zo_iald 23 d_Mo_bucketAt_22 ev_4 rfl ?_
    refine zi_iload_n 1 d_Mo_bucketAt_23 rfl ?_
    refine zi_icmp_ne (tgt := 31) d_Mo_bucketAt_24 rfl (fun c_5 => ?_) (fun c_5 => ?_)
    · rw [if_neg c_5] at h
      refine zi_iload_n 2 d_Mo_bucketAt_31 rfl ?_
      refine zi_lo [(0, .ref a0), (1, .int x1), (3, .int x3)] [0, 1, 3] rfl ?_
      exact K_Mo_bucketAt_b32 n E S r4 a0 x1 x3 x2 M r M' hr4 h
    · rw [if_pos c_5] at h
      refine zi_iload_n 3 d_Mo_bucketAt_27 rfl ?_
      refine zi_goto (tgt := 32) d_Mo_bucketAt_28 rfl ?_
      refine zi_lo [(0, .ref a0), (1, .int x1), (3, .int x3)] [0, 1, 3] rfl ?_
      exact K_Mo_bucketAt_b32 n E S r4 a0 x1 x3 x3 M r M' hr4 h
theorem K_Mo_bucketAt_b4 (n : Nat) (E : zE) (S : zS) (a0 : Nat) (x1 : Int32) (x2 : Int32) (x3 : Int32) (M : zH) (r : Int32) (M' : zH)  (h : F_Mo_bucketAt_b4 n E S (a0, x1, x2, x3, M) = some (r, M')) : zG E Y_Mo_bucketAt (some (.int r), S, M') 4 [(0, .ref a0), (1, .int x1), (2, .int x2), (3, .int x3)] [] S M 0 0 := by
  have key : ∀ (k : Nat) (a0 : Nat) (x1 : Int32) (x2 : Int32) (x3 : Int32) (M : zH), zfix (fun r4 s => F_Mo_bucketAt_L4 n E S r4 s.1 s.2.1 s.2.2.1 s.2.2.2.1 s.2.2.2.2) k (a0, x1, x2, x3, M) = some (r, M') → zG E Y_Mo_bucketAt (some (.int r), S, M') 4 [(0, .ref a0), (1, .int x1), (2, .int x2), (3, .int x3)] [] S M 0 0 := by
    intro k
    induction k with
    | zero => intro a0 x1 x2 x3 M h; cases h
    | succ k ih => intro a0 x1 x2 x3 M h; exact K_Mo_bucketAt_L4 n E S _ a0 x1 x2 x3 M r M'  (fun a0 x1 x2 x3 M h => ih a0 x1 x2 x3 M h) h
  exact key n a0 x1 x2 x3 M h
theorem K_Mo_bucketAt (n : Nat) (E : zE) (S : zS) (a0 : Nat) (x1 : Int32) (M : zH) (r : Int32) (M' : zH)  (h : F_Mo_bucketAt n E S a0 x1 M = some (r, M')) : zG E Y_Mo_bucketAt (some (.int r), S, M') 0 [(0, .ref a0), (1, .int x1)] [] S M 0 0 := by
  unfold F_Mo_bucketAt at h
  refine zi_iconst (-1) d_Mo_bucketAt_0 rfl ?_
  refine zi_istore_n [(2, .int (-1)), (0, .ref a0), (1, .int x1)] d_Mo_bucketAt_1 (by decide) rfl ?_
  refine zi_iconst 0 d_Mo_bucketAt_2 rfl ?_
  refine zi_istore_n [(3, .int 0), (2, .int (-1)), (0, .ref a0), (1, .int x1)] d_Mo_bucketAt_3 (by decide) rfl ?_
  refine zi_lo [(0, .ref a0), (1, .int x1), (2, .int (-1)), (3, .int 0)] [2, 3, 1, 0] rfl ?_
  exact K_Mo_bucketAt_b4 n E S a0 x1 (-1) 0 M r M'  h
theorem C_Mo_bucketAt (n : Nat) (E : zE) (S : zS) (a0 : Nat) (x1 : Int32) (M : zH) (r : Int32) (M' : zH) (h : F_Mo_bucketAt n E S a0 x1 M = some (r, M')) : zC E Y_Mo_bucketAt [.ref a0, .int x1] S M (some (.int r), S, M') :=
  zC.of (Or.inl (show plainName "NightColanderModel" = true by decide)) (Nat.le_of_ble_eq_true rfl) (trivial) (K_Mo_bucketAt n E S a0 x1 M r M' h)
theorem d_Mo_bucket_0 : decode (yB Y_Mo_bucket) 0 = .ok (.aload_n 0, 1) := by decide +kernel
theorem d_Mo_bucket_1 : decode (yB Y_Mo_bucket) 1 = .ok (.iconst 0, 1) := by decide +kernel
theorem d_Mo_bucket_2 : decode (yB Y_Mo_bucket) 2 = .ok (.putfield 156, 3) := by decide +kernel
theorem d_Mo_bucket_5 : decode (yB Y_Mo_bucket) 5 = .ok (.iload_n 1, 1) := by decide +kernel
theorem d_Mo_bucket_6 : decode (yB Y_Mo_bucket) 6 = .ok (.i2l, 1) := by decide +kernel
theorem d_Mo_bucket_7 : decode (yB Y_Mo_bucket) 7 = .ok (.lconst 1, 1) := by decide +kernel
theorem d_Mo_bucket_8 : decode (yB Y_Mo_bucket) 8 = .ok (.ldc2_w 209, 3) := by decide +kernel
theorem d_Mo_bucket_11 : decode (yB Y_Mo_bucket) 11 = .ok (.invokestatic 176, 3) := by decide +kernel
theorem d_Mo_bucket_14 : decode (yB Y_Mo_bucket) 14 = .ok (.ifCond .eq 10, 3) := by decide +kernel
theorem d_Mo_bucket_17 : decode (yB Y_Mo_bucket) 17 = .ok (.iload_n 2, 1) := by decide +kernel
theorem d_Mo_bucket_18 : decode (yB Y_Mo_bucket) 18 = .ok (.invokestatic 194, 3) := by decide +kernel
theorem d_Mo_bucket_21 : decode (yB Y_Mo_bucket) 21 = .ok (.ifCond .ne 9, 3) := by decide +kernel
theorem d_Mo_bucket_24 : decode (yB Y_Mo_bucket) 24 = .ok (.aload_n 0, 1) := by decide +kernel
theorem d_Mo_bucket_25 : decode (yB Y_Mo_bucket) 25 = .ok (.iconst (-1), 1) := by decide +kernel
theorem d_Mo_bucket_26 : decode (yB Y_Mo_bucket) 26 = .ok (.invokevirtual 165, 3) := by decide +kernel
theorem d_Mo_bucket_29 : decode (yB Y_Mo_bucket) 29 = .ok (.ireturn, 1) := by decide +kernel
theorem d_Mo_bucket_30 : decode (yB Y_Mo_bucket) 30 = .ok (.aload_n 0, 1) := by decide +kernel
theorem d_Mo_bucket_31 : decode (yB Y_Mo_bucket) 31 = .ok (.iload_n 2, 1) := by decide +kernel
theorem d_Mo_bucket_32 : decode (yB Y_Mo_bucket) 32 = .ok (.invokevirtual 211, 3) := by decide +kernel
theorem d_Mo_bucket_35 : decode (yB Y_Mo_bucket) 35 = .ok (.iconst (-1), 1) := by decide +kernel
theorem d_Mo_bucket_36 : decode (yB Y_Mo_bucket) 36 = .ok (.if_icmp .eq 10, 3) := by decide +kernel
theorem d_Mo_bucket_39 : decode (yB Y_Mo_bucket) 39 = .ok (.aload_n 0, 1) := by decide +kernel
theorem d_Mo_bucket_40 : decode (yB Y_Mo_bucket) 40 = .ok (.bipush (-3), 2) := by decide +kernel
theorem d_Mo_bucket_42 : decode (yB Y_Mo_bucket) 42 = .ok (.invokevirtual 165, 3) := by decide +kernel
theorem d_Mo_bucket_45 : decode (yB Y_Mo_bucket) 45 = .ok (.ireturn, 1) := by decide +kernel
theorem d_Mo_bucket_46 : decode (yB Y_Mo_bucket) 46 = .ok (.aload_n 0, 1) := by decide +kernel
theorem d_Mo_bucket_47 : decode (yB Y_Mo_bucket) 47 = .ok (.getfield 13, 3) := by decide +kernel
theorem d_Mo_bucket_50 : decode (yB Y_Mo_bucket) 50 = .ok (.iconst 0, 1) := by decide +kernel
theorem d_Mo_bucket_51 : decode (yB Y_Mo_bucket) 51 = .ok (.iaload, 1) := by decide +kernel
theorem d_Mo_bucket_52 : decode (yB Y_Mo_bucket) 52 = .ok (.istore_n 3, 1) := by decide +kernel
theorem d_Mo_bucket_53 : decode (yB Y_Mo_bucket) 53 = .ok (.iload_n 3, 1) := by decide +kernel
theorem d_Mo_bucket_54 : decode (yB Y_Mo_bucket) 54 = .ok (.iconst 3, 1) := by decide +kernel
theorem d_Mo_bucket_55 : decode (yB Y_Mo_bucket) 55 = .ok (.if_icmp .ne 10, 3) := by decide +kernel
theorem d_Mo_bucket_58 : decode (yB Y_Mo_bucket) 58 = .ok (.aload_n 0, 1) := by decide +kernel
theorem d_Mo_bucket_59 : decode (yB Y_Mo_bucket) 59 = .ok (.bipush (-5), 2) := by decide +kernel
theorem d_Mo_bucket_61 : decode (yB Y_Mo_bucket) 61 = .ok (.invokevirtual 165, 3) := by decide +kernel
theorem d_Mo_bucket_64 : decode (yB Y_Mo_bucket) 64 = .ok (.ireturn, 1) := by decide +kernel
theorem d_Mo_bucket_65 : decode (yB Y_Mo_bucket) 65 = .ok (.aload_n 0, 1) := by decide +kernel
theorem d_Mo_bucket_66 : decode (yB Y_Mo_bucket) 66 = .ok (.getfield 13, 3) := by decide +kernel
theorem d_Mo_bucket_69 : decode (yB Y_Mo_bucket) 69 = .ok (.bipush 54, 2) := by decide +kernel
theorem d_Mo_bucket_71 : decode (yB Y_Mo_bucket) 71 = .ok (.iload_n 3, 1) := by decide +kernel
theorem d_Mo_bucket_72 : decode (yB Y_Mo_bucket) 72 = .ok (.iadd, 1) := by decide +kernel
theorem d_Mo_bucket_73 : decode (yB Y_Mo_bucket) 73 = .ok (.iload_n 1, 1) := by decide +kernel
theorem d_Mo_bucket_74 : decode (yB Y_Mo_bucket) 74 = .ok (.iastore, 1) := by decide +kernel
theorem d_Mo_bucket_75 : decode (yB Y_Mo_bucket) 75 = .ok (.aload_n 0, 1) := by decide +kernel
theorem d_Mo_bucket_76 : decode (yB Y_Mo_bucket) 76 = .ok (.getfield 13, 3) := by decide +kernel
theorem d_Mo_bucket_79 : decode (yB Y_Mo_bucket) 79 = .ok (.bipush 48, 2) := by decide +kernel
theorem d_Mo_bucket_81 : decode (yB Y_Mo_bucket) 81 = .ok (.iload_n 3, 1) := by decide +kernel
theorem d_Mo_bucket_82 : decode (yB Y_Mo_bucket) 82 = .ok (.iadd, 1) := by decide +kernel
theorem d_Mo_bucket_83 : decode (yB Y_Mo_bucket) 83 = .ok (.iconst 0, 1) := by decide +kernel
theorem d_Mo_bucket_84 : decode (yB Y_Mo_bucket) 84 = .ok (.iastore, 1) := by decide +kernel
theorem d_Mo_bucket_85 : decode (yB Y_Mo_bucket) 85 = .ok (.aload_n 0, 1) := by decide +kernel
theorem d_Mo_bucket_86 : decode (yB Y_Mo_bucket) 86 = .ok (.getfield 13, 3) := by decide +kernel
theorem d_Mo_bucket_89 : decode (yB Y_Mo_bucket) 89 = .ok (.bipush 51, 2) := by decide +kernel
theorem d_Mo_bucket_91 : decode (yB Y_Mo_bucket) 91 = .ok (.iload_n 3, 1) := by decide +kernel
theorem d_Mo_bucket_92 : decode (yB Y_Mo_bucket) 92 = .ok (.iadd, 1) := by decide +kernel
theorem d_Mo_bucket_93 : decode (yB Y_Mo_bucket) 93 = .ok (.iload_n 2, 1) := by decide +kernel
theorem d_Mo_bucket_94 : decode (yB Y_Mo_bucket) 94 = .ok (.iastore, 1) := by decide +kernel
theorem d_Mo_bucket_95 : decode (yB Y_Mo_bucket) 95 = .ok (.aload_n 0, 1) := by decide +kernel
theorem d_Mo_bucket_96 : decode (yB Y_Mo_bucket) 96 = .ok (.getfield 13, 3) := by decide +kernel
theorem d_Mo_bucket_99 : decode (yB Y_Mo_bucket) 99 = .ok (.iconst 0, 1) := by decide +kernel
theorem d_Mo_bucket_100 : decode (yB Y_Mo_bucket) 100 = .ok (.dup2, 1) := by decide +kernel
theorem d_Mo_bucket_101 : decode (yB Y_Mo_bucket) 101 = .ok (.iaload, 1) := by decide +kernel
theorem d_Mo_bucket_102 : decode (yB Y_Mo_bucket) 102 = .ok (.iconst 1, 1) := by decide +kernel
theorem d_Mo_bucket_103 : decode (yB Y_Mo_bucket) 103 = .ok (.iadd, 1) := by decide +kernel
theorem d_Mo_bucket_104 : decode (yB Y_Mo_bucket) 104 = .ok (.iastore, 1) := by decide +kernel
theorem d_Mo_bucket_105 : decode (yB Y_Mo_bucket) 105 = .ok (.aload_n 0, 1) := by decide +kernel
theorem d_Mo_bucket_106 : decode (yB Y_Mo_bucket) 106 = .ok (.iload_n 3, 1) := by decide +kernel
theorem d_Mo_bucket_107 : decode (yB Y_Mo_bucket) 107 = .ok (.invokevirtual 180, 3) := by decide +kernel
theorem d_Mo_bucket_110 : decode (yB Y_Mo_bucket) 110 = .ok (.ireturn, 1) := by decide +kernel
def F_Mo_bucket_b24 (n : Nat) (E : zE) (S : zS) (a0 : Nat) (M : zH) : Option (Int32 × zH) :=
  (zck S a0 11).bind fun u_1 =>
  (F_Mo_tell n E S a0 (-1) M).bind fun q_2 =>
  some (q_2.1, q_2.2)
def F_Mo_bucket (n : Nat) (E : zE) (S : zS) (a0 : Nat) (x1 : Int32) (x2 : Int32) (M : zH) : Option (Int32 × zH) :=
  (zpI S M a0 11 0 0).bind fun m_3 =>
  (F_Mo_in n E S x1.toInt64 1 99 m_3).bind fun q_4 =>
  if q_4.1 = true then
    (F_Mo_isField n E S x2 q_4.2).bind fun q_6 =>
    if q_6.1 = true then
      (zck S a0 11).bind fun u_8 =>
      (F_Mo_bucketAt n E S a0 x2 q_6.2).bind fun q_9 =>
      if q_9.1 = (-1) then
        (zgR S a0 11 3).bind fun b_11 =>
        (zldI S q_9.2 b_11 0).bind fun v_12 =>
        if v_12 = 3 then
          (F_Mo_tell n E S a0 (-5) q_9.2).bind fun q_14 =>
          some (q_14.1, q_14.2)
        else
          (zstI S q_9.2 b_11 (54 + v_12) x1).bind fun m_15 =>
          (zstI S m_15 b_11 (48 + v_12) 0).bind fun m_16 =>
          (zstI S m_16 b_11 (51 + v_12) x2).bind fun m_17 =>
          (zldI S m_17 b_11 0).bind fun v_18 =>
          (zstI S m_17 b_11 0 (v_18 + 1)).bind fun m_19 =>
          (F_Mo_lasting n E S a0 v_12 m_19).bind fun q_20 =>
          some (q_20.1, q_20.2)
      else
        (F_Mo_tell n E S a0 (-3) q_9.2).bind fun q_21 =>
        some (q_21.1, q_21.2)
    else
      F_Mo_bucket_b24 n E S a0 q_6.2
  else
    F_Mo_bucket_b24 n E S a0 q_4.2
theorem K_Mo_bucket_b24 (n : Nat) (E : zE) (S : zS) (a0 : Nat) (M : zH) (r : Int32) (M' : zH)  (h : F_Mo_bucket_b24 n E S a0 M = some (r, M')) : zG E Y_Mo_bucket (some (.int r), S, M') 24 [(0, .ref a0)] [] S M 0 0 := by
  unfold F_Mo_bucket_b24 at h
  refine zi_aload_n 0 d_Mo_bucket_24 rfl ?_
  refine zi_iconst (-1) d_Mo_bucket_25 rfl ?_
  obtain ⟨u_1, eu_1, h⟩ := zbind h
  obtain ⟨q_2, eq_2, h⟩ := zbind h
  refine zo_virt (k' := 0) (n' := 0) 29 [.int (-1)] [] [.int q_2.1] zkd_11 (zck_s eu_1) (C_Mo_tell n E S a0 (-1) M q_2.1 q_2.2 eq_2) d_Mo_bucket_26 tw_1408 tw_1405 tw_1407 ts_36 tw_13 dd_Mo_tell ⟨Nat.le_of_ble_eq_true rfl, Nat.le_of_ble_eq_true rfl, Nat.le_of_ble_eq_true rfl, Nat.le_of_ble_eq_true rfl⟩ (Nat.le_of_ble_eq_true rfl) rfl rfl rfl rfl ?_
  cases h
  exact zo_ret d_Mo_bucket_29 (Nat.le_of_ble_eq_true rfl) (Nat.le_of_ble_eq_true rfl) rfl
theorem K_Mo_bucket (n : Nat) (E : zE) (S : zS) (a0 : Nat) (x1 : Int32) (x2 : Int32) (M : zH) (r : Int32) (M' : zH)  (h : F_Mo_bucket n E S a0 x1 x2 M = some (r, M')) : zG E Y_Mo_bucket (some (.int r), S, M') 0 [(0, .ref a0), (1, .int x1), (2, .int x2)] [] S M 0 0 := by
  unfold F_Mo_bucket at h
  refine zi_aload_n 0 d_Mo_bucket_0 rfl ?_
  refine zi_iconst 0 d_Mo_bucket_1 rfl ?_
  obtain ⟨m_3, em_3, h⟩ := zbind h
  refine zo_putI 5 zkd_11 0 d_Mo_bucket_2 em_3 rfl rfl rfl tw_1229 rfl ?_
  refine zi_iload_n 1 d_Mo_bucket_5 rfl ?_
  refine zi_i2l d_Mo_bucket_6 ?_
  refine zi_lconst 1 d_Mo_bucket_7 rfl ?_
  refine zi_ldc2 d_Mo_bucket_8 tw_1485 ?_
  obtain ⟨q_4, eq_4, h⟩ := zbind h
  refine zo_stat (k' := 0) (n' := 0) 14 [.long x1.toInt64, .long 1, .long 99] [] [.int (bI q_4.1)] (C_Mo_in n E S x1.toInt64 1 99 m_3 q_4.1 q_4.2 eq_4) d_Mo_bucket_11 tw_1419 tw_1417 tw_1418 tw_13 dd_Mo_in ⟨Nat.le_of_ble_eq_true rfl, Nat.le_of_ble_eq_true rfl, Nat.le_of_ble_eq_true rfl, Nat.le_of_ble_eq_true rfl⟩ (Nat.le_of_ble_eq_true rfl) rfl rfl rfl rfl ?_
  refine zo_ifeqB d_Mo_bucket_14 rfl 17 rfl (fun c_5 => ?_) (fun c_5 => ?_)
  · rw [if_neg c_5] at h
    refine zi_lo [(0, .ref a0)] [0] rfl ?_
    exact K_Mo_bucket_b24 n E S a0 q_4.2 r M'  h
  · rw [if_pos c_5] at h
    refine zi_iload_n 2 d_Mo_bucket_17 rfl ?_
    obtain ⟨q_6, eq_6, h⟩ := zbind h
    refine zo_stat (k' := 0) (n' := 0) 21 [.int x2] [] [.int (bI q_6.1)] (C_Mo_isField n E S x2 q_4.2 q_6.1 q_6.2 eq_6) d_Mo_bucket_18 tw_1438 tw_1436 tw_1437 tw_13 dd_Mo_isField ⟨Nat.le_of_ble_eq_true rfl, Nat.le_of_ble_eq_true rfl, Nat.le_of_ble_eq_true rfl, Nat.le_of_ble_eq_true rfl⟩ (Nat.le_of_ble_eq_true rfl) rfl rfl rfl rfl ?_
    refine zo_ifneB d_Mo_bucket_21 rfl 24 rfl (fun c_7 => ?_) (fun c_7 => ?_)
    · rw [if_pos c_7] at h
      refine zi_aload_n 0 d_Mo_bucket_30 rfl ?_
      refine zi_iload_n 2 d_Mo_bucket_31 rfl ?_
      obtain ⟨u_8, eu_8, h⟩ := zbind h
      obtain ⟨q_9, eq_9, h⟩ := zbind h
      refine zo_virt (k' := 0) (n' := 0) 35 [.int x2] [] [.int q_9.1] zkd_11 (zck_s eu_8) (C_Mo_bucketAt n E S a0 x2 q_6.2 q_9.1 q_9.2 eq_9) d_Mo_bucket_32 tw_1489 tw_1486 tw_1488 ts_46 tw_13 dd_Mo_bucketAt ⟨Nat.le_of_ble_eq_true rfl, Nat.le_of_ble_eq_true rfl, Nat.le_of_ble_eq_true rfl, Nat.le_of_ble_eq_true rfl⟩ (Nat.le_of_ble_eq_true rfl) rfl rfl rfl rfl ?_
      refine zi_iconst (-1) d_Mo_bucket_35 rfl ?_
      refine zi_icmp_eq (tgt := 46) d_Mo_bucket_36 rfl (fun c_10 => ?_) (fun c_10 => ?_)
      · rw [if_pos c_10] at h
        refine zi_aload_n 0 d_Mo_bucket_46 rfl ?_
        obtain ⟨b_11, eb_11, h⟩ := zbind h
        refine zo_getR 50 zkd_11 3 d_Mo_bucket_47 eb_11 rfl tw_1232 rfl ?_
        refine zi_iconst 0 d_Mo_bucket_50 rfl ?_
        obtain ⟨v_12, ev_12, h⟩ := zbind h
        refine zo_iald 52 d_Mo_bucket_51 ev_12 rfl ?_
        refine zi_istore_n [(3, .int v_12), (0, .ref a0), (1, .int x1), (2, .int x2)] d_Mo_bucket_52 (by decide) rfl ?_
        refine zi_iload_n 0 d_Mo_bucket_53 rfl ?_
        refine zi_iconst 3 d_Mo_bucket_54 rfl ?_
        refine zi_icmp_ne (tgt := 65) d_Mo_bucket_55 rfl (fun c_13 => ?_) (fun c_13 => ?_)
        · rw [if_neg c_13] at h
          refine zi_aload_n 1 d_Mo_bucket_65 rfl ?_
          refine zo_getR 69 zkd_11 3 d_Mo_bucket_66 eb_11 rfl tw_1232 rfl ?_
          refine zi_bipush 54 d_Mo_bucket_69 rfl ?_
          refine zi_iload_n 0 d_Mo_bucket_71 rfl ?_
          refine zi_iadd d_Mo_bucket_72 ?_
          refine zi_iload_n 2 d_Mo_bucket_73 rfl ?_
          obtain ⟨m_15, em_15, h⟩ := zbind h
          refine zo_iast 75 d_Mo_bucket_74 em_15 rfl ?_
          refine zi_aload_n 1 d_Mo_bucket_75 rfl ?_
          refine zo_getR 79 zkd_11 3 d_Mo_bucket_76 eb_11 rfl tw_1232 rfl ?_
          refine zi_bipush 48 d_Mo_bucket_79 rfl ?_
          refine zi_iload_n 0 d_Mo_bucket_81 rfl ?_
          refine zi_iadd d_Mo_bucket_82 ?_
          refine zi_iconst 0 d_Mo_bucket_83 rfl ?_
          obtain ⟨m_16, em_16, h⟩ := zbind h
          refine zo_iast 85 d_Mo_bucket_84 em_16 rfl ?_
          refine zi_aload_n 1 d_Mo_bucket_85 rfl ?_
          refine zo_getR 89 zkd_11 3 d_Mo_bucket_86 eb_11 rfl tw_1232 rfl ?_
          refine zi_bipush 51 d_Mo_bucket_89 rfl ?_
          refine zi_iload_n 0 d_Mo_bucket_91 rfl ?_
          refine zi_iadd d_Mo_bucket_92 ?_
          refine zi_iload_n 3 d_Mo_bucket_93 rfl ?_
          obtain ⟨m_17, em_17, h⟩ := zbind h
          refine zo_iast 95 d_Mo_bucket_94 em_17 rfl ?_
          refine zi_aload_n 1 d_Mo_bucket_95 rfl ?_
          refine zo_getR 99 zkd_11 3 d_Mo_bucket_96 eb_11 rfl tw_1232 rfl ?_
          refine zi_iconst 0 d_Mo_bucket_99 rfl ?_
          refine zi_dup2 d_Mo_bucket_100 rfl rfl ?_
          obtain ⟨v_18, ev_18, h⟩ := zbind h
          refine zo_iald 102 d_Mo_bucket_101 ev_18 rfl ?_
          refine zi_iconst 1 d_Mo_bucket_102 rfl ?_
          refine zi_iadd d_Mo_bucket_103 ?_
          obtain ⟨m_19, em_19, h⟩ := zbind h
          refine zo_iast 105 d_Mo_bucket_104 em_19 rfl ?_
          refine zi_aload_n 1 d_Mo_bucket_105 rfl ?_
          refine zi_iload_n 0 d_Mo_bucket_106 rfl ?_
          obtain ⟨q_20, eq_20, h⟩ := zbind h
          refine zo_virt (k' := 0) (n' := 0) 110 [.int v_12] [] [.int q_20.1] zkd_11 (zck_s eu_8) (C_Mo_lasting n E S a0 v_12 m_19 q_20.1 q_20.2 eq_20) d_Mo_bucket_107 tw_1427 tw_1424 tw_1426 ts_38 tw_13 dd_Mo_lasting ⟨Nat.le_of_ble_eq_true rfl, Nat.le_of_ble_eq_true rfl, Nat.le_of_ble_eq_true rfl, Nat.le_of_ble_eq_true rfl⟩ (Nat.le_of_ble_eq_true rfl) rfl rfl rfl rfl ?_
          cases h
          exact zo_ret d_Mo_bucket_110 (Nat.le_of_ble_eq_true rfl) (Nat.le_of_ble_eq_true rfl) rfl
        · rw [if_pos c_13] at h
          refine zi_aload_n 1 d_Mo_bucket_58 rfl ?_
          refine zi_bipush (-5) d_Mo_bucket_59 rfl ?_
          obtain ⟨q_14, eq_14, h⟩ := zbind h
          refine zo_virt (k' := 0) (n' := 0) 64 [.int (-5)] [] [.int q_14.1] zkd_11 (zck_s eu_8) (C_Mo_tell n E S a0 (-5) q_9.2 q_14.1 q_14.2 eq_14) d_Mo_bucket_61 tw_1408 tw_1405 tw_1407 ts_36 tw_13 dd_Mo_tell ⟨Nat.le_of_ble_eq_true rfl, Nat.le_of_ble_eq_true rfl, Nat.le_of_ble_eq_true rfl, Nat.le_of_ble_eq_true rfl⟩ (Nat.le_of_ble_eq_true rfl) rfl rfl rfl rfl ?_
          cases h
          exact zo_ret d_Mo_bucket_64 (Nat.le_of_ble_eq_true rfl) (Nat.le_of_ble_eq_true rfl) rfl
      · rw [if_neg c_10] at h
        refine zi_aload_n 0 d_Mo_bucket_39 rfl ?_
        refine zi_bipush (-3) d_Mo_bucket_40 rfl ?_
        obtain ⟨q_21, eq_21, h⟩ := zbind h
        refine zo_virt (k' := 0) (n' := 0) 45 [.int (-3)] [] [.int q_21.1] zkd_11 (zck_s eu_8) (C_Mo_tell n E S a0 (-3) q_9.2 q_21.1 q_21.2 eq_21) d_Mo_bucket_42 tw_1408 tw_1405 tw_1407 ts_36 tw_13 dd_Mo_tell ⟨Nat.le_of_ble_eq_true rfl, Nat.le_of_ble_eq_true rfl, Nat.le_of_ble_eq_true rfl, Nat.le_of_ble_eq_true rfl⟩ (Nat.le_of_ble_eq_true rfl) rfl rfl rfl rfl ?_
        cases h
        exact zo_ret d_Mo_bucket_45 (Nat.le_of_ble_eq_true rfl) (Nat.le_of_ble_eq_true rfl) rfl
    · rw [if_neg c_7] at h
      refine zi_lo [(0, .ref a0)] [0] rfl ?_
      exact K_Mo_bucket_b24 n E S a0 q_6.2 r M'  h
theorem C_Mo_bucket (n : Nat) (E : zE) (S : zS) (a0 : Nat) (x1 : Int32) (x2 : Int32) (M : zH) (r : Int32) (M' : zH) (h : F_Mo_bucket n E S a0 x1 x2 M = some (r, M')) : zC E Y_Mo_bucket [.ref a0, .int x1, .int x2] S M (some (.int r), S, M') :=
  zC.of (Or.inl (show plainName "NightColanderModel" = true by decide)) (Nat.le_of_ble_eq_true rfl) (trivial) (K_Mo_bucket n E S a0 x1 x2 M r M' h)
theorem d_Mo_setBucket_0 : decode (yB Y_Mo_setBucket) 0 = .ok (.iconst 1, 1) := by decide +kernel
theorem d_Mo_setBucket_1 : decode (yB Y_Mo_setBucket) 1 = .ok (.istore_n 2, 1) := by decide +kernel
theorem d_Mo_setBucket_2 : decode (yB Y_Mo_setBucket) 2 = .ok (.iload_n 2, 1) := by decide +kernel
theorem d_Mo_setBucket_3 : decode (yB Y_Mo_setBucket) 3 = .ok (.iconst 4, 1) := by decide +kernel
theorem d_Mo_setBucket_4 : decode (yB Y_Mo_setBucket) 4 = .ok (.if_icmp .ge 18, 3) := by decide +kernel
theorem d_Mo_setBucket_7 : decode (yB Y_Mo_setBucket) 7 = .ok (.aload_n 0, 1) := by decide +kernel
theorem d_Mo_setBucket_8 : decode (yB Y_Mo_setBucket) 8 = .ok (.getfield 103, 3) := by decide +kernel
theorem d_Mo_setBucket_11 : decode (yB Y_Mo_setBucket) 11 = .ok (.iload_n 2, 1) := by decide +kernel
theorem d_Mo_setBucket_12 : decode (yB Y_Mo_setBucket) 12 = .ok (.ldc2_w 228, 3) := by decide +kernel
theorem d_Mo_setBucket_15 : decode (yB Y_Mo_setBucket) 15 = .ok (.lastore, 1) := by decide +kernel
theorem d_Mo_setBucket_16 : decode (yB Y_Mo_setBucket) 16 = .ok (.iinc 2 1, 3) := by decide +kernel
theorem d_Mo_setBucket_19 : decode (yB Y_Mo_setBucket) 19 = .ok (.goto (-17), 3) := by decide +kernel
theorem d_Mo_setBucket_22 : decode (yB Y_Mo_setBucket) 22 = .ok (.aload_n 0, 1) := by decide +kernel
theorem d_Mo_setBucket_23 : decode (yB Y_Mo_setBucket) 23 = .ok (.getfield 103, 3) := by decide +kernel
theorem d_Mo_setBucket_26 : decode (yB Y_Mo_setBucket) 26 = .ok (.iconst 5, 1) := by decide +kernel
theorem d_Mo_setBucket_27 : decode (yB Y_Mo_setBucket) 27 = .ok (.iload_n 1, 1) := by decide +kernel
theorem d_Mo_setBucket_28 : decode (yB Y_Mo_setBucket) 28 = .ok (.i2l, 1) := by decide +kernel
theorem d_Mo_setBucket_29 : decode (yB Y_Mo_setBucket) 29 = .ok (.lastore, 1) := by decide +kernel
theorem d_Mo_setBucket_30 : decode (yB Y_Mo_setBucket) 30 = .ok (.aload_n 0, 1) := by decide +kernel
theorem d_Mo_setBucket_31 : decode (yB Y_Mo_setBucket) 31 = .ok (.getfield 103, 3) := by decide +kernel
theorem d_Mo_setBucket_34 : decode (yB Y_Mo_setBucket) 34 = .ok (.bipush 6, 2) := by decide +kernel
theorem d_Mo_setBucket_36 : decode (yB Y_Mo_setBucket) 36 = .ok (.aload_n 0, 1) := by decide +kernel
theorem d_Mo_setBucket_37 : decode (yB Y_Mo_setBucket) 37 = .ok (.getfield 13, 3) := by decide +kernel
theorem d_Mo_setBucket_40 : decode (yB Y_Mo_setBucket) 40 = .ok (.bipush 48, 2) := by decide +kernel
theorem d_Mo_setBucket_42 : decode (yB Y_Mo_setBucket) 42 = .ok (.iload_n 1, 1) := by decide +kernel
theorem d_Mo_setBucket_43 : decode (yB Y_Mo_setBucket) 43 = .ok (.iadd, 1) := by decide +kernel
theorem d_Mo_setBucket_44 : decode (yB Y_Mo_setBucket) 44 = .ok (.iaload, 1) := by decide +kernel
theorem d_Mo_setBucket_45 : decode (yB Y_Mo_setBucket) 45 = .ok (.i2l, 1) := by decide +kernel
theorem d_Mo_setBucket_46 : decode (yB Y_Mo_setBucket) 46 = .ok (.lastore, 1) := by decide +kernel
theorem d_Mo_setBucket_47 : decode (yB Y_Mo_setBucket) 47 = .ok (.return_, 1) := by decide +kernel
def F_Mo_setBucket_L2 (n : Nat) (E : zE) (S : zS) (r2 : Nat × Int32 × Int32 × zH → Option (zH)) (a0 : Nat) (x1 : Int32) (x2 : Int32) (M : zH) : Option (zH) :=
  if 4 ≤ x2 then
    (zgR S a0 11 35).bind fun b_2 =>
    (zstJ S M b_2 5 x1.toInt64).bind fun m_3 =>
    (zgR S a0 11 3).bind fun b_4 =>
    (zldI S m_3 b_4 (48 + x1)).bind fun v_5 =>
    (zstJ S m_3 b_2 6 v_5.toInt64).bind fun m_6 =>
    some (m_6)
  else
    (zgR S a0 11 35).bind fun b_7 =>
    (zstJ S M b_7 x2 (-1)).bind fun m_8 =>
    r2 (a0, x1, x2 + 1, m_8)
def F_Mo_setBucket_b2 (n : Nat) (E : zE) (S : zS) : Nat × Int32 × Int32 × zH → Option (zH) := zfix (fun r2 s => F_Mo_setBucket_L2 n E S r2 s.1 s.2.1 s.2.2.1 s.2.2.2) n
def F_Mo_setBucket (n : Nat) (E : zE) (S : zS) (a0 : Nat) (x1 : Int32) (M : zH) : Option (zH) :=
  F_Mo_setBucket_b2 n E S (a0, x1, 1, M)
theorem K_Mo_setBucket_L2 (n : Nat) (E : zE) (S : zS) (r2 : Nat × Int32 × Int32 × zH → Option (zH)) (a0 : Nat) (x1 : Int32) (x2 : Int32) (M : zH) (M' : zH) (hr2 : ∀ (a0 : Nat) (x1 : Int32) (x2 : Int32) (M : zH), r2 (a0, x1, x2, M) = some M' → zG E Y_Mo_setBucket (none, S, M') 2 [(0, .ref a0), (1, .int x1), (2, .int x2)] [] S M 0 0) (h : F_Mo_setBucket_L2 n E S r2 a0 x1 x2 M = some M') : zG E Y_Mo_setBucket (none, S, M') 2 [(0, .ref a0), (1, .int x1), (2, .int x2)] [] S M 0 0 := by
  unfold F_Mo_setBucket_L2 at h
  refine zi_iload_n 2 d_Mo_setBucket_2 rfl ?_
  refine zi_iconst 4 d_Mo_setBucket_3 rfl ?_
  refine zi_icmp_ge (tgt := 22) d_Mo_setBucket_4 rfl (fun c_1 => ?_) (fun c_1 => ?_)
  · rw [if_pos c_1] at h
    refine zi_aload_n 0 d_Mo_setBucket_22 rfl ?_
    obtain ⟨b_2, eb_2, h⟩ := zbind h
    refine zo_getR 26 zkd_11 35 d_Mo_setBucket_23 eb_2 rfl tw_1264 rfl ?_
    refine zi_iconst 5 d_Mo_setBucket_26 rfl ?_
    refine zi_iload_n 1 d_Mo_setBucket_27 rfl ?_
    refine zi_i2l d_Mo_setBucket_28 ?_
    obtain ⟨m_3, em_3, h⟩ := zbind h
    refine zo_last 30 d_Mo_setBucket_29 em_3 rfl ?_
    refine zi_aload_n 0 d_Mo_setBucket_30 rfl ?_
    refine zo_getR 34 zkd_11 35 d_Mo_setBucket_31 eb_2 rfl tw_1264 rfl ?_
    refine zi_bipush 6 d_Mo_setBucket_34 rfl ?_
    refine zi_aload_n 0 d_Mo_setBucket_36 rfl ?_
    obtain ⟨b_4, eb_4, h⟩ := zbind h
    refine zo_getR 40 zkd_11 3 d_Mo_setBucket_37 eb_4 rfl tw_1232 rfl ?_
    refine zi_bipush 48 d_Mo_setBucket_40 rfl ?_
    refine zi_iload_n 1 d_Mo_setBucket_42 rfl ?_
    refine zi_iadd d_Mo_setBucket_43 ?_
    obtain ⟨v_5, ev_5, h⟩ := zbind h
    refine zo_iald 45 d_Mo_setBucket_44 ev_5 rfl ?_
    refine zi_i2l d_Mo_setBucket_45 ?_
    obtain ⟨m_6, em_6, h⟩ := zbind h
    refine zo_last 47 d_Mo_setBucket_46 em_6 rfl ?_
    cases h
    exact zo_ret d_Mo_setBucket_47 (Nat.le_of_ble_eq_true rfl) (Nat.le_of_ble_eq_true rfl) rfl
  · rw [if_neg c_1] at h
    refine zi_aload_n 0 d_Mo_setBucket_7 rfl ?_
    obtain ⟨b_7, eb_7, h⟩ := zbind h
    refine zo_getR 11 zkd_11 35 d_Mo_setBucket_8 eb_7 rfl tw_1264 rfl ?_
    refine zi_iload_n 2 d_Mo_setBucket_11 rfl ?_
    refine zi_ldc2 d_Mo_setBucket_12 tw_1447 ?_
    obtain ⟨m_8, em_8, h⟩ := zbind h
    refine zo_last 16 d_Mo_setBucket_15 em_8 rfl ?_
    refine zi_iinc 2 (x2 + 1) [(2, .int (x2 + 1)), (0, .ref a0), (1, .int x1)] d_Mo_setBucket_16 rfl rfl (by decide) rfl ?_
    refine zi_goto (tgt := 2) d_Mo_setBucket_19 rfl ?_
    refine zi_lo [(0, .ref a0), (1, .int x1), (2, .int (x2 + 1))] [1, 2, 0] rfl ?_
    exact hr2 a0 x1 (x2 + 1) m_8 h
theorem K_Mo_setBucket_b2 (n : Nat) (E : zE) (S : zS) (a0 : Nat) (x1 : Int32) (x2 : Int32) (M : zH) (M' : zH)  (h : F_Mo_setBucket_b2 n E S (a0, x1, x2, M) = some M') : zG E Y_Mo_setBucket (none, S, M') 2 [(0, .ref a0), (1, .int x1), (2, .int x2)] [] S M 0 0 := by
  have key : ∀ (k : Nat) (a0 : Nat) (x1 : Int32) (x2 : Int32) (M : zH), zfix (fun r2 s => F_Mo_setBucket_L2 n E S r2 s.1 s.2.1 s.2.2.1 s.2.2.2) k (a0, x1, x2, M) = some M' → zG E Y_Mo_setBucket (none, S, M') 2 [(0, .ref a0), (1, .int x1), (2, .int x2)] [] S M 0 0 := by
    intro k
    induction k with
    | zero => intro a0 x1 x2 M h; cases h
    | succ k ih => intro a0 x1 x2 M h; exact K_Mo_setBucket_L2 n E S _ a0 x1 x2 M M'  (fun a0 x1 x2 M h => ih a0 x1 x2 M h) h
  exact key n a0 x1 x2 M h
theorem K_Mo_setBucket (n : Nat) (E : zE) (S : zS) (a0 : Nat) (x1 : Int32) (M : zH) (M' : zH)  (h : F_Mo_setBucket n E S a0 x1 M = some M') : zG E Y_Mo_setBucket (none, S, M') 0 [(0, .ref a0), (1, .int x1)] [] S M 0 0 := by
  unfold F_Mo_setBucket at h
  refine zi_iconst 1 d_Mo_setBucket_0 rfl ?_
  refine zi_istore_n [(2, .int 1), (0, .ref a0), (1, .int x1)] d_Mo_setBucket_1 (by decide) rfl ?_
  refine zi_lo [(0, .ref a0), (1, .int x1), (2, .int 1)] [1, 2, 0] rfl ?_
  exact K_Mo_setBucket_b2 n E S a0 x1 1 M M'  h
theorem C_Mo_setBucket (n : Nat) (E : zE) (S : zS) (a0 : Nat) (x1 : Int32) (M : zH) (M' : zH) (h : F_Mo_setBucket n E S a0 x1 M = some M') : zC E Y_Mo_setBucket [.ref a0, .int x1] S M (none, S, M') :=
  zC.of (Or.inl (show plainName "NightColanderModel" = true by decide)) (Nat.le_of_ble_eq_true rfl) (trivial) (K_Mo_setBucket n E S a0 x1 M M' h)
theorem d_Mo_isBarred_0 : decode (yB Y_Mo_isBarred) 0 = .ok (.aload_n 0, 1) := by decide +kernel
theorem d_Mo_isBarred_1 : decode (yB Y_Mo_isBarred) 1 = .ok (.iload_n 1, 1) := by decide +kernel
theorem d_Mo_isBarred_2 : decode (yB Y_Mo_isBarred) 2 = .ok (.invokevirtual 439, 3) := by decide +kernel
theorem d_Mo_isBarred_5 : decode (yB Y_Mo_isBarred) 5 = .ok (.aload_n 0, 1) := by decide +kernel
theorem d_Mo_isBarred_6 : decode (yB Y_Mo_isBarred) 6 = .ok (.iconst 3, 1) := by decide +kernel
theorem d_Mo_isBarred_7 : decode (yB Y_Mo_isBarred) 7 = .ok (.iload_n 2, 1) := by decide +kernel
theorem d_Mo_isBarred_8 : decode (yB Y_Mo_isBarred) 8 = .ok (.lconst 0, 1) := by decide +kernel
theorem d_Mo_isBarred_9 : decode (yB Y_Mo_isBarred) 9 = .ok (.invokevirtual 431, 3) := by decide +kernel
theorem d_Mo_isBarred_12 : decode (yB Y_Mo_isBarred) 12 = .ok (.lconst 1, 1) := by decide +kernel
theorem d_Mo_isBarred_13 : decode (yB Y_Mo_isBarred) 13 = .ok (.lcmp, 1) := by decide +kernel
theorem d_Mo_isBarred_14 : decode (yB Y_Mo_isBarred) 14 = .ok (.ifCond .ne 7, 3) := by decide +kernel
theorem d_Mo_isBarred_17 : decode (yB Y_Mo_isBarred) 17 = .ok (.iconst 1, 1) := by decide +kernel
theorem d_Mo_isBarred_18 : decode (yB Y_Mo_isBarred) 18 = .ok (.goto 4, 3) := by decide +kernel
theorem d_Mo_isBarred_21 : decode (yB Y_Mo_isBarred) 21 = .ok (.iconst 0, 1) := by decide +kernel
theorem d_Mo_isBarred_22 : decode (yB Y_Mo_isBarred) 22 = .ok (.ireturn, 1) := by decide +kernel
def F_Mo_isBarred (n : Nat) (E : zE) (S : zS) (a0 : Nat) (x1 : Int32) (x2 : Int32) (M : zH) : Option (Bool × zH) :=
  (zck S a0 11).bind fun u_1 =>
  (F_Mo_setBucket n E S a0 x1 M).bind fun q_2 =>
  (F_Mo_tells n E S a0 3 x2 0 q_2).bind fun q_3 =>
  if q_3.1 = 1 then
    some (true, q_3.2)
  else
    some (false, q_3.2)
theorem K_Mo_isBarred (n : Nat) (E : zE) (S : zS) (a0 : Nat) (x1 : Int32) (x2 : Int32) (M : zH) (r : Bool) (M' : zH)  (h : F_Mo_isBarred n E S a0 x1 x2 M = some (r, M')) : zG E Y_Mo_isBarred (some (.int (bI r)), S, M') 0 [(0, .ref a0), (1, .int x1), (2, .int x2)] [] S M 0 0 := by
  unfold F_Mo_isBarred at h
  refine zi_aload_n 0 d_Mo_isBarred_0 rfl ?_
  refine zi_iload_n 1 d_Mo_isBarred_1 rfl ?_
  obtain ⟨u_1, eu_1, h⟩ := zbind h
  obtain ⟨q_2, eq_2, h⟩ := zbind h
  refine zo_virt (k' := 0) (n' := 0) 5 [.int x1] [] [] zkd_11 (zck_s eu_1) (C_Mo_setBucket n E S a0 x1 M q_2 eq_2) d_Mo_isBarred_2 tw_1502 tw_1499 tw_1501 ts_48 tw_13 dd_Mo_setBucket ⟨Nat.le_of_ble_eq_true rfl, Nat.le_of_ble_eq_true rfl, Nat.le_of_ble_eq_true rfl, Nat.le_of_ble_eq_true rfl⟩ (Nat.le_of_ble_eq_true rfl) rfl rfl rfl rfl ?_
  refine zi_aload_n 0 d_Mo_isBarred_5 rfl ?_
  refine zi_iconst 3 d_Mo_isBarred_6 rfl ?_
  refine zi_iload_n 2 d_Mo_isBarred_7 rfl ?_
  refine zi_lconst 0 d_Mo_isBarred_8 rfl ?_
  obtain ⟨q_3, eq_3, h⟩ := zbind h
  refine zo_virt (k' := 0) (n' := 0) 12 [.int 3, .int x2, .long 0] [] [.long q_3.1] zkd_11 (zck_s eu_1) (C_Mo_tells n E S a0 3 x2 0 q_2 q_3.1 q_3.2 eq_3) d_Mo_isBarred_9 tw_1451 tw_1448 tw_1450 ts_40 tw_13 dd_Mo_tells ⟨Nat.le_of_ble_eq_true rfl, Nat.le_of_ble_eq_true rfl, Nat.le_of_ble_eq_true rfl, Nat.le_of_ble_eq_true rfl⟩ (Nat.le_of_ble_eq_true rfl) rfl rfl rfl rfl ?_
  refine zi_lconst 1 d_Mo_isBarred_12 rfl ?_
  refine zo_lc_ne d_Mo_isBarred_13 d_Mo_isBarred_14 rfl 17 rfl (fun c_4 => ?_) (fun c_4 => ?_)
  · rw [if_neg c_4] at h
    refine zi_iconst 0 d_Mo_isBarred_21 rfl ?_
    cases h
    exact zo_retB d_Mo_isBarred_22 (Nat.le_of_ble_eq_true rfl) (Nat.le_of_ble_eq_true rfl) rfl
  · rw [if_pos c_4] at h
    refine zi_iconst 1 d_Mo_isBarred_17 rfl ?_
    refine zi_goto (tgt := 22) d_Mo_isBarred_18 rfl ?_
    cases h
    exact zo_retB d_Mo_isBarred_22 (Nat.le_of_ble_eq_true rfl) (Nat.le_of_ble_eq_true rfl) rfl
theorem C_Mo_isBarred (n : Nat) (E : zE) (S : zS) (a0 : Nat) (x1 : Int32) (x2 : Int32) (M : zH) (r : Bool) (M' : zH) (h : F_Mo_isBarred n E S a0 x1 x2 M = some (r, M')) : zC E Y_Mo_isBarred [.ref a0, .int x1, .int x2] S M (some (.int (bI r)), S, M') :=
  zC.of (Or.inl (show plainName "NightColanderModel" = true by decide)) (Nat.le_of_ble_eq_true rfl) (bI_nar r) (K_Mo_isBarred n E S a0 x1 x2 M r M' h)
theorem d_Mo_leaksOf_0 : decode (yB Y_Mo_leaksOf) 0 = .ok (.aload_n 0, 1) := by decide +kernel
theorem d_Mo_leaksOf_1 : decode (yB Y_Mo_leaksOf) 1 = .ok (.iload_n 1, 1) := by decide +kernel
theorem d_Mo_leaksOf_2 : decode (yB Y_Mo_leaksOf) 2 = .ok (.invokevirtual 439, 3) := by decide +kernel
theorem d_Mo_leaksOf_5 : decode (yB Y_Mo_leaksOf) 5 = .ok (.aload_n 0, 1) := by decide +kernel
theorem d_Mo_leaksOf_6 : decode (yB Y_Mo_leaksOf) 6 = .ok (.iconst 1, 1) := by decide +kernel
theorem d_Mo_leaksOf_7 : decode (yB Y_Mo_leaksOf) 7 = .ok (.aload_n 0, 1) := by decide +kernel
theorem d_Mo_leaksOf_8 : decode (yB Y_Mo_leaksOf) 8 = .ok (.getfield 13, 3) := by decide +kernel
theorem d_Mo_leaksOf_11 : decode (yB Y_Mo_leaksOf) 11 = .ok (.bipush 51, 2) := by decide +kernel
theorem d_Mo_leaksOf_13 : decode (yB Y_Mo_leaksOf) 13 = .ok (.iload_n 1, 1) := by decide +kernel
theorem d_Mo_leaksOf_14 : decode (yB Y_Mo_leaksOf) 14 = .ok (.iadd, 1) := by decide +kernel
theorem d_Mo_leaksOf_15 : decode (yB Y_Mo_leaksOf) 15 = .ok (.iaload, 1) := by decide +kernel
theorem d_Mo_leaksOf_16 : decode (yB Y_Mo_leaksOf) 16 = .ok (.lconst 0, 1) := by decide +kernel
theorem d_Mo_leaksOf_17 : decode (yB Y_Mo_leaksOf) 17 = .ok (.invokevirtual 431, 3) := by decide +kernel
theorem d_Mo_leaksOf_20 : decode (yB Y_Mo_leaksOf) 20 = .ok (.iconst 0, 1) := by decide +kernel
theorem d_Mo_leaksOf_21 : decode (yB Y_Mo_leaksOf) 21 = .ok (.bipush 9, 2) := by decide +kernel
theorem d_Mo_leaksOf_23 : decode (yB Y_Mo_leaksOf) 23 = .ok (.invokestatic 435, 3) := by decide +kernel
theorem d_Mo_leaksOf_26 : decode (yB Y_Mo_leaksOf) 26 = .ok (.ireturn, 1) := by decide +kernel
def F_Mo_leaksOf (n : Nat) (E : zE) (S : zS) (a0 : Nat) (x1 : Int32) (M : zH) : Option (Int32 × zH) :=
  (zck S a0 11).bind fun u_1 =>
  (F_Mo_setBucket n E S a0 x1 M).bind fun q_2 =>
  (zgR S a0 11 3).bind fun b_3 =>
  (zldI S q_2 b_3 (51 + x1)).bind fun v_4 =>
  (F_Mo_tells n E S a0 1 v_4 0 q_2).bind fun q_5 =>
  (F_Mo_within n E S q_5.1 0 9 q_5.2).bind fun q_6 =>
  some (q_6.1, q_6.2)
theorem K_Mo_leaksOf (n : Nat) (E : zE) (S : zS) (a0 : Nat) (x1 : Int32) (M : zH) (r : Int32) (M' : zH)  (h : F_Mo_leaksOf n E S a0 x1 M = some (r, M')) : zG E Y_Mo_leaksOf (some (.int r), S, M') 0 [(0, .ref a0), (1, .int x1)] [] S M 0 0 := by
  unfold F_Mo_leaksOf at h
  refine zi_aload_n 0 d_Mo_leaksOf_0 rfl ?_
  refine zi_iload_n 1 d_Mo_leaksOf_1 rfl ?_
  obtain ⟨u_1, eu_1, h⟩ := zbind h
  obtain ⟨q_2, eq_2, h⟩ := zbind h
  refine zo_virt (k' := 0) (n' := 0) 5 [.int x1] [] [] zkd_11 (zck_s eu_1) (C_Mo_setBucket n E S a0 x1 M q_2 eq_2) d_Mo_leaksOf_2 tw_1502 tw_1499 tw_1501 ts_48 tw_13 dd_Mo_setBucket ⟨Nat.le_of_ble_eq_true rfl, Nat.le_of_ble_eq_true rfl, Nat.le_of_ble_eq_true rfl, Nat.le_of_ble_eq_true rfl⟩ (Nat.le_of_ble_eq_true rfl) rfl rfl rfl rfl ?_
  refine zi_aload_n 0 d_Mo_leaksOf_5 rfl ?_
  refine zi_iconst 1 d_Mo_leaksOf_6 rfl ?_
  refine zi_aload_n 0 d_Mo_leaksOf_7 rfl ?_
  obtain ⟨b_3, eb_3, h⟩ := zbind h
  refine zo_getR 11 zkd_11 3 d_Mo_leaksOf_8 eb_3 rfl tw_1232 rfl ?_
  refine zi_bipush 51 d_Mo_leaksOf_11 rfl ?_
  refine zi_iload_n 1 d_Mo_leaksOf_13 rfl ?_
  refine zi_iadd d_Mo_leaksOf_14 ?_
  obtain ⟨v_4, ev_4, h⟩ := zbind h
  refine zo_iald 16 d_Mo_leaksOf_15 ev_4 rfl ?_
  refine zi_lconst 0 d_Mo_leaksOf_16 rfl ?_
  obtain ⟨q_5, eq_5, h⟩ := zbind h
  refine zo_virt (k' := 0) (n' := 0) 20 [.int 1, .int v_4, .long 0] [] [.long q_5.1] zkd_11 (zck_s eu_1) (C_Mo_tells n E S a0 1 v_4 0 q_2 q_5.1 q_5.2 eq_5) d_Mo_leaksOf_17 tw_1451 tw_1448 tw_1450 ts_40 tw_13 dd_Mo_tells ⟨Nat.le_of_ble_eq_true rfl, Nat.le_of_ble_eq_true rfl, Nat.le_of_ble_eq_true rfl, Nat.le_of_ble_eq_true rfl⟩ (Nat.le_of_ble_eq_true rfl) rfl rfl rfl rfl ?_
  refine zi_iconst 0 d_Mo_leaksOf_20 rfl ?_
  refine zi_bipush 9 d_Mo_leaksOf_21 rfl ?_
  obtain ⟨q_6, eq_6, h⟩ := zbind h
  refine zo_stat (k' := 0) (n' := 0) 26 [.long q_5.1, .int 0, .int 9] [] [.int q_6.1] (C_Mo_within n E S q_5.1 0 9 q_5.2 q_6.1 q_6.2 eq_6) d_Mo_leaksOf_23 tw_1472 tw_1470 tw_1471 tw_13 dd_Mo_within ⟨Nat.le_of_ble_eq_true rfl, Nat.le_of_ble_eq_true rfl, Nat.le_of_ble_eq_true rfl, Nat.le_of_ble_eq_true rfl⟩ (Nat.le_of_ble_eq_true rfl) rfl rfl rfl rfl ?_
  cases h
  exact zo_ret d_Mo_leaksOf_26 (Nat.le_of_ble_eq_true rfl) (Nat.le_of_ble_eq_true rfl) rfl
theorem C_Mo_leaksOf (n : Nat) (E : zE) (S : zS) (a0 : Nat) (x1 : Int32) (M : zH) (r : Int32) (M' : zH) (h : F_Mo_leaksOf n E S a0 x1 M = some (r, M')) : zC E Y_Mo_leaksOf [.ref a0, .int x1] S M (some (.int r), S, M') :=
  zC.of (Or.inl (show plainName "NightColanderModel" = true by decide)) (Nat.le_of_ble_eq_true rfl) (trivial) (K_Mo_leaksOf n E S a0 x1 M r M' h)
theorem d_Mo_paysOf_0 : decode (yB Y_Mo_paysOf) 0 = .ok (.aload_n 0, 1) := by decide +kernel
theorem d_Mo_paysOf_1 : decode (yB Y_Mo_paysOf) 1 = .ok (.iload_n 1, 1) := by decide +kernel
theorem d_Mo_paysOf_2 : decode (yB Y_Mo_paysOf) 2 = .ok (.invokevirtual 439, 3) := by decide +kernel
theorem d_Mo_paysOf_5 : decode (yB Y_Mo_paysOf) 5 = .ok (.aload_n 0, 1) := by decide +kernel
theorem d_Mo_paysOf_6 : decode (yB Y_Mo_paysOf) 6 = .ok (.iconst 2, 1) := by decide +kernel
theorem d_Mo_paysOf_7 : decode (yB Y_Mo_paysOf) 7 = .ok (.iload_n 2, 1) := by decide +kernel
theorem d_Mo_paysOf_8 : decode (yB Y_Mo_paysOf) 8 = .ok (.lconst 1, 1) := by decide +kernel
theorem d_Mo_paysOf_9 : decode (yB Y_Mo_paysOf) 9 = .ok (.invokevirtual 431, 3) := by decide +kernel
theorem d_Mo_paysOf_12 : decode (yB Y_Mo_paysOf) 12 = .ok (.iconst 0, 1) := by decide +kernel
theorem d_Mo_paysOf_13 : decode (yB Y_Mo_paysOf) 13 = .ok (.bipush 99, 2) := by decide +kernel
theorem d_Mo_paysOf_15 : decode (yB Y_Mo_paysOf) 15 = .ok (.invokestatic 435, 3) := by decide +kernel
theorem d_Mo_paysOf_18 : decode (yB Y_Mo_paysOf) 18 = .ok (.ireturn, 1) := by decide +kernel
def F_Mo_paysOf (n : Nat) (E : zE) (S : zS) (a0 : Nat) (x1 : Int32) (x2 : Int32) (M : zH) : Option (Int32 × zH) :=
  (zck S a0 11).bind fun u_1 =>
  (F_Mo_setBucket n E S a0 x1 M).bind fun q_2 =>
  (F_Mo_tells n E S a0 2 x2 1 q_2).bind fun q_3 =>
  (F_Mo_within n E S q_3.1 0 99 q_3.2).bind fun q_4 =>
  some (q_4.1, q_4.2)
theorem K_Mo_paysOf (n : Nat) (E : zE) (S : zS) (a0 : Nat) (x1 : Int32) (x2 : Int32) (M : zH) (r : Int32) (M' : zH)  (h : F_Mo_paysOf n E S a0 x1 x2 M = some (r, M')) : zG E Y_Mo_paysOf (some (.int r), S, M') 0 [(0, .ref a0), (1, .int x1), (2, .int x2)] [] S M 0 0 := by
  unfold F_Mo_paysOf at h
  refine zi_aload_n 0 d_Mo_paysOf_0 rfl ?_
  refine zi_iload_n 1 d_Mo_paysOf_1 rfl ?_
  obtain ⟨u_1, eu_1, h⟩ := zbind h
  obtain ⟨q_2, eq_2, h⟩ := zbind h
  refine zo_virt (k' := 0) (n' := 0) 5 [.int x1] [] [] zkd_11 (zck_s eu_1) (C_Mo_setBucket n E S a0 x1 M q_2 eq_2) d_Mo_paysOf_2 tw_1502 tw_1499 tw_1501 ts_48 tw_13 dd_Mo_setBucket ⟨Nat.le_of_ble_eq_true rfl, Nat.le_of_ble_eq_true rfl, Nat.le_of_ble_eq_true rfl, Nat.le_of_ble_eq_true rfl⟩ (Nat.le_of_ble_eq_true rfl) rfl rfl rfl rfl ?_
  refine zi_aload_n 0 d_Mo_paysOf_5 rfl ?_
  refine zi_iconst 2 d_Mo_paysOf_6 rfl ?_
  refine zi_iload_n 2 d_Mo_paysOf_7 rfl ?_
  refine zi_lconst 1 d_Mo_paysOf_8 rfl ?_
  obtain ⟨q_3, eq_3, h⟩ := zbind h
  refine zo_virt (k' := 0) (n' := 0) 12 [.int 2, .int x2, .long 1] [] [.long q_3.1] zkd_11 (zck_s eu_1) (C_Mo_tells n E S a0 2 x2 1 q_2 q_3.1 q_3.2 eq_3) d_Mo_paysOf_9 tw_1451 tw_1448 tw_1450 ts_40 tw_13 dd_Mo_tells ⟨Nat.le_of_ble_eq_true rfl, Nat.le_of_ble_eq_true rfl, Nat.le_of_ble_eq_true rfl, Nat.le_of_ble_eq_true rfl⟩ (Nat.le_of_ble_eq_true rfl) rfl rfl rfl rfl ?_
  refine zi_iconst 0 d_Mo_paysOf_12 rfl ?_
  refine zi_bipush 99 d_Mo_paysOf_13 rfl ?_
  obtain ⟨q_4, eq_4, h⟩ := zbind h
  refine zo_stat (k' := 0) (n' := 0) 18 [.long q_3.1, .int 0, .int 99] [] [.int q_4.1] (C_Mo_within n E S q_3.1 0 99 q_3.2 q_4.1 q_4.2 eq_4) d_Mo_paysOf_15 tw_1472 tw_1470 tw_1471 tw_13 dd_Mo_within ⟨Nat.le_of_ble_eq_true rfl, Nat.le_of_ble_eq_true rfl, Nat.le_of_ble_eq_true rfl, Nat.le_of_ble_eq_true rfl⟩ (Nat.le_of_ble_eq_true rfl) rfl rfl rfl rfl ?_
  cases h
  exact zo_ret d_Mo_paysOf_18 (Nat.le_of_ble_eq_true rfl) (Nat.le_of_ble_eq_true rfl) rfl
theorem C_Mo_paysOf (n : Nat) (E : zE) (S : zS) (a0 : Nat) (x1 : Int32) (x2 : Int32) (M : zH) (r : Int32) (M' : zH) (h : F_Mo_paysOf n E S a0 x1 x2 M = some (r, M')) : zC E Y_Mo_paysOf [.ref a0, .int x1, .int x2] S M (some (.int r), S, M') :=
  zC.of (Or.inl (show plainName "NightColanderModel" = true by decide)) (Nat.le_of_ble_eq_true rfl) (trivial) (K_Mo_paysOf n E S a0 x1 x2 M r M' h)
theorem d_Mo_of_0 : decode (yB Y_Mo_of) 0 = .ok (.aload_n 0, 1) := by decide +kernel
theorem d_Mo_of_1 : decode (yB Y_Mo_of) 1 = .ok (.iconst 0, 1) := by decide +kernel
theorem d_Mo_of_2 : decode (yB Y_Mo_of) 2 = .ok (.putfield 156, 3) := by decide +kernel
theorem d_Mo_of_5 : decode (yB Y_Mo_of) 5 = .ok (.aload_n 0, 1) := by decide +kernel
theorem d_Mo_of_6 : decode (yB Y_Mo_of) 6 = .ok (.iload_n 1, 1) := by decide +kernel
theorem d_Mo_of_7 : decode (yB Y_Mo_of) 7 = .ok (.invokevirtual 214, 3) := by decide +kernel
theorem d_Mo_of_10 : decode (yB Y_Mo_of) 10 = .ok (.ifCond .eq 15, 3) := by decide +kernel
theorem d_Mo_of_13 : decode (yB Y_Mo_of) 13 = .ok (.iload_n 2, 1) := by decide +kernel
theorem d_Mo_of_14 : decode (yB Y_Mo_of) 14 = .ok (.i2l, 1) := by decide +kernel
theorem d_Mo_of_15 : decode (yB Y_Mo_of) 15 = .ok (.lconst 0, 1) := by decide +kernel
theorem d_Mo_of_16 : decode (yB Y_Mo_of) 16 = .ok (.ldc2_w 217, 3) := by decide +kernel
theorem d_Mo_of_19 : decode (yB Y_Mo_of) 19 = .ok (.invokestatic 176, 3) := by decide +kernel
theorem d_Mo_of_22 : decode (yB Y_Mo_of) 22 = .ok (.ifCond .ne 5, 3) := by decide +kernel
theorem d_Mo_of_25 : decode (yB Y_Mo_of) 25 = .ok (.iconst (-1), 1) := by decide +kernel
theorem d_Mo_of_26 : decode (yB Y_Mo_of) 26 = .ok (.ireturn, 1) := by decide +kernel
theorem d_Mo_of_27 : decode (yB Y_Mo_of) 27 = .ok (.iload_n 2, 1) := by decide +kernel
theorem d_Mo_of_28 : decode (yB Y_Mo_of) 28 = .ok (.tableswitch 87 0 4 #[36, 46, 56, 66, 72], 36) := by decide +kernel
theorem d_Mo_of_64 : decode (yB Y_Mo_of) 64 = .ok (.aload_n 0, 1) := by decide +kernel
theorem d_Mo_of_65 : decode (yB Y_Mo_of) 65 = .ok (.getfield 13, 3) := by decide +kernel
theorem d_Mo_of_68 : decode (yB Y_Mo_of) 68 = .ok (.bipush 54, 2) := by decide +kernel
theorem d_Mo_of_70 : decode (yB Y_Mo_of) 70 = .ok (.iload_n 1, 1) := by decide +kernel
theorem d_Mo_of_71 : decode (yB Y_Mo_of) 71 = .ok (.iadd, 1) := by decide +kernel
theorem d_Mo_of_72 : decode (yB Y_Mo_of) 72 = .ok (.iaload, 1) := by decide +kernel
theorem d_Mo_of_73 : decode (yB Y_Mo_of) 73 = .ok (.ireturn, 1) := by decide +kernel
theorem d_Mo_of_74 : decode (yB Y_Mo_of) 74 = .ok (.aload_n 0, 1) := by decide +kernel
theorem d_Mo_of_75 : decode (yB Y_Mo_of) 75 = .ok (.getfield 13, 3) := by decide +kernel
theorem d_Mo_of_78 : decode (yB Y_Mo_of) 78 = .ok (.bipush 48, 2) := by decide +kernel
theorem d_Mo_of_80 : decode (yB Y_Mo_of) 80 = .ok (.iload_n 1, 1) := by decide +kernel
theorem d_Mo_of_81 : decode (yB Y_Mo_of) 81 = .ok (.iadd, 1) := by decide +kernel
theorem d_Mo_of_82 : decode (yB Y_Mo_of) 82 = .ok (.iaload, 1) := by decide +kernel
theorem d_Mo_of_83 : decode (yB Y_Mo_of) 83 = .ok (.ireturn, 1) := by decide +kernel
theorem d_Mo_of_84 : decode (yB Y_Mo_of) 84 = .ok (.aload_n 0, 1) := by decide +kernel
theorem d_Mo_of_85 : decode (yB Y_Mo_of) 85 = .ok (.getfield 13, 3) := by decide +kernel
theorem d_Mo_of_88 : decode (yB Y_Mo_of) 88 = .ok (.bipush 51, 2) := by decide +kernel
theorem d_Mo_of_90 : decode (yB Y_Mo_of) 90 = .ok (.iload_n 1, 1) := by decide +kernel
theorem d_Mo_of_91 : decode (yB Y_Mo_of) 91 = .ok (.iadd, 1) := by decide +kernel
theorem d_Mo_of_92 : decode (yB Y_Mo_of) 92 = .ok (.iaload, 1) := by decide +kernel
theorem d_Mo_of_93 : decode (yB Y_Mo_of) 93 = .ok (.ireturn, 1) := by decide +kernel
theorem d_Mo_of_94 : decode (yB Y_Mo_of) 94 = .ok (.aload_n 0, 1) := by decide +kernel
theorem d_Mo_of_95 : decode (yB Y_Mo_of) 95 = .ok (.iload_n 1, 1) := by decide +kernel
theorem d_Mo_of_96 : decode (yB Y_Mo_of) 96 = .ok (.invokevirtual 219, 3) := by decide +kernel
theorem d_Mo_of_99 : decode (yB Y_Mo_of) 99 = .ok (.ireturn, 1) := by decide +kernel
theorem d_Mo_of_100 : decode (yB Y_Mo_of) 100 = .ok (.aload_n 0, 1) := by decide +kernel
theorem d_Mo_of_101 : decode (yB Y_Mo_of) 101 = .ok (.iload_n 1, 1) := by decide +kernel
theorem d_Mo_of_102 : decode (yB Y_Mo_of) 102 = .ok (.aload_n 0, 1) := by decide +kernel
theorem d_Mo_of_103 : decode (yB Y_Mo_of) 103 = .ok (.getfield 13, 3) := by decide +kernel
theorem d_Mo_of_106 : decode (yB Y_Mo_of) 106 = .ok (.bipush 51, 2) := by decide +kernel
theorem d_Mo_of_108 : decode (yB Y_Mo_of) 108 = .ok (.iload_n 1, 1) := by decide +kernel
theorem d_Mo_of_109 : decode (yB Y_Mo_of) 109 = .ok (.iadd, 1) := by decide +kernel
theorem d_Mo_of_110 : decode (yB Y_Mo_of) 110 = .ok (.iaload, 1) := by decide +kernel
theorem d_Mo_of_111 : decode (yB Y_Mo_of) 111 = .ok (.invokevirtual 222, 3) := by decide +kernel
theorem d_Mo_of_114 : decode (yB Y_Mo_of) 114 = .ok (.ireturn, 1) := by decide +kernel
theorem d_Mo_of_115 : decode (yB Y_Mo_of) 115 = .ok (.aload_n 0, 1) := by decide +kernel
theorem d_Mo_of_116 : decode (yB Y_Mo_of) 116 = .ok (.iload_n 1, 1) := by decide +kernel
theorem d_Mo_of_117 : decode (yB Y_Mo_of) 117 = .ok (.iload_n 2, 1) := by decide +kernel
theorem d_Mo_of_118 : decode (yB Y_Mo_of) 118 = .ok (.iconst 5, 1) := by decide +kernel
theorem d_Mo_of_119 : decode (yB Y_Mo_of) 119 = .ok (.isub, 1) := by decide +kernel
theorem d_Mo_of_120 : decode (yB Y_Mo_of) 120 = .ok (.invokevirtual 225, 3) := by decide +kernel
theorem d_Mo_of_123 : decode (yB Y_Mo_of) 123 = .ok (.ifCond .eq 7, 3) := by decide +kernel
theorem d_Mo_of_126 : decode (yB Y_Mo_of) 126 = .ok (.iconst 1, 1) := by decide +kernel
theorem d_Mo_of_127 : decode (yB Y_Mo_of) 127 = .ok (.goto 4, 3) := by decide +kernel
theorem d_Mo_of_130 : decode (yB Y_Mo_of) 130 = .ok (.iconst 0, 1) := by decide +kernel
theorem d_Mo_of_131 : decode (yB Y_Mo_of) 131 = .ok (.ireturn, 1) := by decide +kernel
def F_Mo_of (n : Nat) (E : zE) (S : zS) (a0 : Nat) (x1 : Int32) (x2 : Int32) (M : zH) : Option (Int32 × zH) :=
  (zpI S M a0 11 0 0).bind fun m_1 =>
  (zck S a0 11).bind fun u_2 =>
  (F_Mo_isBucket n E S a0 x1 m_1).bind fun q_3 =>
  if q_3.1 = true then
    (F_Mo_in n E S x2.toInt64 0 12 q_3.2).bind fun q_5 =>
    if q_5.1 = true then
      if x2 = 0 then
        (zgR S a0 11 3).bind fun b_8 =>
        (zldI S q_5.2 b_8 (54 + x1)).bind fun v_9 =>
        some (v_9, q_5.2)
      else
      if x2 = 1 then
        (zgR S a0 11 3).bind fun b_11 =>
        (zldI S q_5.2 b_11 (48 + x1)).bind fun v_12 =>
        some (v_12, q_5.2)
      else
      if x2 = 2 then
        (zgR S a0 11 3).bind fun b_14 =>
        (zldI S q_5.2 b_14 (51 + x1)).bind fun v_15 =>
        some (v_15, q_5.2)
      else
      if x2 = 3 then
        (F_Mo_leaksOf n E S a0 x1 q_5.2).bind fun q_17 =>
        some (q_17.1, q_17.2)
      else
      if x2 = 4 then
        (zgR S a0 11 3).bind fun b_19 =>
        (zldI S q_5.2 b_19 (51 + x1)).bind fun v_20 =>
        (F_Mo_paysOf n E S a0 x1 v_20 q_5.2).bind fun q_21 =>
        some (q_21.1, q_21.2)
      else
        (F_Mo_isBarred n E S a0 x1 (x2 - 5) q_5.2).bind fun q_22 =>
        if q_22.1 = true then
          some (1, q_22.2)
        else
          some (0, q_22.2)
    else
      some ((-1), q_5.2)
  else
    some ((-1), q_3.2)
theorem K_Mo_of (n : Nat) (E : zE) (S : zS) (a0 : Nat) (x1 : Int32) (x2 : Int32) (M : zH) (r : Int32) (M' : zH)  (h : F_Mo_of n E S a0 x1 x2 M = some (r, M')) : zG E Y_Mo_of (some (.int r), S, M') 0 [(0, .ref a0), (1, .int x1), (2, .int x2)] [] S M 0 0 := by
  unfold F_Mo_of at h
  refine zi_aload_n 0 d_Mo_of_0 rfl ?_
  refine zi_iconst 0 d_Mo_of_1 rfl ?_
  obtain ⟨m_1, em_1, h⟩ := zbind h
  refine zo_putI 5 zkd_11 0 d_Mo_of_2 em_1 rfl rfl rfl tw_1229 rfl ?_
  refine zi_aload_n 0 d_Mo_of_5 rfl ?_
  refine zi_iload_n 1 d_Mo_of_6 rfl ?_
  obtain ⟨u_2, eu_2, h⟩ := zbind h
  obtain ⟨q_3, eq_3, h⟩ := zbind h
  refine zo_virt (k' := 0) (n' := 0) 10 [.int x1] [] [.int (bI q_3.1)] zkd_11 (zck_s eu_2) (C_Mo_isBucket n E S a0 x1 m_1 q_3.1 q_3.2 eq_3) d_Mo_of_7 tw_1463 tw_1460 tw_1462 ts_43 tw_13 dd_Mo_isBucket ⟨Nat.le_of_ble_eq_true rfl, Nat.le_of_ble_eq_true rfl, Nat.le_of_ble_eq_true rfl, Nat.le_of_ble_eq_true rfl⟩ (Nat.le_of_ble_eq_true rfl) rfl rfl rfl rfl ?_
  refine zo_ifeqB d_Mo_of_10 rfl 13 rfl (fun c_4 => ?_) (fun c_4 => ?_)
  · rw [if_neg c_4] at h
    refine zi_iconst (-1) d_Mo_of_25 rfl ?_
    cases h
    exact zo_ret d_Mo_of_26 (Nat.le_of_ble_eq_true rfl) (Nat.le_of_ble_eq_true rfl) rfl
  · rw [if_pos c_4] at h
    refine zi_iload_n 2 d_Mo_of_13 rfl ?_
    refine zi_i2l d_Mo_of_14 ?_
    refine zi_lconst 0 d_Mo_of_15 rfl ?_
    refine zi_ldc2 d_Mo_of_16 tw_1494 ?_
    obtain ⟨q_5, eq_5, h⟩ := zbind h
    refine zo_stat (k' := 0) (n' := 0) 22 [.long x2.toInt64, .long 0, .long 12] [] [.int (bI q_5.1)] (C_Mo_in n E S x2.toInt64 0 12 q_3.2 q_5.1 q_5.2 eq_5) d_Mo_of_19 tw_1419 tw_1417 tw_1418 tw_13 dd_Mo_in ⟨Nat.le_of_ble_eq_true rfl, Nat.le_of_ble_eq_true rfl, Nat.le_of_ble_eq_true rfl, Nat.le_of_ble_eq_true rfl⟩ (Nat.le_of_ble_eq_true rfl) rfl rfl rfl rfl ?_
    refine zo_ifneB d_Mo_of_22 rfl 25 rfl (fun c_6 => ?_) (fun c_6 => ?_)
    · rw [if_pos c_6] at h
      refine zi_iload_n 2 d_Mo_of_27 rfl ?_
      by_cases c_7 : x2 = 0
      · rw [if_pos c_7] at h
        refine zo_tab (tgt := 64) 0 d_Mo_of_28 c_7 (by decide) (by decide) rfl rfl ?_
        refine zi_aload_n 0 d_Mo_of_64 rfl ?_
        obtain ⟨b_8, eb_8, h⟩ := zbind h
        refine zo_getR 68 zkd_11 3 d_Mo_of_65 eb_8 rfl tw_1232 rfl ?_
        refine zi_bipush 54 d_Mo_of_68 rfl ?_
        refine zi_iload_n 1 d_Mo_of_70 rfl ?_
        refine zi_iadd d_Mo_of_71 ?_
        obtain ⟨v_9, ev_9, h⟩ := zbind h
        refine zo_iald 73 d_Mo_of_72 ev_9 rfl ?_
        cases h
        exact zo_ret d_Mo_of_73 (Nat.le_of_ble_eq_true rfl) (Nat.le_of_ble_eq_true rfl) rfl
      rw [if_neg c_7] at h
      by_cases c_10 : x2 = 1
      · rw [if_pos c_10] at h
        refine zo_tab (tgt := 74) 1 d_Mo_of_28 c_10 (by decide) (by decide) rfl rfl ?_
        refine zi_aload_n 0 d_Mo_of_74 rfl ?_
        obtain ⟨b_11, eb_11, h⟩ := zbind h
        refine zo_getR 78 zkd_11 3 d_Mo_of_75 eb_11 rfl tw_1232 rfl ?_
        refine zi_bipush 48 d_Mo_of_78 rfl ?_
        refine zi_iload_n 1 d_Mo_of_80 rfl ?_
        refine zi_iadd d_Mo_of_81 ?_
        obtain ⟨v_12, ev_12, h⟩ := zbind h
        refine zo_iald 83 d_Mo_of_82 ev_12 rfl ?_
        cases h
        exact zo_ret d_Mo_of_83 (Nat.le_of_ble_eq_true rfl) (Nat.le_of_ble_eq_true rfl) rfl
      rw [if_neg c_10] at h
      by_cases c_13 : x2 = 2
      · rw [if_pos c_13] at h
        refine zo_tab (tgt := 84) 2 d_Mo_of_28 c_13 (by decide) (by decide) rfl rfl ?_
        refine zi_aload_n 0 d_Mo_of_84 rfl ?_
        obtain ⟨b_14, eb_14, h⟩ := zbind h
        refine zo_getR 88 zkd_11 3 d_Mo_of_85 eb_14 rfl tw_1232 rfl ?_
        refine zi_bipush 51 d_Mo_of_88 rfl ?_
        refine zi_iload_n 1 d_Mo_of_90 rfl ?_
        refine zi_iadd d_Mo_of_91 ?_
        obtain ⟨v_15, ev_15, h⟩ := zbind h
        refine zo_iald 93 d_Mo_of_92 ev_15 rfl ?_
        cases h
        exact zo_ret d_Mo_of_93 (Nat.le_of_ble_eq_true rfl) (Nat.le_of_ble_eq_true rfl) rfl
      rw [if_neg c_13] at h
      by_cases c_16 : x2 = 3
      · rw [if_pos c_16] at h
        refine zo_tab (tgt := 94) 3 d_Mo_of_28 c_16 (by decide) (by decide) rfl rfl ?_
        refine zi_aload_n 0 d_Mo_of_94 rfl ?_
        refine zi_iload_n 1 d_Mo_of_95 rfl ?_
        obtain ⟨q_17, eq_17, h⟩ := zbind h
        refine zo_virt (k' := 0) (n' := 0) 99 [.int x1] [] [.int q_17.1] zkd_11 (zck_s eu_2) (C_Mo_leaksOf n E S a0 x1 q_5.2 q_17.1 q_17.2 eq_17) d_Mo_of_96 tw_1498 tw_1495 tw_1497 ts_47 tw_13 dd_Mo_leaksOf ⟨Nat.le_of_ble_eq_true rfl, Nat.le_of_ble_eq_true rfl, Nat.le_of_ble_eq_true rfl, Nat.le_of_ble_eq_true rfl⟩ (Nat.le_of_ble_eq_true rfl) rfl rfl rfl rfl ?_
        cases h
        exact zo_ret d_Mo_of_99 (Nat.le_of_ble_eq_true rfl) (Nat.le_of_ble_eq_true rfl) rfl
      rw [if_neg c_16] at h
      by_cases c_18 : x2 = 4
      · rw [if_pos c_18] at h
        refine zo_tab (tgt := 100) 4 d_Mo_of_28 c_18 (by decide) (by decide) rfl rfl ?_
        refine zi_aload_n 0 d_Mo_of_100 rfl ?_
        refine zi_iload_n 1 d_Mo_of_101 rfl ?_
        refine zi_aload_n 0 d_Mo_of_102 rfl ?_
        obtain ⟨b_19, eb_19, h⟩ := zbind h
        refine zo_getR 106 zkd_11 3 d_Mo_of_103 eb_19 rfl tw_1232 rfl ?_
        refine zi_bipush 51 d_Mo_of_106 rfl ?_
        refine zi_iload_n 1 d_Mo_of_108 rfl ?_
        refine zi_iadd d_Mo_of_109 ?_
        obtain ⟨v_20, ev_20, h⟩ := zbind h
        refine zo_iald 111 d_Mo_of_110 ev_20 rfl ?_
        obtain ⟨q_21, eq_21, h⟩ := zbind h
        refine zo_virt (k' := 0) (n' := 0) 114 [.int x1, .int v_20] [] [.int q_21.1] zkd_11 (zck_s eu_2) (C_Mo_paysOf n E S a0 x1 v_20 q_5.2 q_21.1 q_21.2 eq_21) d_Mo_of_111 tw_1506 tw_1503 tw_1505 ts_49 tw_13 dd_Mo_paysOf ⟨Nat.le_of_ble_eq_true rfl, Nat.le_of_ble_eq_true rfl, Nat.le_of_ble_eq_true rfl, Nat.le_of_ble_eq_true rfl⟩ (Nat.le_of_ble_eq_true rfl) rfl rfl rfl rfl ?_
        cases h
        exact zo_ret d_Mo_of_114 (Nat.le_of_ble_eq_true rfl) (Nat.le_of_ble_eq_true rfl) rfl
      rw [if_neg c_18] at h
      refine zo_tabP (tgt := 115) 0 5 d_Mo_of_28 rfl rfl (fun j hj => by match j, hj with | 0, _ => exact c_7  | 1, _ => exact c_10  | 2, _ => exact c_13  | 3, _ => exact c_16  | 4, _ => exact c_18 | j + 5, hj => exact absurd hj (by omega)) rfl ?_
      refine zi_aload_n 0 d_Mo_of_115 rfl ?_
      refine zi_iload_n 1 d_Mo_of_116 rfl ?_
      refine zi_iload_n 2 d_Mo_of_117 rfl ?_
      refine zi_iconst 5 d_Mo_of_118 rfl ?_
      refine zi_isub d_Mo_of_119 ?_
      obtain ⟨q_22, eq_22, h⟩ := zbind h
      refine zo_virt (k' := 0) (n' := 0) 123 [.int x1, .int (x2 - 5)] [] [.int (bI q_22.1)] zkd_11 (zck_s eu_2) (C_Mo_isBarred n E S a0 x1 (x2 - 5) q_5.2 q_22.1 q_22.2 eq_22) d_Mo_of_120 tw_1510 tw_1507 tw_1509 ts_50 tw_13 dd_Mo_isBarred ⟨Nat.le_of_ble_eq_true rfl, Nat.le_of_ble_eq_true rfl, Nat.le_of_ble_eq_true rfl, Nat.le_of_ble_eq_true rfl⟩ (Nat.le_of_ble_eq_true rfl) rfl rfl rfl rfl ?_
      refine zo_ifeqB d_Mo_of_123 rfl 126 rfl (fun c_23 => ?_) (fun c_23 => ?_)
      · rw [if_neg c_23] at h
        refine zi_iconst 0 d_Mo_of_130 rfl ?_
        cases h
        exact zo_ret d_Mo_of_131 (Nat.le_of_ble_eq_true rfl) (Nat.le_of_ble_eq_true rfl) rfl
      · rw [if_pos c_23] at h
        refine zi_iconst 1 d_Mo_of_126 rfl ?_
        refine zi_goto (tgt := 131) d_Mo_of_127 rfl ?_
        cases h
        exact zo_ret d_Mo_of_131 (Nat.le_of_ble_eq_true rfl) (Nat.le_of_ble_eq_true rfl) rfl
    · rw [if_neg c_6] at h
      refine zi_iconst (-1) d_Mo_of_25 rfl ?_
      cases h
      exact zo_ret d_Mo_of_26 (Nat.le_of_ble_eq_true rfl) (Nat.le_of_ble_eq_true rfl) rfl
theorem C_Mo_of (n : Nat) (E : zE) (S : zS) (a0 : Nat) (x1 : Int32) (x2 : Int32) (M : zH) (r : Int32) (M' : zH) (h : F_Mo_of n E S a0 x1 x2 M = some (r, M')) : zC E Y_Mo_of [.ref a0, .int x1, .int x2] S M (some (.int r), S, M') :=
  zC.of (Or.inl (show plainName "NightColanderModel" = true by decide)) (Nat.le_of_ble_eq_true rfl) (trivial) (K_Mo_of n E S a0 x1 x2 M r M' h)
theorem d_Mo_wanted_0 : decode (yB Y_Mo_wanted) 0 = .ok (.aload_n 0, 1) := by decide +kernel
theorem d_Mo_wanted_1 : decode (yB Y_Mo_wanted) 1 = .ok (.iconst 0, 1) := by decide +kernel
theorem d_Mo_wanted_2 : decode (yB Y_Mo_wanted) 2 = .ok (.putfield 156, 3) := by decide +kernel
theorem d_Mo_wanted_5 : decode (yB Y_Mo_wanted) 5 = .ok (.iload_n 1, 1) := by decide +kernel
theorem d_Mo_wanted_6 : decode (yB Y_Mo_wanted) 6 = .ok (.invokestatic 194, 3) := by decide +kernel
theorem d_Mo_wanted_9 : decode (yB Y_Mo_wanted) 9 = .ok (.ifCond .eq 29, 3) := by decide +kernel
theorem d_Mo_wanted_12 : decode (yB Y_Mo_wanted) 12 = .ok (.iload_n 2, 1) := by decide +kernel
theorem d_Mo_wanted_13 : decode (yB Y_Mo_wanted) 13 = .ok (.i2l, 1) := by decide +kernel
theorem d_Mo_wanted_14 : decode (yB Y_Mo_wanted) 14 = .ok (.ldc2_w 228, 3) := by decide +kernel
theorem d_Mo_wanted_17 : decode (yB Y_Mo_wanted) 17 = .ok (.ldc2_w 230, 3) := by decide +kernel
theorem d_Mo_wanted_20 : decode (yB Y_Mo_wanted) 20 = .ok (.invokestatic 176, 3) := by decide +kernel
theorem d_Mo_wanted_23 : decode (yB Y_Mo_wanted) 23 = .ok (.ifCond .eq 15, 3) := by decide +kernel
theorem d_Mo_wanted_26 : decode (yB Y_Mo_wanted) 26 = .ok (.aload_n 0, 1) := by decide +kernel
theorem d_Mo_wanted_27 : decode (yB Y_Mo_wanted) 27 = .ok (.bipush 57, 2) := by decide +kernel
theorem d_Mo_wanted_29 : decode (yB Y_Mo_wanted) 29 = .ok (.iload_n 1, 1) := by decide +kernel
theorem d_Mo_wanted_30 : decode (yB Y_Mo_wanted) 30 = .ok (.iadd, 1) := by decide +kernel
theorem d_Mo_wanted_31 : decode (yB Y_Mo_wanted) 31 = .ok (.iload_n 2, 1) := by decide +kernel
theorem d_Mo_wanted_32 : decode (yB Y_Mo_wanted) 32 = .ok (.invokevirtual 205, 3) := by decide +kernel
theorem d_Mo_wanted_35 : decode (yB Y_Mo_wanted) 35 = .ok (.goto 8, 3) := by decide +kernel
theorem d_Mo_wanted_38 : decode (yB Y_Mo_wanted) 38 = .ok (.aload_n 0, 1) := by decide +kernel
theorem d_Mo_wanted_39 : decode (yB Y_Mo_wanted) 39 = .ok (.iconst (-1), 1) := by decide +kernel
theorem d_Mo_wanted_40 : decode (yB Y_Mo_wanted) 40 = .ok (.invokevirtual 165, 3) := by decide +kernel
theorem d_Mo_wanted_43 : decode (yB Y_Mo_wanted) 43 = .ok (.ireturn, 1) := by decide +kernel
def F_Mo_wanted_b38 (n : Nat) (E : zE) (S : zS) (a0 : Nat) (M : zH) : Option (Int32 × zH) :=
  (zck S a0 11).bind fun u_1 =>
  (F_Mo_tell n E S a0 (-1) M).bind fun q_2 =>
  some (q_2.1, q_2.2)
def F_Mo_wanted (n : Nat) (E : zE) (S : zS) (a0 : Nat) (x1 : Int32) (x2 : Int32) (M : zH) : Option (Int32 × zH) :=
  (zpI S M a0 11 0 0).bind fun m_3 =>
  (F_Mo_isField n E S x1 m_3).bind fun q_4 =>
  if q_4.1 = true then
    (F_Mo_in n E S x2.toInt64 (-1) 400 q_4.2).bind fun q_6 =>
    if q_6.1 = true then
      (zck S a0 11).bind fun u_8 =>
      (F_Mo_change n E S a0 (57 + x1) x2 q_6.2).bind fun q_9 =>
      some (q_9.1, q_9.2)
    else
      F_Mo_wanted_b38 n E S a0 q_6.2
  else
    F_Mo_wanted_b38 n E S a0 q_4.2
theorem K_Mo_wanted_b38 (n : Nat) (E : zE) (S : zS) (a0 : Nat) (M : zH) (r : Int32) (M' : zH)  (h : F_Mo_wanted_b38 n E S a0 M = some (r, M')) : zG E Y_Mo_wanted (some (.int r), S, M') 38 [(0, .ref a0)] [] S M 0 0 := by
  unfold F_Mo_wanted_b38 at h
  refine zi_aload_n 0 d_Mo_wanted_38 rfl ?_
  refine zi_iconst (-1) d_Mo_wanted_39 rfl ?_
  obtain ⟨u_1, eu_1, h⟩ := zbind h
  obtain ⟨q_2, eq_2, h⟩ := zbind h
  refine zo_virt (k' := 0) (n' := 0) 43 [.int (-1)] [] [.int q_2.1] zkd_11 (zck_s eu_1) (C_Mo_tell n E S a0 (-1) M q_2.1 q_2.2 eq_2) d_Mo_wanted_40 tw_1408 tw_1405 tw_1407 ts_36 tw_13 dd_Mo_tell ⟨Nat.le_of_ble_eq_true rfl, Nat.le_of_ble_eq_true rfl, Nat.le_of_ble_eq_true rfl, Nat.le_of_ble_eq_true rfl⟩ (Nat.le_of_ble_eq_true rfl) rfl rfl rfl rfl ?_
  cases h
  exact zo_ret d_Mo_wanted_43 (Nat.le_of_ble_eq_true rfl) (Nat.le_of_ble_eq_true rfl) rfl
theorem K_Mo_wanted (n : Nat) (E : zE) (S : zS) (a0 : Nat) (x1 : Int32) (x2 : Int32) (M : zH) (r : Int32) (M' : zH)  (h : F_Mo_wanted n E S a0 x1 x2 M = some (r, M')) : zG E Y_Mo_wanted (some (.int r), S, M') 0 [(0, .ref a0), (1, .int x1), (2, .int x2)] [] S M 0 0 := by
  unfold F_Mo_wanted at h
  refine zi_aload_n 0 d_Mo_wanted_0 rfl ?_
  refine zi_iconst 0 d_Mo_wanted_1 rfl ?_
  obtain ⟨m_3, em_3, h⟩ := zbind h
  refine zo_putI 5 zkd_11 0 d_Mo_wanted_2 em_3 rfl rfl rfl tw_1229 rfl ?_
  refine zi_iload_n 1 d_Mo_wanted_5 rfl ?_
  obtain ⟨q_4, eq_4, h⟩ := zbind h
  refine zo_stat (k' := 0) (n' := 0) 9 [.int x1] [] [.int (bI q_4.1)] (C_Mo_isField n E S x1 m_3 q_4.1 q_4.2 eq_4) d_Mo_wanted_6 tw_1438 tw_1436 tw_1437 tw_13 dd_Mo_isField ⟨Nat.le_of_ble_eq_true rfl, Nat.le_of_ble_eq_true rfl, Nat.le_of_ble_eq_true rfl, Nat.le_of_ble_eq_true rfl⟩ (Nat.le_of_ble_eq_true rfl) rfl rfl rfl rfl ?_
  refine zo_ifeqB d_Mo_wanted_9 rfl 12 rfl (fun c_5 => ?_) (fun c_5 => ?_)
  · rw [if_neg c_5] at h
    refine zi_lo [(0, .ref a0)] [0] rfl ?_
    exact K_Mo_wanted_b38 n E S a0 q_4.2 r M'  h
  · rw [if_pos c_5] at h
    refine zi_iload_n 2 d_Mo_wanted_12 rfl ?_
    refine zi_i2l d_Mo_wanted_13 ?_
    refine zi_ldc2 d_Mo_wanted_14 tw_1447 ?_
    refine zi_ldc2 d_Mo_wanted_17 tw_1515 ?_
    obtain ⟨q_6, eq_6, h⟩ := zbind h
    refine zo_stat (k' := 0) (n' := 0) 23 [.long x2.toInt64, .long (-1), .long 400] [] [.int (bI q_6.1)] (C_Mo_in n E S x2.toInt64 (-1) 400 q_4.2 q_6.1 q_6.2 eq_6) d_Mo_wanted_20 tw_1419 tw_1417 tw_1418 tw_13 dd_Mo_in ⟨Nat.le_of_ble_eq_true rfl, Nat.le_of_ble_eq_true rfl, Nat.le_of_ble_eq_true rfl, Nat.le_of_ble_eq_true rfl⟩ (Nat.le_of_ble_eq_true rfl) rfl rfl rfl rfl ?_
    refine zo_ifeqB d_Mo_wanted_23 rfl 26 rfl (fun c_7 => ?_) (fun c_7 => ?_)
    · rw [if_neg c_7] at h
      refine zi_lo [(0, .ref a0)] [0] rfl ?_
      exact K_Mo_wanted_b38 n E S a0 q_6.2 r M'  h
    · rw [if_pos c_7] at h
      refine zi_aload_n 0 d_Mo_wanted_26 rfl ?_
      refine zi_bipush 57 d_Mo_wanted_27 rfl ?_
      refine zi_iload_n 1 d_Mo_wanted_29 rfl ?_
      refine zi_iadd d_Mo_wanted_30 ?_
      refine zi_iload_n 2 d_Mo_wanted_31 rfl ?_
      obtain ⟨u_8, eu_8, h⟩ := zbind h
      obtain ⟨q_9, eq_9, h⟩ := zbind h
      refine zo_virt (k' := 0) (n' := 0) 35 [.int (57 + x1), .int x2] [] [.int q_9.1] zkd_11 (zck_s eu_8) (C_Mo_change n E S a0 (57 + x1) x2 q_6.2 q_9.1 q_9.2 eq_9) d_Mo_wanted_32 tw_1480 tw_1477 tw_1479 ts_45 tw_13 dd_Mo_change ⟨Nat.le_of_ble_eq_true rfl, Nat.le_of_ble_eq_true rfl, Nat.le_of_ble_eq_true rfl, Nat.le_of_ble_eq_true rfl⟩ (Nat.le_of_ble_eq_true rfl) rfl rfl rfl rfl ?_
      refine zi_goto (tgt := 43) d_Mo_wanted_35 rfl ?_
      cases h
      exact zo_ret d_Mo_wanted_43 (Nat.le_of_ble_eq_true rfl) (Nat.le_of_ble_eq_true rfl) rfl
theorem C_Mo_wanted (n : Nat) (E : zE) (S : zS) (a0 : Nat) (x1 : Int32) (x2 : Int32) (M : zH) (r : Int32) (M' : zH) (h : F_Mo_wanted n E S a0 x1 x2 M = some (r, M')) : zC E Y_Mo_wanted [.ref a0, .int x1, .int x2] S M (some (.int r), S, M') :=
  zC.of (Or.inl (show plainName "NightColanderModel" = true by decide)) (Nat.le_of_ble_eq_true rfl) (trivial) (K_Mo_wanted n E S a0 x1 x2 M r M' h)
theorem d_Mo_holeAbove_0 : decode (yB Y_Mo_holeAbove) 0 = .ok (.iload_n 2, 1) := by decide +kernel
theorem d_Mo_holeAbove_1 : decode (yB Y_Mo_holeAbove) 1 = .ok (.bipush 8, 2) := by decide +kernel
theorem d_Mo_holeAbove_3 : decode (yB Y_Mo_holeAbove) 3 = .ok (.iadd, 1) := by decide +kernel
theorem d_Mo_holeAbove_4 : decode (yB Y_Mo_holeAbove) 4 = .ok (.iload_n 3, 1) := by decide +kernel
theorem d_Mo_holeAbove_5 : decode (yB Y_Mo_holeAbove) 5 = .ok (.isub, 1) := by decide +kernel
theorem d_Mo_holeAbove_6 : decode (yB Y_Mo_holeAbove) 6 = .ok (.bipush 8, 2) := by decide +kernel
theorem d_Mo_holeAbove_8 : decode (yB Y_Mo_holeAbove) 8 = .ok (.irem, 1) := by decide +kernel
theorem d_Mo_holeAbove_9 : decode (yB Y_Mo_holeAbove) 9 = .ok (.ireturn, 1) := by decide +kernel
def F_Mo_holeAbove (n : Nat) (E : zE) (S : zS) (a0 : Nat) (x1 : Int32) (x2 : Int32) (x3 : Int32) (M : zH) : Option (Int32 × zH) :=
  (zremI ((x2 + 8) - x3) 8).bind fun v_1 =>
  some (v_1, M)
theorem K_Mo_holeAbove (n : Nat) (E : zE) (S : zS) (a0 : Nat) (x1 : Int32) (x2 : Int32) (x3 : Int32) (M : zH) (r : Int32) (M' : zH)  (h : F_Mo_holeAbove n E S a0 x1 x2 x3 M = some (r, M')) : zG E Y_Mo_holeAbove (some (.int r), S, M') 0 [(0, .ref a0), (1, .int x1), (2, .int x2), (3, .int x3)] [] S M 0 0 := by
  unfold F_Mo_holeAbove at h
  refine zi_iload_n 2 d_Mo_holeAbove_0 rfl ?_
  refine zi_bipush 8 d_Mo_holeAbove_1 rfl ?_
  refine zi_iadd d_Mo_holeAbove_3 ?_
  refine zi_iload_n 3 d_Mo_holeAbove_4 rfl ?_
  refine zi_isub d_Mo_holeAbove_5 ?_
  refine zi_bipush 8 d_Mo_holeAbove_6 rfl ?_
  obtain ⟨v_1, ev_1, h⟩ := zbind h
  refine zo_irem 9 d_Mo_holeAbove_8 ev_1 rfl ?_
  cases h
  exact zo_ret d_Mo_holeAbove_9 (Nat.le_of_ble_eq_true rfl) (Nat.le_of_ble_eq_true rfl) rfl
theorem C_Mo_holeAbove (n : Nat) (E : zE) (S : zS) (a0 : Nat) (x1 : Int32) (x2 : Int32) (x3 : Int32) (M : zH) (r : Int32) (M' : zH) (h : F_Mo_holeAbove n E S a0 x1 x2 x3 M = some (r, M')) : zC E Y_Mo_holeAbove [.ref a0, .int x1, .int x2, .int x3] S M (some (.int r), S, M') :=
  zC.of (Or.inl (show plainName "NightColanderModel" = true by decide)) (Nat.le_of_ble_eq_true rfl) (trivial) (K_Mo_holeAbove n E S a0 x1 x2 x3 M r M' h)
theorem d_Mo_flowOn_0 : decode (yB Y_Mo_flowOn) 0 = .ok (.iconst 0, 1) := by decide +kernel
theorem d_Mo_flowOn_1 : decode (yB Y_Mo_flowOn) 1 = .ok (.istore_n 2, 1) := by decide +kernel
theorem d_Mo_flowOn_2 : decode (yB Y_Mo_flowOn) 2 = .ok (.iconst 0, 1) := by decide +kernel
theorem d_Mo_flowOn_3 : decode (yB Y_Mo_flowOn) 3 = .ok (.istore_n 3, 1) := by decide +kernel
theorem d_Mo_flowOn_4 : decode (yB Y_Mo_flowOn) 4 = .ok (.iload_n 3, 1) := by decide +kernel
theorem d_Mo_flowOn_5 : decode (yB Y_Mo_flowOn) 5 = .ok (.iconst 4, 1) := by decide +kernel
theorem d_Mo_flowOn_6 : decode (yB Y_Mo_flowOn) 6 = .ok (.if_icmp .ge 58, 3) := by decide +kernel
theorem d_Mo_flowOn_9 : decode (yB Y_Mo_flowOn) 9 = .ok (.aload_n 0, 1) := by decide +kernel
theorem d_Mo_flowOn_10 : decode (yB Y_Mo_flowOn) 10 = .ok (.iload_n 3, 1) := by decide +kernel
theorem d_Mo_flowOn_11 : decode (yB Y_Mo_flowOn) 11 = .ok (.iload_n 1, 1) := by decide +kernel
theorem d_Mo_flowOn_12 : decode (yB Y_Mo_flowOn) 12 = .ok (.aload_n 0, 1) := by decide +kernel
theorem d_Mo_flowOn_13 : decode (yB Y_Mo_flowOn) 13 = .ok (.getfield 13, 3) := by decide +kernel
theorem d_Mo_flowOn_16 : decode (yB Y_Mo_flowOn) 16 = .ok (.bipush 8, 2) := by decide +kernel
theorem d_Mo_flowOn_18 : decode (yB Y_Mo_flowOn) 18 = .ok (.iload_n 3, 1) := by decide +kernel
theorem d_Mo_flowOn_19 : decode (yB Y_Mo_flowOn) 19 = .ok (.iadd, 1) := by decide +kernel
theorem d_Mo_flowOn_20 : decode (yB Y_Mo_flowOn) 20 = .ok (.iaload, 1) := by decide +kernel
theorem d_Mo_flowOn_21 : decode (yB Y_Mo_flowOn) 21 = .ok (.invokevirtual 442, 3) := by decide +kernel
theorem d_Mo_flowOn_24 : decode (yB Y_Mo_flowOn) 24 = .ok (.istore 4, 2) := by decide +kernel
theorem d_Mo_flowOn_26 : decode (yB Y_Mo_flowOn) 26 = .ok (.iload_n 2, 1) := by decide +kernel
theorem d_Mo_flowOn_27 : decode (yB Y_Mo_flowOn) 27 = .ok (.aload_n 0, 1) := by decide +kernel
theorem d_Mo_flowOn_28 : decode (yB Y_Mo_flowOn) 28 = .ok (.getfield 13, 3) := by decide +kernel
theorem d_Mo_flowOn_31 : decode (yB Y_Mo_flowOn) 31 = .ok (.bipush 44, 2) := by decide +kernel
theorem d_Mo_flowOn_33 : decode (yB Y_Mo_flowOn) 33 = .ok (.iload_n 3, 1) := by decide +kernel
theorem d_Mo_flowOn_34 : decode (yB Y_Mo_flowOn) 34 = .ok (.iadd, 1) := by decide +kernel
theorem d_Mo_flowOn_35 : decode (yB Y_Mo_flowOn) 35 = .ok (.iaload, 1) := by decide +kernel
theorem d_Mo_flowOn_36 : decode (yB Y_Mo_flowOn) 36 = .ok (.iload 4, 2) := by decide +kernel
theorem d_Mo_flowOn_38 : decode (yB Y_Mo_flowOn) 38 = .ok (.invokestatic 197, 3) := by decide +kernel
theorem d_Mo_flowOn_41 : decode (yB Y_Mo_flowOn) 41 = .ok (.ifCond .eq 7, 3) := by decide +kernel
theorem d_Mo_flowOn_44 : decode (yB Y_Mo_flowOn) 44 = .ok (.iconst 0, 1) := by decide +kernel
theorem d_Mo_flowOn_45 : decode (yB Y_Mo_flowOn) 45 = .ok (.goto 11, 3) := by decide +kernel
theorem d_Mo_flowOn_48 : decode (yB Y_Mo_flowOn) 48 = .ok (.aload_n 0, 1) := by decide +kernel
theorem d_Mo_flowOn_49 : decode (yB Y_Mo_flowOn) 49 = .ok (.iload_n 3, 1) := by decide +kernel
theorem d_Mo_flowOn_50 : decode (yB Y_Mo_flowOn) 50 = .ok (.iload 4, 2) := by decide +kernel
theorem d_Mo_flowOn_52 : decode (yB Y_Mo_flowOn) 52 = .ok (.iload_n 1, 1) := by decide +kernel
theorem d_Mo_flowOn_53 : decode (yB Y_Mo_flowOn) 53 = .ok (.invokevirtual 201, 3) := by decide +kernel
theorem d_Mo_flowOn_56 : decode (yB Y_Mo_flowOn) 56 = .ok (.iadd, 1) := by decide +kernel
theorem d_Mo_flowOn_57 : decode (yB Y_Mo_flowOn) 57 = .ok (.istore_n 2, 1) := by decide +kernel
theorem d_Mo_flowOn_58 : decode (yB Y_Mo_flowOn) 58 = .ok (.iinc 3 1, 3) := by decide +kernel
theorem d_Mo_flowOn_61 : decode (yB Y_Mo_flowOn) 61 = .ok (.goto (-57), 3) := by decide +kernel
theorem d_Mo_flowOn_64 : decode (yB Y_Mo_flowOn) 64 = .ok (.iload_n 2, 1) := by decide +kernel
theorem d_Mo_flowOn_65 : decode (yB Y_Mo_flowOn) 65 = .ok (.ireturn, 1) := by decide +kernel
def F_Mo_flowOn_b56 (n : Nat) (E : zE) (S : zS) (r4 : Nat × Int32 × Int32 × Int32 × zH → Option (Int32 × zH)) (a0 : Nat) (x1 : Int32) (x3 : Int32) (s0 : Int32) (s1 : Int32) (M : zH) : Option (Int32 × zH) :=
  r4 (a0, x1, s1 + s0, x3 + 1, M)
def F_Mo_flowOn_L4 (n : Nat) (E : zE) (S : zS) (r4 : Nat × Int32 × Int32 × Int32 × zH → Option (Int32 × zH)) (a0 : Nat) (x1 : Int32) (x2 : Int32) (x3 : Int32) (M : zH) : Option (Int32 × zH) :=
  if 4 ≤ x3 then
    some (x2, M)
  else
    (zgR S a0 11 3).bind fun b_2 =>
    (zldI S M b_2 (8 + x3)).bind fun v_3 =>
    (F_Mo_holeAbove n E S a0 x3 x1 v_3 M).bind fun q_4 =>
    (zldI S q_4.2 b_2 (44 + x3)).bind fun v_5 =>
    (F_Mo_is n E S v_5 q_4.1 q_4.2).bind fun q_6 =>
    if q_6.1 = true then
      F_Mo_flowOn_b56 n E S r4 a0 x1 x3 0 x2 q_6.2
    else
      (F_Mo_runsOf n E S a0 x3 q_4.1 x1 q_6.2).bind fun q_8 =>
      F_Mo_flowOn_b56 n E S r4 a0 x1 x3 q_8.1 x2 q_8.2
def F_Mo_flowOn_b4 (n : Nat) (E : zE) (S : zS) : Nat × Int32 × Int32 × Int32 × zH → Option (Int32 × zH) := zfix (fun r4 s => F_Mo_flowOn_L4 n E S r4 s.1 s.2.1 s.2.2.1 s.2.2.2.1 s.2.2.2.2) n
def F_Mo_flowOn (n : Nat) (E : zE) (S : zS) (a0 : Nat) (x1 : Int32) (M : zH) : Option (Int32 × zH) :=
  F_Mo_flowOn_b4 n E S (a0, x1, 0, 0, M)
theorem K_Mo_flowOn_b56 (n : Nat) (E : zE) (S : zS) (r4 : Nat × Int32 × Int32 × Int32 × zH → Option (Int32 × zH)) (a0 : Nat) (x1 : Int32) (x3 : Int32) (s0 : Int32) (s1 : Int32) (M : zH) (r : Int32) (M' : zH) (hr4 : ∀ (a0 : Nat) (x1 : Int32) (x2 : Int32) (x3 : Int32) (M : zH), r4 (a0, x1, x2, x3, M) = some (r, M') → zG E Y_Mo_flowOn (some (.int r), S, M') 4 [(0, .ref a0), (1, .int x1), (2, .int x2), (3, .int x3)] [] S M 0 0) (h : F_Mo_flowOn_b56 n E S r4 a0 x1 x3 s0 s1 M = some (r, M')) : zG E Y_Mo_flowOn (some (.int r), S, M') 56 [(0, .ref a0), (1, .int x1), (3, .int x3)] [.int s0, .int s1] S M 0 0 := by
  unfold F_Mo_flowOn_b56 at h
  refine zi_iadd d_Mo_flowOn_56 ?_
  refine zi_istore_n [(2, .int (s1 + s0)), (0, .ref a0), (1, .int x1), (3, .int x3)] d_Mo_flowOn_57 (by decide) rfl ?_
  refine zi_iinc 3 (x3 + 1) [(3, .int (x3 + 1)), (2, .int (s1 + s0)), (0, .ref a0), (1, .int x1)] d_Mo_flowOn_58 rfl rfl (by decide) rfl ?_
  refine zi_goto (tgt := 4) d_Mo_flowOn_61 rfl ?_
  refine zi_lo [(0, .ref a0), (1, .int x1), (2, .int (s1 + s0)), (3, .int (x3 + 1))] [2, 3, 1, 0] rfl ?_
  exact hr4 a0 x1 (s1 + s0) (x3 + 1) M h
theorem K_Mo_flowOn_L4 (n : Nat) (E : zE) (S : zS) (r4 : Nat × Int32 × Int32 × Int32 × zH → Option (Int32 × zH)) (a0 : Nat) (x1 : Int32) (x2 : Int32) (x3 : Int32) (M : zH) (r : Int32) (M' : zH) (hr4 : ∀ (a0 : Nat) (x1 : Int32) (x2 : Int32) (x3 : Int32) (M : zH), r4 (a0, x1, x2, x3, M) = some (r, M') → zG E Y_Mo_flowOn (some (.int r), S, M') 4 [(0, .ref a0), (1, .int x1), (2, .int x2), (3, .int x3)] [] S M 0 0) (h : F_Mo_flowOn_L4 n E S r4 a0 x1 x2 x3 M = some (r, M')) : zG E Y_Mo_flowOn (some (.int r), S, M') 4 [(0, .ref a0), (1, .int x1), (2, .int x2), (3, .int x3)] [] S M 0 0 := by
  unfold F_Mo_flowOn_L4 at h
  refine zi_iload_n 3 d_Mo_flowOn_4 rfl ?_
  refine zi_iconst 4 d_Mo_flowOn_5 rfl ?_
  refine zi_icmp_ge (tgt := 64) d_Mo_flowOn_6 rfl (fun c_1 => ?_) (fun c_1 => ?_)
  · rw [if_pos c_1] at h
    refine zi_iload_n 2 d_Mo_flowOn_64 rfl ?_
    cases h
    exact zo_ret d_Mo_flowOn_65 (Nat.le_of_ble_eq_true rfl) (Nat.le_of_ble_eq_true rfl) rfl
  · rw [if_neg c_1] at h
    refine zi_aload_n 0 d_Mo_flowOn_9 rfl ?_
    refine zi_iload_n 3 d_Mo_flowOn_10 rfl ?_
    refine zi_iload_n 1 d_Mo_flowOn_11 rfl ?_
    refine zi_aload_n 0 d_Mo_flowOn_12 rfl ?_
    obtain ⟨b_2, eb_2, h⟩ := zbind h
    refine zo_getR 16 zkd_11 3 d_Mo_flowOn_13 eb_2 rfl tw_1232 rfl ?_
    refine zi_bipush 8 d_Mo_flowOn_16 rfl ?_
    refine zi_iload_n 3 d_Mo_flowOn_18 rfl ?_
    refine zi_iadd d_Mo_flowOn_19 ?_
    obtain ⟨v_3, ev_3, h⟩ := zbind h
    refine zo_iald 21 d_Mo_flowOn_20 ev_3 rfl ?_
    obtain ⟨q_4, eq_4, h⟩ := zbind h
    refine zo_virt (k' := 0) (n' := 0) 24 [.int x3, .int x1, .int v_3] [] [.int q_4.1] zkd_11 (zgR_s eb_2).1 (C_Mo_holeAbove n E S a0 x3 x1 v_3 M q_4.1 q_4.2 eq_4) d_Mo_flowOn_21 tw_1527 tw_1524 tw_1526 ts_52 tw_13 dd_Mo_holeAbove ⟨Nat.le_of_ble_eq_true rfl, Nat.le_of_ble_eq_true rfl, Nat.le_of_ble_eq_true rfl, Nat.le_of_ble_eq_true rfl⟩ (Nat.le_of_ble_eq_true rfl) rfl rfl rfl rfl ?_
    refine zi_istore [(4, .int q_4.1), (0, .ref a0), (1, .int x1), (2, .int x2), (3, .int x3)] d_Mo_flowOn_24 (by decide) rfl ?_
    refine zi_iload_n 3 d_Mo_flowOn_26 rfl ?_
    refine zi_aload_n 1 d_Mo_flowOn_27 rfl ?_
    refine zo_getR 31 zkd_11 3 d_Mo_flowOn_28 eb_2 rfl tw_1232 rfl ?_
    refine zi_bipush 44 d_Mo_flowOn_31 rfl ?_
    refine zi_iload_n 4 d_Mo_flowOn_33 rfl ?_
    refine zi_iadd d_Mo_flowOn_34 ?_
    obtain ⟨v_5, ev_5, h⟩ := zbind h
    refine zo_iald 36 d_Mo_flowOn_35 ev_5 rfl ?_
    refine zi_iload 0 d_Mo_flowOn_36 rfl ?_
    obtain ⟨q_6, eq_6, h⟩ := zbind h
    refine zo_stat (k' := 0) (n' := 0) 41 [.int v_5, .int q_4.1] [.int x2] [.int (bI q_6.1), .int x2] (C_Mo_is n E S v_5 q_4.1 q_4.2 q_6.1 q_6.2 eq_6) d_Mo_flowOn_38 tw_1442 tw_1440 tw_1441 tw_13 dd_Mo_is ⟨Nat.le_of_ble_eq_true rfl, Nat.le_of_ble_eq_true rfl, Nat.le_of_ble_eq_true rfl, Nat.le_of_ble_eq_true rfl⟩ (Nat.le_of_ble_eq_true rfl) rfl rfl rfl rfl ?_
    refine zo_ifeqB d_Mo_flowOn_41 rfl 44 rfl (fun c_7 => ?_) (fun c_7 => ?_)
    · rw [if_neg c_7] at h
      refine zi_aload_n 1 d_Mo_flowOn_48 rfl ?_
      refine zi_iload_n 4 d_Mo_flowOn_49 rfl ?_
      refine zi_iload 0 d_Mo_flowOn_50 rfl ?_
      refine zi_iload_n 2 d_Mo_flowOn_52 rfl ?_
      obtain ⟨q_8, eq_8, h⟩ := zbind h
      refine zo_virt (k' := 0) (n' := 0) 56 [.int x3, .int q_4.1, .int x1] [.int x2] [.int q_8.1, .int x2] zkd_11 (zgR_s eb_2).1 (C_Mo_runsOf n E S a0 x3 q_4.1 x1 q_6.2 q_8.1 q_8.2 eq_8) d_Mo_flowOn_53 tw_1446 tw_1443 tw_1445 ts_39 tw_13 dd_Mo_runsOf ⟨Nat.le_of_ble_eq_true rfl, Nat.le_of_ble_eq_true rfl, Nat.le_of_ble_eq_true rfl, Nat.le_of_ble_eq_true rfl⟩ (Nat.le_of_ble_eq_true rfl) rfl rfl rfl rfl ?_
      refine zi_lo [(0, .ref a0), (1, .int x1), (3, .int x3)] [1, 2, 4] rfl ?_
      exact K_Mo_flowOn_b56 n E S r4 a0 x1 x3 q_8.1 x2 q_8.2 r M' hr4 h
    · rw [if_pos c_7] at h
      refine zi_iconst 0 d_Mo_flowOn_44 rfl ?_
      refine zi_goto (tgt := 56) d_Mo_flowOn_45 rfl ?_
      refine zi_lo [(0, .ref a0), (1, .int x1), (3, .int x3)] [1, 2, 4] rfl ?_
      exact K_Mo_flowOn_b56 n E S r4 a0 x1 x3 0 x2 q_6.2 r M' hr4 h
theorem K_Mo_flowOn_b4 (n : Nat) (E : zE) (S : zS) (a0 : Nat) (x1 : Int32) (x2 : Int32) (x3 : Int32) (M : zH) (r : Int32) (M' : zH)  (h : F_Mo_flowOn_b4 n E S (a0, x1, x2, x3, M) = some (r, M')) : zG E Y_Mo_flowOn (some (.int r), S, M') 4 [(0, .ref a0), (1, .int x1), (2, .int x2), (3, .int x3)] [] S M 0 0 := by
  have key : ∀ (k : Nat) (a0 : Nat) (x1 : Int32) (x2 : Int32) (x3 : Int32) (M : zH), zfix (fun r4 s => F_Mo_flowOn_L4 n E S r4 s.1 s.2.1 s.2.2.1 s.2.2.2.1 s.2.2.2.2) k (a0, x1, x2, x3, M) = some (r, M') → zG E Y_Mo_flowOn (some (.int r), S, M') 4 [(0, .ref a0), (1, .int x1), (2, .int x2), (3, .int x3)] [] S M 0 0 := by
    intro k
    induction k with
    | zero => intro a0 x1 x2 x3 M h; cases h
    | succ k ih => intro a0 x1 x2 x3 M h; exact K_Mo_flowOn_L4 n E S _ a0 x1 x2 x3 M r M'  (fun a0 x1 x2 x3 M h => ih a0 x1 x2 x3 M h) h
  exact key n a0 x1 x2 x3 M h
theorem K_Mo_flowOn (n : Nat) (E : zE) (S : zS) (a0 : Nat) (x1 : Int32) (M : zH) (r : Int32) (M' : zH)  (h : F_Mo_flowOn n E S a0 x1 M = some (r, M')) : zG E Y_Mo_flowOn (some (.int r), S, M') 0 [(0, .ref a0), (1, .int x1)] [] S M 0 0 := by
  unfold F_Mo_flowOn at h
  refine zi_iconst 0 d_Mo_flowOn_0 rfl ?_
  refine zi_istore_n [(2, .int 0), (0, .ref a0), (1, .int x1)] d_Mo_flowOn_1 (by decide) rfl ?_
  refine zi_iconst 0 d_Mo_flowOn_2 rfl ?_
  refine zi_istore_n [(3, .int 0), (2, .int 0), (0, .ref a0), (1, .int x1)] d_Mo_flowOn_3 (by decide) rfl ?_
  refine zi_lo [(0, .ref a0), (1, .int x1), (2, .int 0), (3, .int 0)] [2, 3, 1, 0] rfl ?_
  exact K_Mo_flowOn_b4 n E S a0 x1 0 0 M r M'  h
theorem C_Mo_flowOn (n : Nat) (E : zE) (S : zS) (a0 : Nat) (x1 : Int32) (M : zH) (r : Int32) (M' : zH) (h : F_Mo_flowOn n E S a0 x1 M = some (r, M')) : zC E Y_Mo_flowOn [.ref a0, .int x1] S M (some (.int r), S, M') :=
  zC.of (Or.inl (show plainName "NightColanderModel" = true by decide)) (Nat.le_of_ble_eq_true rfl) (trivial) (K_Mo_flowOn n E S a0 x1 M r M' h)
theorem d_Mo_flow_0 : decode (yB Y_Mo_flow) 0 = .ok (.aload_n 0, 1) := by decide +kernel
theorem d_Mo_flow_1 : decode (yB Y_Mo_flow) 1 = .ok (.iconst 0, 1) := by decide +kernel
theorem d_Mo_flow_2 : decode (yB Y_Mo_flow) 2 = .ok (.putfield 156, 3) := by decide +kernel
theorem d_Mo_flow_5 : decode (yB Y_Mo_flow) 5 = .ok (.iload_n 1, 1) := by decide +kernel
theorem d_Mo_flow_6 : decode (yB Y_Mo_flow) 6 = .ok (.invokestatic 194, 3) := by decide +kernel
theorem d_Mo_flow_9 : decode (yB Y_Mo_flow) 9 = .ok (.ifCond .eq 11, 3) := by decide +kernel
theorem d_Mo_flow_12 : decode (yB Y_Mo_flow) 12 = .ok (.aload_n 0, 1) := by decide +kernel
theorem d_Mo_flow_13 : decode (yB Y_Mo_flow) 13 = .ok (.iload_n 1, 1) := by decide +kernel
theorem d_Mo_flow_14 : decode (yB Y_Mo_flow) 14 = .ok (.invokevirtual 232, 3) := by decide +kernel
theorem d_Mo_flow_17 : decode (yB Y_Mo_flow) 17 = .ok (.goto 4, 3) := by decide +kernel
theorem d_Mo_flow_20 : decode (yB Y_Mo_flow) 20 = .ok (.iconst (-1), 1) := by decide +kernel
theorem d_Mo_flow_21 : decode (yB Y_Mo_flow) 21 = .ok (.ireturn, 1) := by decide +kernel
def F_Mo_flow (n : Nat) (E : zE) (S : zS) (a0 : Nat) (x1 : Int32) (M : zH) : Option (Int32 × zH) :=
  (zpI S M a0 11 0 0).bind fun m_1 =>
  (F_Mo_isField n E S x1 m_1).bind fun q_2 =>
  if q_2.1 = true then
    (zck S a0 11).bind fun u_4 =>
    (F_Mo_flowOn n E S a0 x1 q_2.2).bind fun q_5 =>
    some (q_5.1, q_5.2)
  else
    some ((-1), q_2.2)
theorem K_Mo_flow (n : Nat) (E : zE) (S : zS) (a0 : Nat) (x1 : Int32) (M : zH) (r : Int32) (M' : zH)  (h : F_Mo_flow n E S a0 x1 M = some (r, M')) : zG E Y_Mo_flow (some (.int r), S, M') 0 [(0, .ref a0), (1, .int x1)] [] S M 0 0 := by
  unfold F_Mo_flow at h
  refine zi_aload_n 0 d_Mo_flow_0 rfl ?_
  refine zi_iconst 0 d_Mo_flow_1 rfl ?_
  obtain ⟨m_1, em_1, h⟩ := zbind h
  refine zo_putI 5 zkd_11 0 d_Mo_flow_2 em_1 rfl rfl rfl tw_1229 rfl ?_
  refine zi_iload_n 1 d_Mo_flow_5 rfl ?_
  obtain ⟨q_2, eq_2, h⟩ := zbind h
  refine zo_stat (k' := 0) (n' := 0) 9 [.int x1] [] [.int (bI q_2.1)] (C_Mo_isField n E S x1 m_1 q_2.1 q_2.2 eq_2) d_Mo_flow_6 tw_1438 tw_1436 tw_1437 tw_13 dd_Mo_isField ⟨Nat.le_of_ble_eq_true rfl, Nat.le_of_ble_eq_true rfl, Nat.le_of_ble_eq_true rfl, Nat.le_of_ble_eq_true rfl⟩ (Nat.le_of_ble_eq_true rfl) rfl rfl rfl rfl ?_
  refine zo_ifeqB d_Mo_flow_9 rfl 12 rfl (fun c_3 => ?_) (fun c_3 => ?_)
  · rw [if_neg c_3] at h
    refine zi_iconst (-1) d_Mo_flow_20 rfl ?_
    cases h
    exact zo_ret d_Mo_flow_21 (Nat.le_of_ble_eq_true rfl) (Nat.le_of_ble_eq_true rfl) rfl
  · rw [if_pos c_3] at h
    refine zi_aload_n 0 d_Mo_flow_12 rfl ?_
    refine zi_iload_n 1 d_Mo_flow_13 rfl ?_
    obtain ⟨u_4, eu_4, h⟩ := zbind h
    obtain ⟨q_5, eq_5, h⟩ := zbind h
    refine zo_virt (k' := 0) (n' := 0) 17 [.int x1] [] [.int q_5.1] zkd_11 (zck_s eu_4) (C_Mo_flowOn n E S a0 x1 q_2.2 q_5.1 q_5.2 eq_5) d_Mo_flow_14 tw_1523 tw_1520 tw_1522 ts_51 tw_13 dd_Mo_flowOn ⟨Nat.le_of_ble_eq_true rfl, Nat.le_of_ble_eq_true rfl, Nat.le_of_ble_eq_true rfl, Nat.le_of_ble_eq_true rfl⟩ (Nat.le_of_ble_eq_true rfl) rfl rfl rfl rfl ?_
    refine zi_goto (tgt := 21) d_Mo_flow_17 rfl ?_
    cases h
    exact zo_ret d_Mo_flow_21 (Nat.le_of_ble_eq_true rfl) (Nat.le_of_ble_eq_true rfl) rfl
theorem C_Mo_flow (n : Nat) (E : zE) (S : zS) (a0 : Nat) (x1 : Int32) (M : zH) (r : Int32) (M' : zH) (h : F_Mo_flow n E S a0 x1 M = some (r, M')) : zC E Y_Mo_flow [.ref a0, .int x1] S M (some (.int r), S, M') :=
  zC.of (Or.inl (show plainName "NightColanderModel" = true by decide)) (Nat.le_of_ble_eq_true rfl) (trivial) (K_Mo_flow n E S a0 x1 M r M' h)
theorem d_Mo_isTerm_0 : decode (yB Y_Mo_isTerm) 0 = .ok (.iload_n 0, 1) := by decide +kernel
theorem d_Mo_isTerm_1 : decode (yB Y_Mo_isTerm) 1 = .ok (.tableswitch 71 0 3 #[31, 41, 51, 61], 31) := by decide +kernel
theorem d_Mo_isTerm_32 : decode (yB Y_Mo_isTerm) 32 = .ok (.iload_n 1, 1) := by decide +kernel
theorem d_Mo_isTerm_33 : decode (yB Y_Mo_isTerm) 33 = .ok (.i2l, 1) := by decide +kernel
theorem d_Mo_isTerm_34 : decode (yB Y_Mo_isTerm) 34 = .ok (.lconst 0, 1) := by decide +kernel
theorem d_Mo_isTerm_35 : decode (yB Y_Mo_isTerm) 35 = .ok (.ldc2_w 235, 3) := by decide +kernel
theorem d_Mo_isTerm_38 : decode (yB Y_Mo_isTerm) 38 = .ok (.invokestatic 176, 3) := by decide +kernel
theorem d_Mo_isTerm_41 : decode (yB Y_Mo_isTerm) 41 = .ok (.ireturn, 1) := by decide +kernel
theorem d_Mo_isTerm_42 : decode (yB Y_Mo_isTerm) 42 = .ok (.iload_n 1, 1) := by decide +kernel
theorem d_Mo_isTerm_43 : decode (yB Y_Mo_isTerm) 43 = .ok (.i2l, 1) := by decide +kernel
theorem d_Mo_isTerm_44 : decode (yB Y_Mo_isTerm) 44 = .ok (.lconst 0, 1) := by decide +kernel
theorem d_Mo_isTerm_45 : decode (yB Y_Mo_isTerm) 45 = .ok (.ldc2_w 237, 3) := by decide +kernel
theorem d_Mo_isTerm_48 : decode (yB Y_Mo_isTerm) 48 = .ok (.invokestatic 176, 3) := by decide +kernel
theorem d_Mo_isTerm_51 : decode (yB Y_Mo_isTerm) 51 = .ok (.ireturn, 1) := by decide +kernel
theorem d_Mo_isTerm_52 : decode (yB Y_Mo_isTerm) 52 = .ok (.iload_n 1, 1) := by decide +kernel
theorem d_Mo_isTerm_53 : decode (yB Y_Mo_isTerm) 53 = .ok (.i2l, 1) := by decide +kernel
theorem d_Mo_isTerm_54 : decode (yB Y_Mo_isTerm) 54 = .ok (.lconst 0, 1) := by decide +kernel
theorem d_Mo_isTerm_55 : decode (yB Y_Mo_isTerm) 55 = .ok (.ldc2_w 237, 3) := by decide +kernel
theorem d_Mo_isTerm_58 : decode (yB Y_Mo_isTerm) 58 = .ok (.invokestatic 176, 3) := by decide +kernel
theorem d_Mo_isTerm_61 : decode (yB Y_Mo_isTerm) 61 = .ok (.ireturn, 1) := by decide +kernel
theorem d_Mo_isTerm_62 : decode (yB Y_Mo_isTerm) 62 = .ok (.iload_n 1, 1) := by decide +kernel
theorem d_Mo_isTerm_63 : decode (yB Y_Mo_isTerm) 63 = .ok (.i2l, 1) := by decide +kernel
theorem d_Mo_isTerm_64 : decode (yB Y_Mo_isTerm) 64 = .ok (.lconst 0, 1) := by decide +kernel
theorem d_Mo_isTerm_65 : decode (yB Y_Mo_isTerm) 65 = .ok (.ldc2_w 239, 3) := by decide +kernel
theorem d_Mo_isTerm_68 : decode (yB Y_Mo_isTerm) 68 = .ok (.invokestatic 176, 3) := by decide +kernel
theorem d_Mo_isTerm_71 : decode (yB Y_Mo_isTerm) 71 = .ok (.ireturn, 1) := by decide +kernel
theorem d_Mo_isTerm_72 : decode (yB Y_Mo_isTerm) 72 = .ok (.iconst 0, 1) := by decide +kernel
theorem d_Mo_isTerm_73 : decode (yB Y_Mo_isTerm) 73 = .ok (.ireturn, 1) := by decide +kernel
def F_Mo_isTerm (n : Nat) (E : zE) (S : zS) (x0 : Int32) (x1 : Int32) (M : zH) : Option (Bool × zH) :=
  if x0 = 0 then
    (F_Mo_in n E S x1.toInt64 0 999 M).bind fun q_2 =>
    some (q_2.1, q_2.2)
  else
  if x0 = 1 then
    (F_Mo_in n E S x1.toInt64 0 9 M).bind fun q_4 =>
    some (q_4.1, q_4.2)
  else
  if x0 = 2 then
    (F_Mo_in n E S x1.toInt64 0 9 M).bind fun q_6 =>
    some (q_6.1, q_6.2)
  else
  if x0 = 3 then
    (F_Mo_in n E S x1.toInt64 0 10 M).bind fun q_8 =>
    some (q_8.1, q_8.2)
  else
    some (false, M)
theorem K_Mo_isTerm (n : Nat) (E : zE) (S : zS) (x0 : Int32) (x1 : Int32) (M : zH) (r : Bool) (M' : zH)  (h : F_Mo_isTerm n E S x0 x1 M = some (r, M')) : zG E Y_Mo_isTerm (some (.int (bI r)), S, M') 0 [(0, .int x0), (1, .int x1)] [] S M 0 0 := by
  unfold F_Mo_isTerm at h
  refine zi_iload_n 0 d_Mo_isTerm_0 rfl ?_
  by_cases c_1 : x0 = 0
  · rw [if_pos c_1] at h
    refine zo_tab (tgt := 32) 0 d_Mo_isTerm_1 c_1 (by decide) (by decide) rfl rfl ?_
    refine zi_iload_n 1 d_Mo_isTerm_32 rfl ?_
    refine zi_i2l d_Mo_isTerm_33 ?_
    refine zi_lconst 0 d_Mo_isTerm_34 rfl ?_
    refine zi_ldc2 d_Mo_isTerm_35 tw_1535 ?_
    obtain ⟨q_2, eq_2, h⟩ := zbind h
    refine zo_stat (k' := 0) (n' := 0) 41 [.long x1.toInt64, .long 0, .long 999] [] [.int (bI q_2.1)] (C_Mo_in n E S x1.toInt64 0 999 M q_2.1 q_2.2 eq_2) d_Mo_isTerm_38 tw_1419 tw_1417 tw_1418 tw_13 dd_Mo_in ⟨Nat.le_of_ble_eq_true rfl, Nat.le_of_ble_eq_true rfl, Nat.le_of_ble_eq_true rfl, Nat.le_of_ble_eq_true rfl⟩ (Nat.le_of_ble_eq_true rfl) rfl rfl rfl rfl ?_
    cases h
    exact zo_retB d_Mo_isTerm_41 (Nat.le_of_ble_eq_true rfl) (Nat.le_of_ble_eq_true rfl) rfl
  rw [if_neg c_1] at h
  by_cases c_3 : x0 = 1
  · rw [if_pos c_3] at h
    refine zo_tab (tgt := 42) 1 d_Mo_isTerm_1 c_3 (by decide) (by decide) rfl rfl ?_
    refine zi_iload_n 1 d_Mo_isTerm_42 rfl ?_
    refine zi_i2l d_Mo_isTerm_43 ?_
    refine zi_lconst 0 d_Mo_isTerm_44 rfl ?_
    refine zi_ldc2 d_Mo_isTerm_45 tw_1536 ?_
    obtain ⟨q_4, eq_4, h⟩ := zbind h
    refine zo_stat (k' := 0) (n' := 0) 51 [.long x1.toInt64, .long 0, .long 9] [] [.int (bI q_4.1)] (C_Mo_in n E S x1.toInt64 0 9 M q_4.1 q_4.2 eq_4) d_Mo_isTerm_48 tw_1419 tw_1417 tw_1418 tw_13 dd_Mo_in ⟨Nat.le_of_ble_eq_true rfl, Nat.le_of_ble_eq_true rfl, Nat.le_of_ble_eq_true rfl, Nat.le_of_ble_eq_true rfl⟩ (Nat.le_of_ble_eq_true rfl) rfl rfl rfl rfl ?_
    cases h
    exact zo_retB d_Mo_isTerm_51 (Nat.le_of_ble_eq_true rfl) (Nat.le_of_ble_eq_true rfl) rfl
  rw [if_neg c_3] at h
  by_cases c_5 : x0 = 2
  · rw [if_pos c_5] at h
    refine zo_tab (tgt := 52) 2 d_Mo_isTerm_1 c_5 (by decide) (by decide) rfl rfl ?_
    refine zi_iload_n 1 d_Mo_isTerm_52 rfl ?_
    refine zi_i2l d_Mo_isTerm_53 ?_
    refine zi_lconst 0 d_Mo_isTerm_54 rfl ?_
    refine zi_ldc2 d_Mo_isTerm_55 tw_1536 ?_
    obtain ⟨q_6, eq_6, h⟩ := zbind h
    refine zo_stat (k' := 0) (n' := 0) 61 [.long x1.toInt64, .long 0, .long 9] [] [.int (bI q_6.1)] (C_Mo_in n E S x1.toInt64 0 9 M q_6.1 q_6.2 eq_6) d_Mo_isTerm_58 tw_1419 tw_1417 tw_1418 tw_13 dd_Mo_in ⟨Nat.le_of_ble_eq_true rfl, Nat.le_of_ble_eq_true rfl, Nat.le_of_ble_eq_true rfl, Nat.le_of_ble_eq_true rfl⟩ (Nat.le_of_ble_eq_true rfl) rfl rfl rfl rfl ?_
    cases h
    exact zo_retB d_Mo_isTerm_61 (Nat.le_of_ble_eq_true rfl) (Nat.le_of_ble_eq_true rfl) rfl
  rw [if_neg c_5] at h
  by_cases c_7 : x0 = 3
  · rw [if_pos c_7] at h
    refine zo_tab (tgt := 62) 3 d_Mo_isTerm_1 c_7 (by decide) (by decide) rfl rfl ?_
    refine zi_iload_n 1 d_Mo_isTerm_62 rfl ?_
    refine zi_i2l d_Mo_isTerm_63 ?_
    refine zi_lconst 0 d_Mo_isTerm_64 rfl ?_
    refine zi_ldc2 d_Mo_isTerm_65 tw_1537 ?_
    obtain ⟨q_8, eq_8, h⟩ := zbind h
    refine zo_stat (k' := 0) (n' := 0) 71 [.long x1.toInt64, .long 0, .long 10] [] [.int (bI q_8.1)] (C_Mo_in n E S x1.toInt64 0 10 M q_8.1 q_8.2 eq_8) d_Mo_isTerm_68 tw_1419 tw_1417 tw_1418 tw_13 dd_Mo_in ⟨Nat.le_of_ble_eq_true rfl, Nat.le_of_ble_eq_true rfl, Nat.le_of_ble_eq_true rfl, Nat.le_of_ble_eq_true rfl⟩ (Nat.le_of_ble_eq_true rfl) rfl rfl rfl rfl ?_
    cases h
    exact zo_retB d_Mo_isTerm_71 (Nat.le_of_ble_eq_true rfl) (Nat.le_of_ble_eq_true rfl) rfl
  rw [if_neg c_7] at h
  refine zo_tabP (tgt := 72) 0 4 d_Mo_isTerm_1 rfl rfl (fun j hj => by match j, hj with | 0, _ => exact c_1  | 1, _ => exact c_3  | 2, _ => exact c_5  | 3, _ => exact c_7 | j + 4, hj => exact absurd hj (by omega)) rfl ?_
  refine zi_iconst 0 d_Mo_isTerm_72 rfl ?_
  cases h
  exact zo_retB d_Mo_isTerm_73 (Nat.le_of_ble_eq_true rfl) (Nat.le_of_ble_eq_true rfl) rfl
theorem C_Mo_isTerm (n : Nat) (E : zE) (S : zS) (x0 : Int32) (x1 : Int32) (M : zH) (r : Bool) (M' : zH) (h : F_Mo_isTerm n E S x0 x1 M = some (r, M')) : zC E Y_Mo_isTerm [.int x0, .int x1] S M (some (.int (bI r)), S, M') :=
  zC.of (Or.inl (show plainName "NightColanderModel" = true by decide)) (Nat.le_of_ble_eq_true rfl) (bI_nar r) (K_Mo_isTerm n E S x0 x1 M r M' h)
theorem d_Mo_terms_0 : decode (yB Y_Mo_terms) 0 = .ok (.aload_n 0, 1) := by decide +kernel
theorem d_Mo_terms_1 : decode (yB Y_Mo_terms) 1 = .ok (.iconst 0, 1) := by decide +kernel
theorem d_Mo_terms_2 : decode (yB Y_Mo_terms) 2 = .ok (.putfield 156, 3) := by decide +kernel
theorem d_Mo_terms_5 : decode (yB Y_Mo_terms) 5 = .ok (.iload_n 1, 1) := by decide +kernel
theorem d_Mo_terms_6 : decode (yB Y_Mo_terms) 6 = .ok (.iload_n 2, 1) := by decide +kernel
theorem d_Mo_terms_7 : decode (yB Y_Mo_terms) 7 = .ok (.invokestatic 241, 3) := by decide +kernel
theorem d_Mo_terms_10 : decode (yB Y_Mo_terms) 10 = .ok (.ifCond .ne 9, 3) := by decide +kernel
theorem d_Mo_terms_13 : decode (yB Y_Mo_terms) 13 = .ok (.aload_n 0, 1) := by decide +kernel
theorem d_Mo_terms_14 : decode (yB Y_Mo_terms) 14 = .ok (.iconst (-1), 1) := by decide +kernel
theorem d_Mo_terms_15 : decode (yB Y_Mo_terms) 15 = .ok (.invokevirtual 165, 3) := by decide +kernel
theorem d_Mo_terms_18 : decode (yB Y_Mo_terms) 18 = .ok (.ireturn, 1) := by decide +kernel
theorem d_Mo_terms_19 : decode (yB Y_Mo_terms) 19 = .ok (.aload_n 0, 1) := by decide +kernel
theorem d_Mo_terms_20 : decode (yB Y_Mo_terms) 20 = .ok (.iconst 0, 1) := by decide +kernel
theorem d_Mo_terms_21 : decode (yB Y_Mo_terms) 21 = .ok (.putfield 162, 3) := by decide +kernel
theorem d_Mo_terms_24 : decode (yB Y_Mo_terms) 24 = .ok (.aload_n 0, 1) := by decide +kernel
theorem d_Mo_terms_25 : decode (yB Y_Mo_terms) 25 = .ok (.iconst 4, 1) := by decide +kernel
theorem d_Mo_terms_26 : decode (yB Y_Mo_terms) 26 = .ok (.iload_n 1, 1) := by decide +kernel
theorem d_Mo_terms_27 : decode (yB Y_Mo_terms) 27 = .ok (.iadd, 1) := by decide +kernel
theorem d_Mo_terms_28 : decode (yB Y_Mo_terms) 28 = .ok (.iload_n 2, 1) := by decide +kernel
theorem d_Mo_terms_29 : decode (yB Y_Mo_terms) 29 = .ok (.invokevirtual 205, 3) := by decide +kernel
theorem d_Mo_terms_32 : decode (yB Y_Mo_terms) 32 = .ok (.ireturn, 1) := by decide +kernel
def F_Mo_terms (n : Nat) (E : zE) (S : zS) (a0 : Nat) (x1 : Int32) (x2 : Int32) (M : zH) : Option (Int32 × zH) :=
  (zpI S M a0 11 0 0).bind fun m_1 =>
  (F_Mo_isTerm n E S x1 x2 m_1).bind fun q_2 =>
  if q_2.1 = true then
    (zpI S q_2.2 a0 11 8 0).bind fun m_4 =>
    (zck S a0 11).bind fun u_5 =>
    (F_Mo_change n E S a0 (4 + x1) x2 m_4).bind fun q_6 =>
    some (q_6.1, q_6.2)
  else
    (zck S a0 11).bind fun u_7 =>
    (F_Mo_tell n E S a0 (-1) q_2.2).bind fun q_8 =>
    some (q_8.1, q_8.2)
theorem K_Mo_terms (n : Nat) (E : zE) (S : zS) (a0 : Nat) (x1 : Int32) (x2 : Int32) (M : zH) (r : Int32) (M' : zH)  (h : F_Mo_terms n E S a0 x1 x2 M = some (r, M')) : zG E Y_Mo_terms (some (.int r), S, M') 0 [(0, .ref a0), (1, .int x1), (2, .int x2)] [] S M 0 0 := by
  unfold F_Mo_terms at h
  refine zi_aload_n 0 d_Mo_terms_0 rfl ?_
  refine zi_iconst 0 d_Mo_terms_1 rfl ?_
  obtain ⟨m_1, em_1, h⟩ := zbind h
  refine zo_putI 5 zkd_11 0 d_Mo_terms_2 em_1 rfl rfl rfl tw_1229 rfl ?_
  refine zi_iload_n 1 d_Mo_terms_5 rfl ?_
  refine zi_iload_n 2 d_Mo_terms_6 rfl ?_
  obtain ⟨q_2, eq_2, h⟩ := zbind h
  refine zo_stat (k' := 0) (n' := 0) 10 [.int x1, .int x2] [] [.int (bI q_2.1)] (C_Mo_isTerm n E S x1 x2 m_1 q_2.1 q_2.2 eq_2) d_Mo_terms_7 tw_1534 tw_1532 tw_1533 tw_13 dd_Mo_isTerm ⟨Nat.le_of_ble_eq_true rfl, Nat.le_of_ble_eq_true rfl, Nat.le_of_ble_eq_true rfl, Nat.le_of_ble_eq_true rfl⟩ (Nat.le_of_ble_eq_true rfl) rfl rfl rfl rfl ?_
  refine zo_ifneB d_Mo_terms_10 rfl 13 rfl (fun c_3 => ?_) (fun c_3 => ?_)
  · rw [if_pos c_3] at h
    refine zi_aload_n 0 d_Mo_terms_19 rfl ?_
    refine zi_iconst 0 d_Mo_terms_20 rfl ?_
    obtain ⟨m_4, em_4, h⟩ := zbind h
    refine zo_putI 24 zkd_11 8 d_Mo_terms_21 em_4 rfl rfl rfl tw_1237 rfl ?_
    refine zi_aload_n 0 d_Mo_terms_24 rfl ?_
    refine zi_iconst 4 d_Mo_terms_25 rfl ?_
    refine zi_iload_n 1 d_Mo_terms_26 rfl ?_
    refine zi_iadd d_Mo_terms_27 ?_
    refine zi_iload_n 2 d_Mo_terms_28 rfl ?_
    obtain ⟨u_5, eu_5, h⟩ := zbind h
    obtain ⟨q_6, eq_6, h⟩ := zbind h
    refine zo_virt (k' := 0) (n' := 0) 32 [.int (4 + x1), .int x2] [] [.int q_6.1] zkd_11 (zck_s eu_5) (C_Mo_change n E S a0 (4 + x1) x2 m_4 q_6.1 q_6.2 eq_6) d_Mo_terms_29 tw_1480 tw_1477 tw_1479 ts_45 tw_13 dd_Mo_change ⟨Nat.le_of_ble_eq_true rfl, Nat.le_of_ble_eq_true rfl, Nat.le_of_ble_eq_true rfl, Nat.le_of_ble_eq_true rfl⟩ (Nat.le_of_ble_eq_true rfl) rfl rfl rfl rfl ?_
    cases h
    exact zo_ret d_Mo_terms_32 (Nat.le_of_ble_eq_true rfl) (Nat.le_of_ble_eq_true rfl) rfl
  · rw [if_neg c_3] at h
    refine zi_aload_n 0 d_Mo_terms_13 rfl ?_
    refine zi_iconst (-1) d_Mo_terms_14 rfl ?_
    obtain ⟨u_7, eu_7, h⟩ := zbind h
    obtain ⟨q_8, eq_8, h⟩ := zbind h
    refine zo_virt (k' := 0) (n' := 0) 18 [.int (-1)] [] [.int q_8.1] zkd_11 (zck_s eu_7) (C_Mo_tell n E S a0 (-1) q_2.2 q_8.1 q_8.2 eq_8) d_Mo_terms_15 tw_1408 tw_1405 tw_1407 ts_36 tw_13 dd_Mo_tell ⟨Nat.le_of_ble_eq_true rfl, Nat.le_of_ble_eq_true rfl, Nat.le_of_ble_eq_true rfl, Nat.le_of_ble_eq_true rfl⟩ (Nat.le_of_ble_eq_true rfl) rfl rfl rfl rfl ?_
    cases h
    exact zo_ret d_Mo_terms_18 (Nat.le_of_ble_eq_true rfl) (Nat.le_of_ble_eq_true rfl) rfl
theorem C_Mo_terms (n : Nat) (E : zE) (S : zS) (a0 : Nat) (x1 : Int32) (x2 : Int32) (M : zH) (r : Int32) (M' : zH) (h : F_Mo_terms n E S a0 x1 x2 M = some (r, M')) : zC E Y_Mo_terms [.ref a0, .int x1, .int x2] S M (some (.int r), S, M') :=
  zC.of (Or.inl (show plainName "NightColanderModel" = true by decide)) (Nat.le_of_ble_eq_true rfl) (trivial) (K_Mo_terms n E S a0 x1 x2 M r M' h)
theorem d_Mo_row_0 : decode (yB Y_Mo_row) 0 = .ok (.aload_n 0, 1) := by decide +kernel
theorem d_Mo_row_1 : decode (yB Y_Mo_row) 1 = .ok (.iconst 0, 1) := by decide +kernel
theorem d_Mo_row_2 : decode (yB Y_Mo_row) 2 = .ok (.putfield 156, 3) := by decide +kernel
theorem d_Mo_row_5 : decode (yB Y_Mo_row) 5 = .ok (.aload_n 0, 1) := by decide +kernel
theorem d_Mo_row_6 : decode (yB Y_Mo_row) 6 = .ok (.getfield 244, 3) := by decide +kernel
theorem d_Mo_row_9 : decode (yB Y_Mo_row) 9 = .ok (.istore_n 1, 1) := by decide +kernel
theorem d_Mo_row_10 : decode (yB Y_Mo_row) 10 = .ok (.aload_n 0, 1) := by decide +kernel
theorem d_Mo_row_11 : decode (yB Y_Mo_row) 11 = .ok (.iconst 0, 1) := by decide +kernel
theorem d_Mo_row_12 : decode (yB Y_Mo_row) 12 = .ok (.putfield 244, 3) := by decide +kernel
theorem d_Mo_row_15 : decode (yB Y_Mo_row) 15 = .ok (.iload_n 1, 1) := by decide +kernel
theorem d_Mo_row_16 : decode (yB Y_Mo_row) 16 = .ok (.ifCond .ne 10, 3) := by decide +kernel
theorem d_Mo_row_19 : decode (yB Y_Mo_row) 19 = .ok (.aload_n 0, 1) := by decide +kernel
theorem d_Mo_row_20 : decode (yB Y_Mo_row) 20 = .ok (.bipush (-6), 2) := by decide +kernel
theorem d_Mo_row_22 : decode (yB Y_Mo_row) 22 = .ok (.invokevirtual 165, 3) := by decide +kernel
theorem d_Mo_row_25 : decode (yB Y_Mo_row) 25 = .ok (.ireturn, 1) := by decide +kernel
theorem d_Mo_row_26 : decode (yB Y_Mo_row) 26 = .ok (.aload_n 0, 1) := by decide +kernel
theorem d_Mo_row_27 : decode (yB Y_Mo_row) 27 = .ok (.iconst 0, 1) := by decide +kernel
theorem d_Mo_row_28 : decode (yB Y_Mo_row) 28 = .ok (.putfield 247, 3) := by decide +kernel
theorem d_Mo_row_31 : decode (yB Y_Mo_row) 31 = .ok (.iconst 0, 1) := by decide +kernel
theorem d_Mo_row_32 : decode (yB Y_Mo_row) 32 = .ok (.istore_n 2, 1) := by decide +kernel
theorem d_Mo_row_33 : decode (yB Y_Mo_row) 33 = .ok (.iconst 0, 1) := by decide +kernel
theorem d_Mo_row_34 : decode (yB Y_Mo_row) 34 = .ok (.istore_n 3, 1) := by decide +kernel
theorem d_Mo_row_35 : decode (yB Y_Mo_row) 35 = .ok (.iload_n 3, 1) := by decide +kernel
theorem d_Mo_row_36 : decode (yB Y_Mo_row) 36 = .ok (.iload_n 1, 1) := by decide +kernel
theorem d_Mo_row_37 : decode (yB Y_Mo_row) 37 = .ok (.if_icmp .ge 140, 3) := by decide +kernel
theorem d_Mo_row_40 : decode (yB Y_Mo_row) 40 = .ok (.iload_n 3, 1) := by decide +kernel
theorem d_Mo_row_41 : decode (yB Y_Mo_row) 41 = .ok (.iconst 2, 1) := by decide +kernel
theorem d_Mo_row_42 : decode (yB Y_Mo_row) 42 = .ok (.iadd, 1) := by decide +kernel
theorem d_Mo_row_43 : decode (yB Y_Mo_row) 43 = .ok (.iload_n 1, 1) := by decide +kernel
theorem d_Mo_row_44 : decode (yB Y_Mo_row) 44 = .ok (.if_icmp .ge 117, 3) := by decide +kernel
theorem d_Mo_row_47 : decode (yB Y_Mo_row) 47 = .ok (.aload_n 0, 1) := by decide +kernel
theorem d_Mo_row_48 : decode (yB Y_Mo_row) 48 = .ok (.getfield 35, 3) := by decide +kernel
theorem d_Mo_row_51 : decode (yB Y_Mo_row) 51 = .ok (.iload_n 3, 1) := by decide +kernel
theorem d_Mo_row_52 : decode (yB Y_Mo_row) 52 = .ok (.iaload, 1) := by decide +kernel
theorem d_Mo_row_53 : decode (yB Y_Mo_row) 53 = .ok (.invokestatic 190, 3) := by decide +kernel
theorem d_Mo_row_56 : decode (yB Y_Mo_row) 56 = .ok (.ifCond .eq 105, 3) := by decide +kernel
theorem d_Mo_row_59 : decode (yB Y_Mo_row) 59 = .ok (.aload_n 0, 1) := by decide +kernel
theorem d_Mo_row_60 : decode (yB Y_Mo_row) 60 = .ok (.getfield 35, 3) := by decide +kernel
theorem d_Mo_row_63 : decode (yB Y_Mo_row) 63 = .ok (.iload_n 3, 1) := by decide +kernel
theorem d_Mo_row_64 : decode (yB Y_Mo_row) 64 = .ok (.iconst 1, 1) := by decide +kernel
theorem d_Mo_row_65 : decode (yB Y_Mo_row) 65 = .ok (.iadd, 1) := by decide +kernel
theorem d_Mo_row_66 : decode (yB Y_Mo_row) 66 = .ok (.iaload, 1) := by decide +kernel
theorem d_Mo_row_67 : decode (yB Y_Mo_row) 67 = .ok (.invokestatic 194, 3) := by decide +kernel
theorem d_Mo_row_70 : decode (yB Y_Mo_row) 70 = .ok (.ifCond .eq 91, 3) := by decide +kernel
theorem d_Mo_row_73 : decode (yB Y_Mo_row) 73 = .ok (.aload_n 0, 1) := by decide +kernel
theorem d_Mo_row_74 : decode (yB Y_Mo_row) 74 = .ok (.getfield 35, 3) := by decide +kernel
theorem d_Mo_row_77 : decode (yB Y_Mo_row) 77 = .ok (.iload_n 3, 1) := by decide +kernel
theorem d_Mo_row_78 : decode (yB Y_Mo_row) 78 = .ok (.iconst 2, 1) := by decide +kernel
theorem d_Mo_row_79 : decode (yB Y_Mo_row) 79 = .ok (.iadd, 1) := by decide +kernel
theorem d_Mo_row_80 : decode (yB Y_Mo_row) 80 = .ok (.iaload, 1) := by decide +kernel
theorem d_Mo_row_81 : decode (yB Y_Mo_row) 81 = .ok (.i2l, 1) := by decide +kernel
theorem d_Mo_row_82 : decode (yB Y_Mo_row) 82 = .ok (.lconst 0, 1) := by decide +kernel
theorem d_Mo_row_83 : decode (yB Y_Mo_row) 83 = .ok (.ldc2_w 237, 3) := by decide +kernel
theorem d_Mo_row_86 : decode (yB Y_Mo_row) 86 = .ok (.invokestatic 176, 3) := by decide +kernel
theorem d_Mo_row_89 : decode (yB Y_Mo_row) 89 = .ok (.ifCond .eq 72, 3) := by decide +kernel
theorem d_Mo_row_92 : decode (yB Y_Mo_row) 92 = .ok (.aload_n 0, 1) := by decide +kernel
theorem d_Mo_row_93 : decode (yB Y_Mo_row) 93 = .ok (.getfield 13, 3) := by decide +kernel
theorem d_Mo_row_96 : decode (yB Y_Mo_row) 96 = .ok (.bipush 12, 2) := by decide +kernel
theorem d_Mo_row_98 : decode (yB Y_Mo_row) 98 = .ok (.bipush 8, 2) := by decide +kernel
theorem d_Mo_row_100 : decode (yB Y_Mo_row) 100 = .ok (.aload_n 0, 1) := by decide +kernel
theorem d_Mo_row_101 : decode (yB Y_Mo_row) 101 = .ok (.getfield 35, 3) := by decide +kernel
theorem d_Mo_row_104 : decode (yB Y_Mo_row) 104 = .ok (.iload_n 3, 1) := by decide +kernel
theorem d_Mo_row_105 : decode (yB Y_Mo_row) 105 = .ok (.iaload, 1) := by decide +kernel
theorem d_Mo_row_106 : decode (yB Y_Mo_row) 106 = .ok (.imul, 1) := by decide +kernel
theorem d_Mo_row_107 : decode (yB Y_Mo_row) 107 = .ok (.iadd, 1) := by decide +kernel
theorem d_Mo_row_108 : decode (yB Y_Mo_row) 108 = .ok (.aload_n 0, 1) := by decide +kernel
theorem d_Mo_row_109 : decode (yB Y_Mo_row) 109 = .ok (.getfield 35, 3) := by decide +kernel
theorem d_Mo_row_112 : decode (yB Y_Mo_row) 112 = .ok (.iload_n 3, 1) := by decide +kernel
theorem d_Mo_row_113 : decode (yB Y_Mo_row) 113 = .ok (.iconst 1, 1) := by decide +kernel
theorem d_Mo_row_114 : decode (yB Y_Mo_row) 114 = .ok (.iadd, 1) := by decide +kernel
theorem d_Mo_row_115 : decode (yB Y_Mo_row) 115 = .ok (.iaload, 1) := by decide +kernel
theorem d_Mo_row_116 : decode (yB Y_Mo_row) 116 = .ok (.iadd, 1) := by decide +kernel
theorem d_Mo_row_117 : decode (yB Y_Mo_row) 117 = .ok (.aload_n 0, 1) := by decide +kernel
theorem d_Mo_row_118 : decode (yB Y_Mo_row) 118 = .ok (.getfield 35, 3) := by decide +kernel
theorem d_Mo_row_121 : decode (yB Y_Mo_row) 121 = .ok (.iload_n 3, 1) := by decide +kernel
theorem d_Mo_row_122 : decode (yB Y_Mo_row) 122 = .ok (.iconst 2, 1) := by decide +kernel
theorem d_Mo_row_123 : decode (yB Y_Mo_row) 123 = .ok (.iadd, 1) := by decide +kernel
theorem d_Mo_row_124 : decode (yB Y_Mo_row) 124 = .ok (.iaload, 1) := by decide +kernel
theorem d_Mo_row_125 : decode (yB Y_Mo_row) 125 = .ok (.iastore, 1) := by decide +kernel
theorem d_Mo_row_126 : decode (yB Y_Mo_row) 126 = .ok (.aload_n 0, 1) := by decide +kernel
theorem d_Mo_row_127 : decode (yB Y_Mo_row) 127 = .ok (.getfield 13, 3) := by decide +kernel
theorem d_Mo_row_130 : decode (yB Y_Mo_row) 130 = .ok (.bipush 44, 2) := by decide +kernel
theorem d_Mo_row_132 : decode (yB Y_Mo_row) 132 = .ok (.aload_n 0, 1) := by decide +kernel
theorem d_Mo_row_133 : decode (yB Y_Mo_row) 133 = .ok (.getfield 35, 3) := by decide +kernel
theorem d_Mo_row_136 : decode (yB Y_Mo_row) 136 = .ok (.iload_n 3, 1) := by decide +kernel
theorem d_Mo_row_137 : decode (yB Y_Mo_row) 137 = .ok (.iaload, 1) := by decide +kernel
theorem d_Mo_row_138 : decode (yB Y_Mo_row) 138 = .ok (.iadd, 1) := by decide +kernel
theorem d_Mo_row_139 : decode (yB Y_Mo_row) 139 = .ok (.dup2, 1) := by decide +kernel
theorem d_Mo_row_140 : decode (yB Y_Mo_row) 140 = .ok (.iaload, 1) := by decide +kernel
theorem d_Mo_row_141 : decode (yB Y_Mo_row) 141 = .ok (.iconst 1, 1) := by decide +kernel
theorem d_Mo_row_142 : decode (yB Y_Mo_row) 142 = .ok (.aload_n 0, 1) := by decide +kernel
theorem d_Mo_row_143 : decode (yB Y_Mo_row) 143 = .ok (.getfield 35, 3) := by decide +kernel
theorem d_Mo_row_146 : decode (yB Y_Mo_row) 146 = .ok (.iload_n 3, 1) := by decide +kernel
theorem d_Mo_row_147 : decode (yB Y_Mo_row) 147 = .ok (.iconst 1, 1) := by decide +kernel
theorem d_Mo_row_148 : decode (yB Y_Mo_row) 148 = .ok (.iadd, 1) := by decide +kernel
theorem d_Mo_row_149 : decode (yB Y_Mo_row) 149 = .ok (.iaload, 1) := by decide +kernel
theorem d_Mo_row_150 : decode (yB Y_Mo_row) 150 = .ok (.ishl, 1) := by decide +kernel
theorem d_Mo_row_151 : decode (yB Y_Mo_row) 151 = .ok (.iconst (-1), 1) := by decide +kernel
theorem d_Mo_row_152 : decode (yB Y_Mo_row) 152 = .ok (.ixor, 1) := by decide +kernel
theorem d_Mo_row_153 : decode (yB Y_Mo_row) 153 = .ok (.iand, 1) := by decide +kernel
theorem d_Mo_row_154 : decode (yB Y_Mo_row) 154 = .ok (.iastore, 1) := by decide +kernel
theorem d_Mo_row_155 : decode (yB Y_Mo_row) 155 = .ok (.iinc 2 1, 3) := by decide +kernel
theorem d_Mo_row_158 : decode (yB Y_Mo_row) 158 = .ok (.goto 13, 3) := by decide +kernel
theorem d_Mo_row_161 : decode (yB Y_Mo_row) 161 = .ok (.aload_n 0, 1) := by decide +kernel
theorem d_Mo_row_162 : decode (yB Y_Mo_row) 162 = .ok (.dup, 1) := by decide +kernel
theorem d_Mo_row_163 : decode (yB Y_Mo_row) 163 = .ok (.getfield 247, 3) := by decide +kernel
theorem d_Mo_row_166 : decode (yB Y_Mo_row) 166 = .ok (.iconst 1, 1) := by decide +kernel
theorem d_Mo_row_167 : decode (yB Y_Mo_row) 167 = .ok (.iadd, 1) := by decide +kernel
theorem d_Mo_row_168 : decode (yB Y_Mo_row) 168 = .ok (.putfield 247, 3) := by decide +kernel
theorem d_Mo_row_171 : decode (yB Y_Mo_row) 171 = .ok (.iinc 3 3, 3) := by decide +kernel
theorem d_Mo_row_174 : decode (yB Y_Mo_row) 174 = .ok (.goto (-139), 3) := by decide +kernel
theorem d_Mo_row_177 : decode (yB Y_Mo_row) 177 = .ok (.aload_n 0, 1) := by decide +kernel
theorem d_Mo_row_178 : decode (yB Y_Mo_row) 178 = .ok (.iload_n 2, 1) := by decide +kernel
theorem d_Mo_row_179 : decode (yB Y_Mo_row) 179 = .ok (.invokevirtual 180, 3) := by decide +kernel
theorem d_Mo_row_182 : decode (yB Y_Mo_row) 182 = .ok (.ireturn, 1) := by decide +kernel
def F_Mo_row_b171 (n : Nat) (E : zE) (S : zS) (r35 : Nat × Int32 × Int32 × Int32 × zH → Option (Int32 × zH)) (a0 : Nat) (x1 : Int32) (x2 : Int32) (x3 : Int32) (M : zH) : Option (Int32 × zH) :=
  r35 (a0, x1, x2, x3 + 3, M)
def F_Mo_row_b161 (n : Nat) (E : zE) (S : zS) (r35 : Nat × Int32 × Int32 × Int32 × zH → Option (Int32 × zH)) (a0 : Nat) (x1 : Int32) (x2 : Int32) (x3 : Int32) (M : zH) : Option (Int32 × zH) :=
  (zgI S M a0 11 11).bind fun v_1 =>
  (zpI S M a0 11 11 (v_1 + 1)).bind fun m_2 =>
  F_Mo_row_b171 n E S r35 a0 x1 x2 x3 m_2
def F_Mo_row_L35 (n : Nat) (E : zE) (S : zS) (r35 : Nat × Int32 × Int32 × Int32 × zH → Option (Int32 × zH)) (a0 : Nat) (x1 : Int32) (x2 : Int32) (x3 : Int32) (M : zH) : Option (Int32 × zH) :=
  if x1 ≤ x3 then
    (zck S a0 11).bind fun u_4 =>
    (F_Mo_lasting n E S a0 x2 M).bind fun q_5 =>
    some (q_5.1, q_5.2)
  else
    if x1 ≤ (x3 + 2) then
      F_Mo_row_b161 n E S r35 a0 x1 x2 x3 M
    else
      (zgR S a0 11 12).bind fun b_7 =>
      (zldI S M b_7 x3).bind fun v_8 =>
      (F_Mo_isRing n E S v_8 M).bind fun q_9 =>
      if q_9.1 = true then
        (zldI S q_9.2 b_7 (x3 + 1)).bind fun v_11 =>
        (F_Mo_isField n E S v_11 q_9.2).bind fun q_12 =>
        if q_12.1 = true then
          (zldI S q_12.2 b_7 (x3 + 2)).bind fun v_14 =>
          (F_Mo_in n E S v_14.toInt64 0 9 q_12.2).bind fun q_15 =>
          if q_15.1 = true then
            (zgR S a0 11 3).bind fun b_17 =>
            (zldI S q_15.2 b_7 x3).bind fun v_18 =>
            (zldI S q_15.2 b_7 (x3 + 1)).bind fun v_19 =>
            (zldI S q_15.2 b_7 (x3 + 2)).bind fun v_20 =>
            (zstI S q_15.2 b_17 ((12 + (8 * v_18)) + v_19) v_20).bind fun m_21 =>
            (zldI S m_21 b_7 x3).bind fun v_22 =>
            (zldI S m_21 b_17 (44 + v_22)).bind fun v_23 =>
            (zldI S m_21 b_7 (x3 + 1)).bind fun v_24 =>
            (zstI S m_21 b_17 (44 + v_22) (v_23 &&& (((1 : Int32) <<< (v_24 &&& (31 : Int32))) ^^^ (-1 : Int32)))).bind fun m_25 =>
            F_Mo_row_b171 n E S r35 a0 x1 (x2 + 1) x3 m_25
          else
            F_Mo_row_b161 n E S r35 a0 x1 x2 x3 q_15.2
        else
          F_Mo_row_b161 n E S r35 a0 x1 x2 x3 q_12.2
      else
        F_Mo_row_b161 n E S r35 a0 x1 x2 x3 q_9.2
def F_Mo_row_b35 (n : Nat) (E : zE) (S : zS) : Nat × Int32 × Int32 × Int32 × zH → Option (Int32 × zH) := zfix (fun r35 s => F_Mo_row_L35 n E S r35 s.1 s.2.1 s.2.2.1 s.2.2.2.1 s.2.2.2.2) n
def F_Mo_row (n : Nat) (E : zE) (S : zS) (a0 : Nat) (M : zH) : Option (Int32 × zH) :=
  (zpI S M a0 11 0 0).bind fun m_26 =>
  (zgI S m_26 a0 11 13).bind fun v_27 =>
  (zpI S m_26 a0 11 13 0).bind fun m_28 =>
  if v_27 = 0 then
    (F_Mo_tell n E S a0 (-6) m_28).bind fun q_30 =>
    some (q_30.1, q_30.2)
  else
    (zpI S m_28 a0 11 11 0).bind fun m_31 =>
    F_Mo_row_b35 n E S (a0, v_27, 0, 0, m_31)
theorem K_Mo_row_b171 (n : Nat) (E : zE) (S : zS) (r35 : Nat × Int32 × Int32 × Int32 × zH → Option (Int32 × zH)) (a0 : Nat) (x1 : Int32) (x2 : Int32) (x3 : Int32) (M : zH) (r : Int32) (M' : zH) (hr35 : ∀ (a0 : Nat) (x1 : Int32) (x2 : Int32) (x3 : Int32) (M : zH), r35 (a0, x1, x2, x3, M) = some (r, M') → zG E Y_Mo_row (some (.int r), S, M') 35 [(0, .ref a0), (1, .int x1), (2, .int x2), (3, .int x3)] [] S M 0 0) (h : F_Mo_row_b171 n E S r35 a0 x1 x2 x3 M = some (r, M')) : zG E Y_Mo_row (some (.int r), S, M') 171 [(0, .ref a0), (1, .int x1), (2, .int x2), (3, .int x3)] [] S M 0 0 := by
  unfold F_Mo_row_b171 at h
  refine zi_iinc 3 (x3 + 3) [(3, .int (x3 + 3)), (0, .ref a0), (1, .int x1), (2, .int x2)] d_Mo_row_171 rfl rfl (by decide) rfl ?_
  refine zi_goto (tgt := 35) d_Mo_row_174 rfl ?_
  refine zi_lo [(0, .ref a0), (1, .int x1), (2, .int x2), (3, .int (x3 + 3))] [1, 2, 3, 0] rfl ?_
  exact hr35 a0 x1 x2 (x3 + 3) M h
theorem K_Mo_row_b161 (n : Nat) (E : zE) (S : zS) (r35 : Nat × Int32 × Int32 × Int32 × zH → Option (Int32 × zH)) (a0 : Nat) (x1 : Int32) (x2 : Int32) (x3 : Int32) (M : zH) (r : Int32) (M' : zH) (hr35 : ∀ (a0 : Nat) (x1 : Int32) (x2 : Int32) (x3 : Int32) (M : zH), r35 (a0, x1, x2, x3, M) = some (r, M') → zG E Y_Mo_row (some (.int r), S, M') 35 [(0, .ref a0), (1, .int x1), (2, .int x2), (3, .int x3)] [] S M 0 0) (h : F_Mo_row_b161 n E S r35 a0 x1 x2 x3 M = some (r, M')) : zG E Y_Mo_row (some (.int r), S, M') 161 [(0, .ref a0), (1, .int x1), (2, .int x2), (3, .int x3)] [] S M 0 0 := by
  unfold F_Mo_row_b161 at h
  refine zi_aload_n 0 d_Mo_row_161 rfl ?_
  refine zi_dup d_Mo_row_162 rfl ?_
  obtain ⟨v_1, ev_1, h⟩ := zbind h
  refine zo_getI 166 zkd_11 11 d_Mo_row_163 ev_1 rfl tw_1240 rfl ?_
  refine zi_iconst 1 d_Mo_row_166 rfl ?_
  refine zi_iadd d_Mo_row_167 ?_
  obtain ⟨m_2, em_2, h⟩ := zbind h
  refine zo_putI 171 zkd_11 11 d_Mo_row_168 em_2 rfl rfl rfl tw_1240 rfl ?_
  refine zi_lo [(0, .ref a0), (1, .int x1), (2, .int x2), (3, .int x3)] [0, 1, 2, 3] rfl ?_
  exact K_Mo_row_b171 n E S r35 a0 x1 x2 x3 m_2 r M' hr35 h
theorem K_Mo_row_L35 (n : Nat) (E : zE) (S : zS) (r35 : Nat × Int32 × Int32 × Int32 × zH → Option (Int32 × zH)) (a0 : Nat) (x1 : Int32) (x2 : Int32) (x3 : Int32) (M : zH) (r : Int32) (M' : zH) (hr35 : ∀ (a0 : Nat) (x1 : Int32) (x2 : Int32) (x3 : Int32) (M : zH), r35 (a0, x1, x2, x3, M) = some (r, M') → zG E Y_Mo_row (some (.int r), S, M') 35 [(0, .ref a0), (1, .int x1), (2, .int x2), (3, .int x3)] [] S M 0 0) (h : F_Mo_row_L35 n E S r35 a0 x1 x2 x3 M = some (r, M')) : zG E Y_Mo_row (some (.int r), S, M') 35 [(0, .ref a0), (1, .int x1), (2, .int x2), (3, .int x3)] [] S M 0 0 := by
  unfold F_Mo_row_L35 at h
  refine zi_iload_n 3 d_Mo_row_35 rfl ?_
  refine zi_iload_n 1 d_Mo_row_36 rfl ?_
  refine zi_icmp_ge (tgt := 177) d_Mo_row_37 rfl (fun c_3 => ?_) (fun c_3 => ?_)
  · rw [if_pos c_3] at h
    refine zi_aload_n 0 d_Mo_row_177 rfl ?_
    refine zi_iload_n 2 d_Mo_row_178 rfl ?_
    obtain ⟨u_4, eu_4, h⟩ := zbind h
    obtain ⟨q_5, eq_5, h⟩ := zbind h
    refine zo_virt (k' := 0) (n' := 0) 182 [.int x2] [] [.int q_5.1] zkd_11 (zck_s eu_4) (C_Mo_lasting n E S a0 x2 M q_5.1 q_5.2 eq_5) d_Mo_row_179 tw_1427 tw_1424 tw_1426 ts_38 tw_13 dd_Mo_lasting ⟨Nat.le_of_ble_eq_true rfl, Nat.le_of_ble_eq_true rfl, Nat.le_of_ble_eq_true rfl, Nat.le_of_ble_eq_true rfl⟩ (Nat.le_of_ble_eq_true rfl) rfl rfl rfl rfl ?_
    cases h
    exact zo_ret d_Mo_row_182 (Nat.le_of_ble_eq_true rfl) (Nat.le_of_ble_eq_true rfl) rfl
  · rw [if_neg c_3] at h
    refine zi_iload_n 3 d_Mo_row_40 rfl ?_
    refine zi_iconst 2 d_Mo_row_41 rfl ?_
    refine zi_iadd d_Mo_row_42 ?_
    refine zi_iload_n 1 d_Mo_row_43 rfl ?_
    refine zi_icmp_ge (tgt := 161) d_Mo_row_44 rfl (fun c_6 => ?_) (fun c_6 => ?_)
    · rw [if_pos c_6] at h
      refine zi_lo [(0, .ref a0), (1, .int x1), (2, .int x2), (3, .int x3)] [0, 1, 2, 3] rfl ?_
      exact K_Mo_row_b161 n E S r35 a0 x1 x2 x3 M r M' hr35 h
    · rw [if_neg c_6] at h
      refine zi_aload_n 0 d_Mo_row_47 rfl ?_
      obtain ⟨b_7, eb_7, h⟩ := zbind h
      refine zo_getR 51 zkd_11 12 d_Mo_row_48 eb_7 rfl tw_1241 rfl ?_
      refine zi_iload_n 3 d_Mo_row_51 rfl ?_
      obtain ⟨v_8, ev_8, h⟩ := zbind h
      refine zo_iald 53 d_Mo_row_52 ev_8 rfl ?_
      obtain ⟨q_9, eq_9, h⟩ := zbind h
      refine zo_stat (k' := 0) (n' := 0) 56 [.int v_8] [] [.int (bI q_9.1)] (C_Mo_isRing n E S v_8 M q_9.1 q_9.2 eq_9) d_Mo_row_53 tw_1434 tw_1432 tw_1433 tw_13 dd_Mo_isRing ⟨Nat.le_of_ble_eq_true rfl, Nat.le_of_ble_eq_true rfl, Nat.le_of_ble_eq_true rfl, Nat.le_of_ble_eq_true rfl⟩ (Nat.le_of_ble_eq_true rfl) rfl rfl rfl rfl ?_
      refine zo_ifeqB d_Mo_row_56 rfl 59 rfl (fun c_10 => ?_) (fun c_10 => ?_)
      · rw [if_neg c_10] at h
        refine zi_lo [(0, .ref a0), (1, .int x1), (2, .int x2), (3, .int x3)] [0, 1, 2, 3] rfl ?_
        exact K_Mo_row_b161 n E S r35 a0 x1 x2 x3 q_9.2 r M' hr35 h
      · rw [if_pos c_10] at h
        refine zi_aload_n 0 d_Mo_row_59 rfl ?_
        refine zo_getR 63 zkd_11 12 d_Mo_row_60 eb_7 rfl tw_1241 rfl ?_
        refine zi_iload_n 3 d_Mo_row_63 rfl ?_
        refine zi_iconst 1 d_Mo_row_64 rfl ?_
        refine zi_iadd d_Mo_row_65 ?_
        obtain ⟨v_11, ev_11, h⟩ := zbind h
        refine zo_iald 67 d_Mo_row_66 ev_11 rfl ?_
        obtain ⟨q_12, eq_12, h⟩ := zbind h
        refine zo_stat (k' := 0) (n' := 0) 70 [.int v_11] [] [.int (bI q_12.1)] (C_Mo_isField n E S v_11 q_9.2 q_12.1 q_12.2 eq_12) d_Mo_row_67 tw_1438 tw_1436 tw_1437 tw_13 dd_Mo_isField ⟨Nat.le_of_ble_eq_true rfl, Nat.le_of_ble_eq_true rfl, Nat.le_of_ble_eq_true rfl, Nat.le_of_ble_eq_true rfl⟩ (Nat.le_of_ble_eq_true rfl) rfl rfl rfl rfl ?_
        refine zo_ifeqB d_Mo_row_70 rfl 73 rfl (fun c_13 => ?_) (fun c_13 => ?_)
        · rw [if_neg c_13] at h
          refine zi_lo [(0, .ref a0), (1, .int x1), (2, .int x2), (3, .int x3)] [0, 1, 2, 3] rfl ?_
          exact K_Mo_row_b161 n E S r35 a0 x1 x2 x3 q_12.2 r M' hr35 h
        · rw [if_pos c_13] at h
          refine zi_aload_n 0 d_Mo_row_73 rfl ?_
          refine zo_getR 77 zkd_11 12 d_Mo_row_74 eb_7 rfl tw_1241 rfl ?_
          refine zi_iload_n 3 d_Mo_row_77 rfl ?_
          refine zi_iconst 2 d_Mo_row_78 rfl ?_
          refine zi_iadd d_Mo_row_79 ?_
          obtain ⟨v_14, ev_14, h⟩ := zbind h
          refine zo_iald 81 d_Mo_row_80 ev_14 rfl ?_
          refine zi_i2l d_Mo_row_81 ?_
          refine zi_lconst 0 d_Mo_row_82 rfl ?_
          refine zi_ldc2 d_Mo_row_83 tw_1536 ?_
          obtain ⟨q_15, eq_15, h⟩ := zbind h
          refine zo_stat (k' := 0) (n' := 0) 89 [.long v_14.toInt64, .long 0, .long 9] [] [.int (bI q_15.1)] (C_Mo_in n E S v_14.toInt64 0 9 q_12.2 q_15.1 q_15.2 eq_15) d_Mo_row_86 tw_1419 tw_1417 tw_1418 tw_13 dd_Mo_in ⟨Nat.le_of_ble_eq_true rfl, Nat.le_of_ble_eq_true rfl, Nat.le_of_ble_eq_true rfl, Nat.le_of_ble_eq_true rfl⟩ (Nat.le_of_ble_eq_true rfl) rfl rfl rfl rfl ?_
          refine zo_ifeqB d_Mo_row_89 rfl 92 rfl (fun c_16 => ?_) (fun c_16 => ?_)
          · rw [if_neg c_16] at h
            refine zi_lo [(0, .ref a0), (1, .int x1), (2, .int x2), (3, .int x3)] [0, 1, 2, 3] rfl ?_
            exact K_Mo_row_b161 n E S r35 a0 x1 x2 x3 q_15.2 r M' hr35 h
          · rw [if_pos c_16] at h
            refine zi_aload_n 0 d_Mo_row_92 rfl ?_
            obtain ⟨b_17, eb_17, h⟩ := zbind h
            refine zo_getR 96 zkd_11 3 d_Mo_row_93 eb_17 rfl tw_1232 rfl ?_
            refine zi_bipush 12 d_Mo_row_96 rfl ?_
            refine zi_bipush 8 d_Mo_row_98 rfl ?_
            refine zi_aload_n 0 d_Mo_row_100 rfl ?_
            refine zo_getR 104 zkd_11 12 d_Mo_row_101 eb_7 rfl tw_1241 rfl ?_
            refine zi_iload_n 3 d_Mo_row_104 rfl ?_
            obtain ⟨v_18, ev_18, h⟩ := zbind h
            refine zo_iald 106 d_Mo_row_105 ev_18 rfl ?_
            refine zi_imul d_Mo_row_106 ?_
            refine zi_iadd d_Mo_row_107 ?_
            refine zi_aload_n 0 d_Mo_row_108 rfl ?_
            refine zo_getR 112 zkd_11 12 d_Mo_row_109 eb_7 rfl tw_1241 rfl ?_
            refine zi_iload_n 3 d_Mo_row_112 rfl ?_
            refine zi_iconst 1 d_Mo_row_113 rfl ?_
            refine zi_iadd d_Mo_row_114 ?_
            obtain ⟨v_19, ev_19, h⟩ := zbind h
            refine zo_iald 116 d_Mo_row_115 ev_19 rfl ?_
            refine zi_iadd d_Mo_row_116 ?_
            refine zi_aload_n 0 d_Mo_row_117 rfl ?_
            refine zo_getR 121 zkd_11 12 d_Mo_row_118 eb_7 rfl tw_1241 rfl ?_
            refine zi_iload_n 3 d_Mo_row_121 rfl ?_
            refine zi_iconst 2 d_Mo_row_122 rfl ?_
            refine zi_iadd d_Mo_row_123 ?_
            obtain ⟨v_20, ev_20, h⟩ := zbind h
            refine zo_iald 125 d_Mo_row_124 ev_20 rfl ?_
            obtain ⟨m_21, em_21, h⟩ := zbind h
            refine zo_iast 126 d_Mo_row_125 em_21 rfl ?_
            refine zi_aload_n 0 d_Mo_row_126 rfl ?_
            refine zo_getR 130 zkd_11 3 d_Mo_row_127 eb_17 rfl tw_1232 rfl ?_
            refine zi_bipush 44 d_Mo_row_130 rfl ?_
            refine zi_aload_n 0 d_Mo_row_132 rfl ?_
            refine zo_getR 136 zkd_11 12 d_Mo_row_133 eb_7 rfl tw_1241 rfl ?_
            refine zi_iload_n 3 d_Mo_row_136 rfl ?_
            obtain ⟨v_22, ev_22, h⟩ := zbind h
            refine zo_iald 138 d_Mo_row_137 ev_22 rfl ?_
            refine zi_iadd d_Mo_row_138 ?_
            refine zi_dup2 d_Mo_row_139 rfl rfl ?_
            obtain ⟨v_23, ev_23, h⟩ := zbind h
            refine zo_iald 141 d_Mo_row_140 ev_23 rfl ?_
            refine zi_iconst 1 d_Mo_row_141 rfl ?_
            refine zi_aload_n 0 d_Mo_row_142 rfl ?_
            refine zo_getR 146 zkd_11 12 d_Mo_row_143 eb_7 rfl tw_1241 rfl ?_
            refine zi_iload_n 3 d_Mo_row_146 rfl ?_
            refine zi_iconst 1 d_Mo_row_147 rfl ?_
            refine zi_iadd d_Mo_row_148 ?_
            obtain ⟨v_24, ev_24, h⟩ := zbind h
            refine zo_iald 150 d_Mo_row_149 ev_24 rfl ?_
            refine zi_ishl d_Mo_row_150 ?_
            refine zi_iconst (-1) d_Mo_row_151 rfl ?_
            refine zi_ixor d_Mo_row_152 ?_
            refine zi_iand d_Mo_row_153 ?_
            obtain ⟨m_25, em_25, h⟩ := zbind h
            refine zo_iast 155 d_Mo_row_154 em_25 rfl ?_
            refine zi_iinc 2 (x2 + 1) [(2, .int (x2 + 1)), (0, .ref a0), (1, .int x1), (3, .int x3)] d_Mo_row_155 rfl rfl (by decide) rfl ?_
            refine zi_goto (tgt := 171) d_Mo_row_158 rfl ?_
            refine zi_lo [(0, .ref a0), (1, .int x1), (2, .int (x2 + 1)), (3, .int x3)] [1, 2, 0, 3] rfl ?_
            exact K_Mo_row_b171 n E S r35 a0 x1 (x2 + 1) x3 m_25 r M' hr35 h
theorem K_Mo_row_b35 (n : Nat) (E : zE) (S : zS) (a0 : Nat) (x1 : Int32) (x2 : Int32) (x3 : Int32) (M : zH) (r : Int32) (M' : zH)  (h : F_Mo_row_b35 n E S (a0, x1, x2, x3, M) = some (r, M')) : zG E Y_Mo_row (some (.int r), S, M') 35 [(0, .ref a0), (1, .int x1), (2, .int x2), (3, .int x3)] [] S M 0 0 := by
  have key : ∀ (k : Nat) (a0 : Nat) (x1 : Int32) (x2 : Int32) (x3 : Int32) (M : zH), zfix (fun r35 s => F_Mo_row_L35 n E S r35 s.1 s.2.1 s.2.2.1 s.2.2.2.1 s.2.2.2.2) k (a0, x1, x2, x3, M) = some (r, M') → zG E Y_Mo_row (some (.int r), S, M') 35 [(0, .ref a0), (1, .int x1), (2, .int x2), (3, .int x3)] [] S M 0 0 := by
    intro k
    induction k with
    | zero => intro a0 x1 x2 x3 M h; cases h
    | succ k ih => intro a0 x1 x2 x3 M h; exact K_Mo_row_L35 n E S _ a0 x1 x2 x3 M r M'  (fun a0 x1 x2 x3 M h => ih a0 x1 x2 x3 M h) h
  exact key n a0 x1 x2 x3 M h
theorem K_Mo_row (n : Nat) (E : zE) (S : zS) (a0 : Nat) (M : zH) (r : Int32) (M' : zH)  (h : F_Mo_row n E S a0 M = some (r, M')) : zG E Y_Mo_row (some (.int r), S, M') 0 [(0, .ref a0)] [] S M 0 0 := by
  unfold F_Mo_row at h
  refine zi_aload_n 0 d_Mo_row_0 rfl ?_
  refine zi_iconst 0 d_Mo_row_1 rfl ?_
  obtain ⟨m_26, em_26, h⟩ := zbind h
  refine zo_putI 5 zkd_11 0 d_Mo_row_2 em_26 rfl rfl rfl tw_1229 rfl ?_
  refine zi_aload_n 0 d_Mo_row_5 rfl ?_
  obtain ⟨v_27, ev_27, h⟩ := zbind h
  refine zo_getI 9 zkd_11 13 d_Mo_row_6 ev_27 rfl tw_1242 rfl ?_
  refine zi_istore_n [(1, .int v_27), (0, .ref a0)] d_Mo_row_9 (by decide) rfl ?_
  refine zi_aload_n 1 d_Mo_row_10 rfl ?_
  refine zi_iconst 0 d_Mo_row_11 rfl ?_
  obtain ⟨m_28, em_28, h⟩ := zbind h
  refine zo_putI 15 zkd_11 13 d_Mo_row_12 em_28 rfl rfl rfl tw_1242 rfl ?_
  refine zi_iload_n 0 d_Mo_row_15 rfl ?_
  refine zi_if_ne (tgt := 26) d_Mo_row_16 rfl (fun c_29 => ?_) (fun c_29 => ?_)
  · rw [if_neg c_29] at h
    refine zi_aload_n 1 d_Mo_row_26 rfl ?_
    refine zi_iconst 0 d_Mo_row_27 rfl ?_
    obtain ⟨m_31, em_31, h⟩ := zbind h
    refine zo_putI 31 zkd_11 11 d_Mo_row_28 em_31 rfl rfl rfl tw_1240 rfl ?_
    refine zi_iconst 0 d_Mo_row_31 rfl ?_
    refine zi_istore_n [(2, .int 0), (1, .int v_27), (0, .ref a0)] d_Mo_row_32 (by decide) rfl ?_
    refine zi_iconst 0 d_Mo_row_33 rfl ?_
    refine zi_istore_n [(3, .int 0), (2, .int 0), (1, .int v_27), (0, .ref a0)] d_Mo_row_34 (by decide) rfl ?_
    refine zi_lo [(0, .ref a0), (1, .int v_27), (2, .int 0), (3, .int 0)] [3, 2, 1, 0] rfl ?_
    exact K_Mo_row_b35 n E S a0 v_27 0 0 m_31 r M'  h
  · rw [if_pos c_29] at h
    refine zi_aload_n 1 d_Mo_row_19 rfl ?_
    refine zi_bipush (-6) d_Mo_row_20 rfl ?_
    obtain ⟨q_30, eq_30, h⟩ := zbind h
    refine zo_virt (k' := 0) (n' := 0) 25 [.int (-6)] [] [.int q_30.1] zkd_11 (zgI_s ev_27).1 (C_Mo_tell n E S a0 (-6) m_28 q_30.1 q_30.2 eq_30) d_Mo_row_22 tw_1408 tw_1405 tw_1407 ts_36 tw_13 dd_Mo_tell ⟨Nat.le_of_ble_eq_true rfl, Nat.le_of_ble_eq_true rfl, Nat.le_of_ble_eq_true rfl, Nat.le_of_ble_eq_true rfl⟩ (Nat.le_of_ble_eq_true rfl) rfl rfl rfl rfl ?_
    cases h
    exact zo_ret d_Mo_row_25 (Nat.le_of_ble_eq_true rfl) (Nat.le_of_ble_eq_true rfl) rfl
theorem C_Mo_row (n : Nat) (E : zE) (S : zS) (a0 : Nat) (M : zH) (r : Int32) (M' : zH) (h : F_Mo_row n E S a0 M = some (r, M')) : zC E Y_Mo_row [.ref a0] S M (some (.int r), S, M') :=
  zC.of (Or.inl (show plainName "NightColanderModel" = true by decide)) (Nat.le_of_ble_eq_true rfl) (trivial) (K_Mo_row n E S a0 M r M' h)
