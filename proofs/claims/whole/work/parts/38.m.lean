/-! METHODS (printed by gen/build.py): Mo_isLaw Mo_force Mo_keepAll Mo_remember Mo_blockNow Mo_block Mo_reamNow Mo_ream Mo_setNow Mo_set Mo_catchIn Mo_layFlow Mo_turnAll Mo_passIt Mo_passNow Mo_pass Mo_when -/
theorem d_Mo_isLaw_0 : decode (yB Y_Mo_isLaw) 0 = .ok (.iload_n 1, 1) := by decide +kernel
theorem d_Mo_isLaw_1 : decode (yB Y_Mo_isLaw) 1 = .ok (.iconst (-1), 1) := by decide +kernel
theorem d_Mo_isLaw_2 : decode (yB Y_Mo_isLaw) 2 = .ok (.if_icmp .eq 21, 3) := by decide +kernel
theorem d_Mo_isLaw_5 : decode (yB Y_Mo_isLaw) 5 = .ok (.iload_n 1, 1) := by decide +kernel
theorem d_Mo_isLaw_6 : decode (yB Y_Mo_isLaw) 6 = .ok (.i2l, 1) := by decide +kernel
theorem d_Mo_isLaw_7 : decode (yB Y_Mo_isLaw) 7 = .ok (.lconst 0, 1) := by decide +kernel
theorem d_Mo_isLaw_8 : decode (yB Y_Mo_isLaw) 8 = .ok (.aload_n 0, 1) := by decide +kernel
theorem d_Mo_isLaw_9 : decode (yB Y_Mo_isLaw) 9 = .ok (.getfield 13, 3) := by decide +kernel
theorem d_Mo_isLaw_12 : decode (yB Y_Mo_isLaw) 12 = .ok (.iconst 2, 1) := by decide +kernel
theorem d_Mo_isLaw_13 : decode (yB Y_Mo_isLaw) 13 = .ok (.iaload, 1) := by decide +kernel
theorem d_Mo_isLaw_14 : decode (yB Y_Mo_isLaw) 14 = .ok (.i2l, 1) := by decide +kernel
theorem d_Mo_isLaw_15 : decode (yB Y_Mo_isLaw) 15 = .ok (.lconst 1, 1) := by decide +kernel
theorem d_Mo_isLaw_16 : decode (yB Y_Mo_isLaw) 16 = .ok (.lsub, 1) := by decide +kernel
theorem d_Mo_isLaw_17 : decode (yB Y_Mo_isLaw) 17 = .ok (.invokestatic 176, 3) := by decide +kernel
theorem d_Mo_isLaw_20 : decode (yB Y_Mo_isLaw) 20 = .ok (.ifCond .eq 7, 3) := by decide +kernel
theorem d_Mo_isLaw_23 : decode (yB Y_Mo_isLaw) 23 = .ok (.iconst 1, 1) := by decide +kernel
theorem d_Mo_isLaw_24 : decode (yB Y_Mo_isLaw) 24 = .ok (.goto 4, 3) := by decide +kernel
theorem d_Mo_isLaw_27 : decode (yB Y_Mo_isLaw) 27 = .ok (.iconst 0, 1) := by decide +kernel
theorem d_Mo_isLaw_28 : decode (yB Y_Mo_isLaw) 28 = .ok (.ireturn, 1) := by decide +kernel
def F_Mo_isLaw_b23 (n : Nat) (E : zE) (S : zS)  (M : zH) : Option (Bool × zH) :=
  some (true, M)
def F_Mo_isLaw (n : Nat) (E : zE) (S : zS) (a0 : Nat) (x1 : Int32) (M : zH) : Option (Bool × zH) :=
  if x1 = (-1) then
    F_Mo_isLaw_b23 n E S  M
  else
    (zgR S a0 11 3).bind fun b_2 =>
    (zldI S M b_2 2).bind fun v_3 =>
    (F_Mo_in n E S x1.toInt64 0 (v_3.toInt64 - 1) M).bind fun q_4 =>
    if q_4.1 = true then
      F_Mo_isLaw_b23 n E S  q_4.2
    else
      some (false, q_4.2)
theorem K_Mo_isLaw_b23 (n : Nat) (E : zE) (S : zS)  (M : zH) (r : Bool) (M' : zH)  (h : F_Mo_isLaw_b23 n E S  M = some (r, M')) : zG E Y_Mo_isLaw (some (.int (bI r)), S, M') 23 [] [] S M 0 0 := by
  unfold F_Mo_isLaw_b23 at h
  refine zi_iconst 1 d_Mo_isLaw_23 rfl ?_
  refine zi_goto (tgt := 28) d_Mo_isLaw_24 rfl ?_
  cases h
  exact zo_retB d_Mo_isLaw_28 (Nat.le_of_ble_eq_true rfl) (Nat.le_of_ble_eq_true rfl) rfl
theorem K_Mo_isLaw (n : Nat) (E : zE) (S : zS) (a0 : Nat) (x1 : Int32) (M : zH) (r : Bool) (M' : zH)  (h : F_Mo_isLaw n E S a0 x1 M = some (r, M')) : zG E Y_Mo_isLaw (some (.int (bI r)), S, M') 0 [(0, .ref a0), (1, .int x1)] [] S M 0 0 := by
  unfold F_Mo_isLaw at h
  refine zi_iload_n 1 d_Mo_isLaw_0 rfl ?_
  refine zi_iconst (-1) d_Mo_isLaw_1 rfl ?_
  refine zi_icmp_eq (tgt := 23) d_Mo_isLaw_2 rfl (fun c_1 => ?_) (fun c_1 => ?_)
  · rw [if_pos c_1] at h
    refine zi_lo [] [] rfl ?_
    exact K_Mo_isLaw_b23 n E S  M r M'  h
  · rw [if_neg c_1] at h
    refine zi_iload_n 1 d_Mo_isLaw_5 rfl ?_
    refine zi_i2l d_Mo_isLaw_6 ?_
    refine zi_lconst 0 d_Mo_isLaw_7 rfl ?_
    refine zi_aload_n 0 d_Mo_isLaw_8 rfl ?_
    obtain ⟨b_2, eb_2, h⟩ := zbind h
    refine zo_getR 12 zkd_11 3 d_Mo_isLaw_9 eb_2 rfl tw_1234 rfl ?_
    refine zi_iconst 2 d_Mo_isLaw_12 rfl ?_
    obtain ⟨v_3, ev_3, h⟩ := zbind h
    refine zo_iald 14 d_Mo_isLaw_13 ev_3 rfl ?_
    refine zi_i2l d_Mo_isLaw_14 ?_
    refine zi_lconst 1 d_Mo_isLaw_15 rfl ?_
    refine zi_lsub d_Mo_isLaw_16 ?_
    obtain ⟨q_4, eq_4, h⟩ := zbind h
    refine zo_stat (k' := 0) (n' := 0) 20 [.long x1.toInt64, .long 0, .long (v_3.toInt64 - 1)] [] [.int (bI q_4.1)] (C_Mo_in n E S x1.toInt64 0 (v_3.toInt64 - 1) M q_4.1 q_4.2 eq_4) d_Mo_isLaw_17 tw_1421 tw_1419 tw_1420 tw_13 dd_Mo_in ⟨Nat.le_of_ble_eq_true rfl, Nat.le_of_ble_eq_true rfl, Nat.le_of_ble_eq_true rfl, Nat.le_of_ble_eq_true rfl⟩ (Nat.le_of_ble_eq_true rfl) rfl rfl rfl rfl ?_
    refine zo_ifeqB d_Mo_isLaw_20 rfl 23 rfl (fun c_5 => ?_) (fun c_5 => ?_)
    · rw [if_neg c_5] at h
      refine zi_iconst 0 d_Mo_isLaw_27 rfl ?_
      cases h
      exact zo_retB d_Mo_isLaw_28 (Nat.le_of_ble_eq_true rfl) (Nat.le_of_ble_eq_true rfl) rfl
    · rw [if_pos c_5] at h
      refine zi_lo [] [] rfl ?_
      exact K_Mo_isLaw_b23 n E S  q_4.2 r M'  h
theorem C_Mo_isLaw (n : Nat) (E : zE) (S : zS) (a0 : Nat) (x1 : Int32) (M : zH) (r : Bool) (M' : zH) (h : F_Mo_isLaw n E S a0 x1 M = some (r, M')) : zC E Y_Mo_isLaw [.ref a0, .int x1] S M (some (.int (bI r)), S, M') :=
  zC.of (Or.inl (show plainName "NightColanderModel" = true by decide)) (Nat.le_of_ble_eq_true rfl) (bI_nar r) (K_Mo_isLaw n E S a0 x1 M r M' h)
theorem d_Mo_force_0 : decode (yB Y_Mo_force) 0 = .ok (.aload_n 0, 1) := by decide +kernel
theorem d_Mo_force_1 : decode (yB Y_Mo_force) 1 = .ok (.iconst 0, 1) := by decide +kernel
theorem d_Mo_force_2 : decode (yB Y_Mo_force) 2 = .ok (.putfield 156, 3) := by decide +kernel
theorem d_Mo_force_5 : decode (yB Y_Mo_force) 5 = .ok (.aload_n 0, 1) := by decide +kernel
theorem d_Mo_force_6 : decode (yB Y_Mo_force) 6 = .ok (.iload_n 1, 1) := by decide +kernel
theorem d_Mo_force_7 : decode (yB Y_Mo_force) 7 = .ok (.invokevirtual 402, 3) := by decide +kernel
theorem d_Mo_force_10 : decode (yB Y_Mo_force) 10 = .ok (.ifCond .eq 12, 3) := by decide +kernel
theorem d_Mo_force_13 : decode (yB Y_Mo_force) 13 = .ok (.aload_n 0, 1) := by decide +kernel
theorem d_Mo_force_14 : decode (yB Y_Mo_force) 14 = .ok (.iconst 3, 1) := by decide +kernel
theorem d_Mo_force_15 : decode (yB Y_Mo_force) 15 = .ok (.iload_n 1, 1) := by decide +kernel
theorem d_Mo_force_16 : decode (yB Y_Mo_force) 16 = .ok (.invokevirtual 205, 3) := by decide +kernel
theorem d_Mo_force_19 : decode (yB Y_Mo_force) 19 = .ok (.goto 9, 3) := by decide +kernel
theorem d_Mo_force_22 : decode (yB Y_Mo_force) 22 = .ok (.aload_n 0, 1) := by decide +kernel
theorem d_Mo_force_23 : decode (yB Y_Mo_force) 23 = .ok (.bipush (-2), 2) := by decide +kernel
theorem d_Mo_force_25 : decode (yB Y_Mo_force) 25 = .ok (.invokevirtual 165, 3) := by decide +kernel
theorem d_Mo_force_28 : decode (yB Y_Mo_force) 28 = .ok (.ireturn, 1) := by decide +kernel
def F_Mo_force (n : Nat) (E : zE) (S : zS) (a0 : Nat) (x1 : Int32) (M : zH) : Option (Int32 × zH) :=
  (zpI S M a0 11 0 0).bind fun m_1 =>
  (zck S a0 11).bind fun u_2 =>
  (F_Mo_isLaw n E S a0 x1 m_1).bind fun q_3 =>
  if q_3.1 = true then
    (F_Mo_change n E S a0 3 x1 q_3.2).bind fun q_5 =>
    some (q_5.1, q_5.2)
  else
    (F_Mo_tell n E S a0 (-2) q_3.2).bind fun q_6 =>
    some (q_6.1, q_6.2)
theorem K_Mo_force (n : Nat) (E : zE) (S : zS) (a0 : Nat) (x1 : Int32) (M : zH) (r : Int32) (M' : zH)  (h : F_Mo_force n E S a0 x1 M = some (r, M')) : zG E Y_Mo_force (some (.int r), S, M') 0 [(0, .ref a0), (1, .int x1)] [] S M 0 0 := by
  unfold F_Mo_force at h
  refine zi_aload_n 0 d_Mo_force_0 rfl ?_
  refine zi_iconst 0 d_Mo_force_1 rfl ?_
  obtain ⟨m_1, em_1, h⟩ := zbind h
  refine zo_putI 5 zkd_11 0 d_Mo_force_2 em_1 rfl rfl rfl tw_1231 rfl ?_
  refine zi_aload_n 0 d_Mo_force_5 rfl ?_
  refine zi_iload_n 1 d_Mo_force_6 rfl ?_
  obtain ⟨u_2, eu_2, h⟩ := zbind h
  obtain ⟨q_3, eq_3, h⟩ := zbind h
  refine zo_virt (k' := 0) (n' := 0) 10 [.int x1] [] [.int (bI q_3.1)] zkd_11 (zck_s eu_2) (C_Mo_isLaw n E S a0 x1 m_1 q_3.1 q_3.2 eq_3) d_Mo_force_7 tw_1690 tw_1687 tw_1689 ts_77 tw_13 dd_Mo_isLaw ⟨Nat.le_of_ble_eq_true rfl, Nat.le_of_ble_eq_true rfl, Nat.le_of_ble_eq_true rfl, Nat.le_of_ble_eq_true rfl⟩ (Nat.le_of_ble_eq_true rfl) rfl rfl rfl rfl ?_
  refine zo_ifeqB d_Mo_force_10 rfl 13 rfl (fun c_4 => ?_) (fun c_4 => ?_)
  · rw [if_neg c_4] at h
    refine zi_aload_n 0 d_Mo_force_22 rfl ?_
    refine zi_bipush (-2) d_Mo_force_23 rfl ?_
    obtain ⟨q_6, eq_6, h⟩ := zbind h
    refine zo_virt (k' := 0) (n' := 0) 28 [.int (-2)] [] [.int q_6.1] zkd_11 (zck_s eu_2) (C_Mo_tell n E S a0 (-2) q_3.2 q_6.1 q_6.2 eq_6) d_Mo_force_25 tw_1410 tw_1407 tw_1409 ts_36 tw_13 dd_Mo_tell ⟨Nat.le_of_ble_eq_true rfl, Nat.le_of_ble_eq_true rfl, Nat.le_of_ble_eq_true rfl, Nat.le_of_ble_eq_true rfl⟩ (Nat.le_of_ble_eq_true rfl) rfl rfl rfl rfl ?_
    cases h
    exact zo_ret d_Mo_force_28 (Nat.le_of_ble_eq_true rfl) (Nat.le_of_ble_eq_true rfl) rfl
  · rw [if_pos c_4] at h
    refine zi_aload_n 0 d_Mo_force_13 rfl ?_
    refine zi_iconst 3 d_Mo_force_14 rfl ?_
    refine zi_iload_n 1 d_Mo_force_15 rfl ?_
    obtain ⟨q_5, eq_5, h⟩ := zbind h
    refine zo_virt (k' := 0) (n' := 0) 19 [.int 3, .int x1] [] [.int q_5.1] zkd_11 (zck_s eu_2) (C_Mo_change n E S a0 3 x1 q_3.2 q_5.1 q_5.2 eq_5) d_Mo_force_16 tw_1482 tw_1479 tw_1481 ts_45 tw_13 dd_Mo_change ⟨Nat.le_of_ble_eq_true rfl, Nat.le_of_ble_eq_true rfl, Nat.le_of_ble_eq_true rfl, Nat.le_of_ble_eq_true rfl⟩ (Nat.le_of_ble_eq_true rfl) rfl rfl rfl rfl ?_
    refine zi_goto (tgt := 28) d_Mo_force_19 rfl ?_
    cases h
    exact zo_ret d_Mo_force_28 (Nat.le_of_ble_eq_true rfl) (Nat.le_of_ble_eq_true rfl) rfl
theorem C_Mo_force (n : Nat) (E : zE) (S : zS) (a0 : Nat) (x1 : Int32) (M : zH) (r : Int32) (M' : zH) (h : F_Mo_force n E S a0 x1 M = some (r, M')) : zC E Y_Mo_force [.ref a0, .int x1] S M (some (.int r), S, M') :=
  zC.of (Or.inl (show plainName "NightColanderModel" = true by decide)) (Nat.le_of_ble_eq_true rfl) (trivial) (K_Mo_force n E S a0 x1 M r M' h)
theorem d_Mo_keepAll_0 : decode (yB Y_Mo_keepAll) 0 = .ok (.iconst 0, 1) := by decide +kernel
theorem d_Mo_keepAll_1 : decode (yB Y_Mo_keepAll) 1 = .ok (.istore_n 2, 1) := by decide +kernel
theorem d_Mo_keepAll_2 : decode (yB Y_Mo_keepAll) 2 = .ok (.iload_n 2, 1) := by decide +kernel
theorem d_Mo_keepAll_3 : decode (yB Y_Mo_keepAll) 3 = .ok (.bipush 50, 2) := by decide +kernel
theorem d_Mo_keepAll_5 : decode (yB Y_Mo_keepAll) 5 = .ok (.if_icmp .ge 28, 3) := by decide +kernel
theorem d_Mo_keepAll_8 : decode (yB Y_Mo_keepAll) 8 = .ok (.aload_n 0, 1) := by decide +kernel
theorem d_Mo_keepAll_9 : decode (yB Y_Mo_keepAll) 9 = .ok (.getfield 23, 3) := by decide +kernel
theorem d_Mo_keepAll_12 : decode (yB Y_Mo_keepAll) 12 = .ok (.bipush 50, 2) := by decide +kernel
theorem d_Mo_keepAll_14 : decode (yB Y_Mo_keepAll) 14 = .ok (.iload_n 1, 1) := by decide +kernel
theorem d_Mo_keepAll_15 : decode (yB Y_Mo_keepAll) 15 = .ok (.imul, 1) := by decide +kernel
theorem d_Mo_keepAll_16 : decode (yB Y_Mo_keepAll) 16 = .ok (.iload_n 2, 1) := by decide +kernel
theorem d_Mo_keepAll_17 : decode (yB Y_Mo_keepAll) 17 = .ok (.iadd, 1) := by decide +kernel
theorem d_Mo_keepAll_18 : decode (yB Y_Mo_keepAll) 18 = .ok (.aload_n 0, 1) := by decide +kernel
theorem d_Mo_keepAll_19 : decode (yB Y_Mo_keepAll) 19 = .ok (.getfield 13, 3) := by decide +kernel
theorem d_Mo_keepAll_22 : decode (yB Y_Mo_keepAll) 22 = .ok (.iconst 4, 1) := by decide +kernel
theorem d_Mo_keepAll_23 : decode (yB Y_Mo_keepAll) 23 = .ok (.iload_n 2, 1) := by decide +kernel
theorem d_Mo_keepAll_24 : decode (yB Y_Mo_keepAll) 24 = .ok (.iadd, 1) := by decide +kernel
theorem d_Mo_keepAll_25 : decode (yB Y_Mo_keepAll) 25 = .ok (.iaload, 1) := by decide +kernel
theorem d_Mo_keepAll_26 : decode (yB Y_Mo_keepAll) 26 = .ok (.iastore, 1) := by decide +kernel
theorem d_Mo_keepAll_27 : decode (yB Y_Mo_keepAll) 27 = .ok (.iinc 2 1, 3) := by decide +kernel
theorem d_Mo_keepAll_30 : decode (yB Y_Mo_keepAll) 30 = .ok (.goto (-28), 3) := by decide +kernel
theorem d_Mo_keepAll_33 : decode (yB Y_Mo_keepAll) 33 = .ok (.return_, 1) := by decide +kernel
def F_Mo_keepAll_L2 (n : Nat) (E : zE) (S : zS) (r2 : Nat × Int32 × Int32 × zH → Option (zH)) (a0 : Nat) (x1 : Int32) (x2 : Int32) (M : zH) : Option (zH) :=
  if 50 ≤ x2 then
    some (M)
  else
    (zgR S a0 11 6).bind fun b_2 =>
    (zgR S a0 11 3).bind fun b_3 =>
    (zldI S M b_3 (4 + x2)).bind fun v_4 =>
    (zstI S M b_2 ((50 * x1) + x2) v_4).bind fun m_5 =>
    r2 (a0, x1, x2 + 1, m_5)
def F_Mo_keepAll_b2 (n : Nat) (E : zE) (S : zS) : Nat × Int32 × Int32 × zH → Option (zH) := zfix (fun r2 s => F_Mo_keepAll_L2 n E S r2 s.1 s.2.1 s.2.2.1 s.2.2.2) n
def F_Mo_keepAll (n : Nat) (E : zE) (S : zS) (a0 : Nat) (x1 : Int32) (M : zH) : Option (zH) :=
  F_Mo_keepAll_b2 n E S (a0, x1, 0, M)
theorem K_Mo_keepAll_L2 (n : Nat) (E : zE) (S : zS) (r2 : Nat × Int32 × Int32 × zH → Option (zH)) (a0 : Nat) (x1 : Int32) (x2 : Int32) (M : zH) (M' : zH) (hr2 : ∀ (a0 : Nat) (x1 : Int32) (x2 : Int32) (M : zH), r2 (a0, x1, x2, M) = some M' → zG E Y_Mo_keepAll (none, S, M') 2 [(0, .ref a0), (1, .int x1), (2, .int x2)] [] S M 0 0) (h : F_Mo_keepAll_L2 n E S r2 a0 x1 x2 M = some M') : zG E Y_Mo_keepAll (none, S, M') 2 [(0, .ref a0), (1, .int x1), (2, .int x2)] [] S M 0 0 := by
  unfold F_Mo_keepAll_L2 at h
  refine zi_iload_n 2 d_Mo_keepAll_2 rfl ?_
  refine zi_bipush 50 d_Mo_keepAll_3 rfl ?_
  refine zi_icmp_ge (tgt := 33) d_Mo_keepAll_5 rfl (fun c_1 => ?_) (fun c_1 => ?_)
  · rw [if_pos c_1] at h
    cases h
    exact zo_ret d_Mo_keepAll_33 (Nat.le_of_ble_eq_true rfl) (Nat.le_of_ble_eq_true rfl) rfl
  · rw [if_neg c_1] at h
    refine zi_aload_n 0 d_Mo_keepAll_8 rfl ?_
    obtain ⟨b_2, eb_2, h⟩ := zbind h
    refine zo_getR 12 zkd_11 6 d_Mo_keepAll_9 eb_2 rfl tw_1237 rfl ?_
    refine zi_bipush 50 d_Mo_keepAll_12 rfl ?_
    refine zi_iload_n 1 d_Mo_keepAll_14 rfl ?_
    refine zi_imul d_Mo_keepAll_15 ?_
    refine zi_iload_n 2 d_Mo_keepAll_16 rfl ?_
    refine zi_iadd d_Mo_keepAll_17 ?_
    refine zi_aload_n 0 d_Mo_keepAll_18 rfl ?_
    obtain ⟨b_3, eb_3, h⟩ := zbind h
    refine zo_getR 22 zkd_11 3 d_Mo_keepAll_19 eb_3 rfl tw_1234 rfl ?_
    refine zi_iconst 4 d_Mo_keepAll_22 rfl ?_
    refine zi_iload_n 2 d_Mo_keepAll_23 rfl ?_
    refine zi_iadd d_Mo_keepAll_24 ?_
    obtain ⟨v_4, ev_4, h⟩ := zbind h
    refine zo_iald 26 d_Mo_keepAll_25 ev_4 rfl ?_
    obtain ⟨m_5, em_5, h⟩ := zbind h
    refine zo_iast 27 d_Mo_keepAll_26 em_5 rfl ?_
    refine zi_iinc 2 (x2 + 1) [(2, .int (x2 + 1)), (0, .ref a0), (1, .int x1)] d_Mo_keepAll_27 rfl rfl (by decide) rfl ?_
    refine zi_goto (tgt := 2) d_Mo_keepAll_30 rfl ?_
    refine zi_lo [(0, .ref a0), (1, .int x1), (2, .int (x2 + 1))] [1, 2, 0] rfl ?_
    exact hr2 a0 x1 (x2 + 1) m_5 h
theorem K_Mo_keepAll_b2 (n : Nat) (E : zE) (S : zS) (a0 : Nat) (x1 : Int32) (x2 : Int32) (M : zH) (M' : zH)  (h : F_Mo_keepAll_b2 n E S (a0, x1, x2, M) = some M') : zG E Y_Mo_keepAll (none, S, M') 2 [(0, .ref a0), (1, .int x1), (2, .int x2)] [] S M 0 0 := by
  have key : ∀ (k : Nat) (a0 : Nat) (x1 : Int32) (x2 : Int32) (M : zH), zfix (fun r2 s => F_Mo_keepAll_L2 n E S r2 s.1 s.2.1 s.2.2.1 s.2.2.2) k (a0, x1, x2, M) = some M' → zG E Y_Mo_keepAll (none, S, M') 2 [(0, .ref a0), (1, .int x1), (2, .int x2)] [] S M 0 0 := by
    intro k
    induction k with
    | zero => intro a0 x1 x2 M h; cases h
    | succ k ih => intro a0 x1 x2 M h; exact K_Mo_keepAll_L2 n E S _ a0 x1 x2 M M'  (fun a0 x1 x2 M h => ih a0 x1 x2 M h) h
  exact key n a0 x1 x2 M h
theorem K_Mo_keepAll (n : Nat) (E : zE) (S : zS) (a0 : Nat) (x1 : Int32) (M : zH) (M' : zH)  (h : F_Mo_keepAll n E S a0 x1 M = some M') : zG E Y_Mo_keepAll (none, S, M') 0 [(0, .ref a0), (1, .int x1)] [] S M 0 0 := by
  unfold F_Mo_keepAll at h
  refine zi_iconst 0 d_Mo_keepAll_0 rfl ?_
  refine zi_istore_n [(2, .int 0), (0, .ref a0), (1, .int x1)] d_Mo_keepAll_1 (by decide) rfl ?_
  refine zi_lo [(0, .ref a0), (1, .int x1), (2, .int 0)] [1, 2, 0] rfl ?_
  exact K_Mo_keepAll_b2 n E S a0 x1 0 M M'  h
theorem C_Mo_keepAll (n : Nat) (E : zE) (S : zS) (a0 : Nat) (x1 : Int32) (M : zH) (M' : zH) (h : F_Mo_keepAll n E S a0 x1 M = some M') : zC E Y_Mo_keepAll [.ref a0, .int x1] S M (none, S, M') :=
  zC.of (Or.inl (show plainName "NightColanderModel" = true by decide)) (Nat.le_of_ble_eq_true rfl) (trivial) (K_Mo_keepAll n E S a0 x1 M M' h)
theorem d_Mo_remember_0 : decode (yB Y_Mo_remember) 0 = .ok (.aload_n 0, 1) := by decide +kernel
theorem d_Mo_remember_1 : decode (yB Y_Mo_remember) 1 = .ok (.getfield 162, 3) := by decide +kernel
theorem d_Mo_remember_4 : decode (yB Y_Mo_remember) 4 = .ok (.bipush 16, 2) := by decide +kernel
theorem d_Mo_remember_6 : decode (yB Y_Mo_remember) 6 = .ok (.if_icmp .ne 71, 3) := by decide +kernel
theorem d_Mo_remember_9 : decode (yB Y_Mo_remember) 9 = .ok (.iconst 0, 1) := by decide +kernel
theorem d_Mo_remember_10 : decode (yB Y_Mo_remember) 10 = .ok (.istore_n 2, 1) := by decide +kernel
theorem d_Mo_remember_11 : decode (yB Y_Mo_remember) 11 = .ok (.iload_n 2, 1) := by decide +kernel
theorem d_Mo_remember_12 : decode (yB Y_Mo_remember) 12 = .ok (.sipush 750, 3) := by decide +kernel
theorem d_Mo_remember_15 : decode (yB Y_Mo_remember) 15 = .ok (.if_icmp .ge 24, 3) := by decide +kernel
theorem d_Mo_remember_18 : decode (yB Y_Mo_remember) 18 = .ok (.aload_n 0, 1) := by decide +kernel
theorem d_Mo_remember_19 : decode (yB Y_Mo_remember) 19 = .ok (.getfield 23, 3) := by decide +kernel
theorem d_Mo_remember_22 : decode (yB Y_Mo_remember) 22 = .ok (.iload_n 2, 1) := by decide +kernel
theorem d_Mo_remember_23 : decode (yB Y_Mo_remember) 23 = .ok (.aload_n 0, 1) := by decide +kernel
theorem d_Mo_remember_24 : decode (yB Y_Mo_remember) 24 = .ok (.getfield 23, 3) := by decide +kernel
theorem d_Mo_remember_27 : decode (yB Y_Mo_remember) 27 = .ok (.iload_n 2, 1) := by decide +kernel
theorem d_Mo_remember_28 : decode (yB Y_Mo_remember) 28 = .ok (.bipush 50, 2) := by decide +kernel
theorem d_Mo_remember_30 : decode (yB Y_Mo_remember) 30 = .ok (.iadd, 1) := by decide +kernel
theorem d_Mo_remember_31 : decode (yB Y_Mo_remember) 31 = .ok (.iaload, 1) := by decide +kernel
theorem d_Mo_remember_32 : decode (yB Y_Mo_remember) 32 = .ok (.iastore, 1) := by decide +kernel
theorem d_Mo_remember_33 : decode (yB Y_Mo_remember) 33 = .ok (.iinc 2 1, 3) := by decide +kernel
theorem d_Mo_remember_36 : decode (yB Y_Mo_remember) 36 = .ok (.goto (-25), 3) := by decide +kernel
theorem d_Mo_remember_39 : decode (yB Y_Mo_remember) 39 = .ok (.iconst 0, 1) := by decide +kernel
theorem d_Mo_remember_40 : decode (yB Y_Mo_remember) 40 = .ok (.istore_n 2, 1) := by decide +kernel
theorem d_Mo_remember_41 : decode (yB Y_Mo_remember) 41 = .ok (.iload_n 2, 1) := by decide +kernel
theorem d_Mo_remember_42 : decode (yB Y_Mo_remember) 42 = .ok (.bipush 15, 2) := by decide +kernel
theorem d_Mo_remember_44 : decode (yB Y_Mo_remember) 44 = .ok (.if_icmp .ge 23, 3) := by decide +kernel
theorem d_Mo_remember_47 : decode (yB Y_Mo_remember) 47 = .ok (.aload_n 0, 1) := by decide +kernel
theorem d_Mo_remember_48 : decode (yB Y_Mo_remember) 48 = .ok (.getfield 26, 3) := by decide +kernel
theorem d_Mo_remember_51 : decode (yB Y_Mo_remember) 51 = .ok (.iload_n 2, 1) := by decide +kernel
theorem d_Mo_remember_52 : decode (yB Y_Mo_remember) 52 = .ok (.aload_n 0, 1) := by decide +kernel
theorem d_Mo_remember_53 : decode (yB Y_Mo_remember) 53 = .ok (.getfield 26, 3) := by decide +kernel
theorem d_Mo_remember_56 : decode (yB Y_Mo_remember) 56 = .ok (.iload_n 2, 1) := by decide +kernel
theorem d_Mo_remember_57 : decode (yB Y_Mo_remember) 57 = .ok (.iconst 1, 1) := by decide +kernel
theorem d_Mo_remember_58 : decode (yB Y_Mo_remember) 58 = .ok (.iadd, 1) := by decide +kernel
theorem d_Mo_remember_59 : decode (yB Y_Mo_remember) 59 = .ok (.iaload, 1) := by decide +kernel
theorem d_Mo_remember_60 : decode (yB Y_Mo_remember) 60 = .ok (.iastore, 1) := by decide +kernel
theorem d_Mo_remember_61 : decode (yB Y_Mo_remember) 61 = .ok (.iinc 2 1, 3) := by decide +kernel
theorem d_Mo_remember_64 : decode (yB Y_Mo_remember) 64 = .ok (.goto (-23), 3) := by decide +kernel
theorem d_Mo_remember_67 : decode (yB Y_Mo_remember) 67 = .ok (.aload_n 0, 1) := by decide +kernel
theorem d_Mo_remember_68 : decode (yB Y_Mo_remember) 68 = .ok (.dup, 1) := by decide +kernel
theorem d_Mo_remember_69 : decode (yB Y_Mo_remember) 69 = .ok (.getfield 162, 3) := by decide +kernel
theorem d_Mo_remember_72 : decode (yB Y_Mo_remember) 72 = .ok (.iconst 1, 1) := by decide +kernel
theorem d_Mo_remember_73 : decode (yB Y_Mo_remember) 73 = .ok (.isub, 1) := by decide +kernel
theorem d_Mo_remember_74 : decode (yB Y_Mo_remember) 74 = .ok (.putfield 162, 3) := by decide +kernel
theorem d_Mo_remember_77 : decode (yB Y_Mo_remember) 77 = .ok (.aload_n 0, 1) := by decide +kernel
theorem d_Mo_remember_78 : decode (yB Y_Mo_remember) 78 = .ok (.aload_n 0, 1) := by decide +kernel
theorem d_Mo_remember_79 : decode (yB Y_Mo_remember) 79 = .ok (.getfield 162, 3) := by decide +kernel
theorem d_Mo_remember_82 : decode (yB Y_Mo_remember) 82 = .ok (.invokevirtual 169, 3) := by decide +kernel
theorem d_Mo_remember_85 : decode (yB Y_Mo_remember) 85 = .ok (.aload_n 0, 1) := by decide +kernel
theorem d_Mo_remember_86 : decode (yB Y_Mo_remember) 86 = .ok (.getfield 26, 3) := by decide +kernel
theorem d_Mo_remember_89 : decode (yB Y_Mo_remember) 89 = .ok (.aload_n 0, 1) := by decide +kernel
theorem d_Mo_remember_90 : decode (yB Y_Mo_remember) 90 = .ok (.getfield 162, 3) := by decide +kernel
theorem d_Mo_remember_93 : decode (yB Y_Mo_remember) 93 = .ok (.iload_n 1, 1) := by decide +kernel
theorem d_Mo_remember_94 : decode (yB Y_Mo_remember) 94 = .ok (.iastore, 1) := by decide +kernel
theorem d_Mo_remember_95 : decode (yB Y_Mo_remember) 95 = .ok (.aload_n 0, 1) := by decide +kernel
theorem d_Mo_remember_96 : decode (yB Y_Mo_remember) 96 = .ok (.dup, 1) := by decide +kernel
theorem d_Mo_remember_97 : decode (yB Y_Mo_remember) 97 = .ok (.getfield 162, 3) := by decide +kernel
theorem d_Mo_remember_100 : decode (yB Y_Mo_remember) 100 = .ok (.iconst 1, 1) := by decide +kernel
theorem d_Mo_remember_101 : decode (yB Y_Mo_remember) 101 = .ok (.iadd, 1) := by decide +kernel
theorem d_Mo_remember_102 : decode (yB Y_Mo_remember) 102 = .ok (.putfield 162, 3) := by decide +kernel
theorem d_Mo_remember_105 : decode (yB Y_Mo_remember) 105 = .ok (.return_, 1) := by decide +kernel
def F_Mo_remember_b77 (n : Nat) (E : zE) (S : zS) (a0 : Nat) (x1 : Int32) (M : zH) : Option (zH) :=
  (zgI S M a0 11 8).bind fun v_1 =>
  (F_Mo_keepAll n E S a0 v_1 M).bind fun q_2 =>
  (zgR S a0 11 7).bind fun b_3 =>
  (zgI S q_2 a0 11 8).bind fun v_4 =>
  (zstI S q_2 b_3 v_4 x1).bind fun m_5 =>
  (zgI S m_5 a0 11 8).bind fun v_6 =>
  (zpI S m_5 a0 11 8 (v_6 + 1)).bind fun m_7 =>
  some (m_7)
def F_Mo_remember_L41 (n : Nat) (E : zE) (S : zS) (r41 : Nat × Int32 × Int32 × zH → Option (zH)) (a0 : Nat) (x1 : Int32) (x2 : Int32) (M : zH) : Option (zH) :=
  if 15 ≤ x2 then
    (zgI S M a0 11 8).bind fun v_9 =>
    (zpI S M a0 11 8 (v_9 - 1)).bind fun m_10 =>
    F_Mo_remember_b77 n E S a0 x1 m_10
  else
    (zgR S a0 11 7).bind fun b_11 =>
    (zldI S M b_11 (x2 + 1)).bind fun v_12 =>
    (zstI S M b_11 x2 v_12).bind fun m_13 =>
    r41 (a0, x1, x2 + 1, m_13)
def F_Mo_remember_b41 (n : Nat) (E : zE) (S : zS) : Nat × Int32 × Int32 × zH → Option (zH) := zfix (fun r41 s => F_Mo_remember_L41 n E S r41 s.1 s.2.1 s.2.2.1 s.2.2.2) n
def F_Mo_remember_L11 (n : Nat) (E : zE) (S : zS) (r11 : Nat × Int32 × Int32 × zH → Option (zH)) (a0 : Nat) (x1 : Int32) (x2 : Int32) (M : zH) : Option (zH) :=
  if 750 ≤ x2 then
    F_Mo_remember_b41 n E S (a0, x1, 0, M)
  else
    (zgR S a0 11 6).bind fun b_15 =>
    (zldI S M b_15 (x2 + 50)).bind fun v_16 =>
    (zstI S M b_15 x2 v_16).bind fun m_17 =>
    r11 (a0, x1, x2 + 1, m_17)
def F_Mo_remember_b11 (n : Nat) (E : zE) (S : zS) : Nat × Int32 × Int32 × zH → Option (zH) := zfix (fun r11 s => F_Mo_remember_L11 n E S r11 s.1 s.2.1 s.2.2.1 s.2.2.2) n
def F_Mo_remember (n : Nat) (E : zE) (S : zS) (a0 : Nat) (x1 : Int32) (M : zH) : Option (zH) :=
  (zgI S M a0 11 8).bind fun v_18 =>
  if v_18 = 16 then
    F_Mo_remember_b11 n E S (a0, x1, 0, M)
  else
    F_Mo_remember_b77 n E S a0 x1 M
theorem K_Mo_remember_b77 (n : Nat) (E : zE) (S : zS) (a0 : Nat) (x1 : Int32) (M : zH) (M' : zH)  (h : F_Mo_remember_b77 n E S a0 x1 M = some M') : zG E Y_Mo_remember (none, S, M') 77 [(0, .ref a0), (1, .int x1)] [] S M 0 0 := by
  unfold F_Mo_remember_b77 at h
  refine zi_aload_n 0 d_Mo_remember_77 rfl ?_
  refine zi_aload_n 0 d_Mo_remember_78 rfl ?_
  obtain ⟨v_1, ev_1, h⟩ := zbind h
  refine zo_getI 82 zkd_11 8 d_Mo_remember_79 ev_1 rfl tw_1239 rfl ?_
  obtain ⟨q_2, eq_2, h⟩ := zbind h
  refine zo_virt (k' := 0) (n' := 0) 85 [.int v_1] [] [] zkd_11 (zgI_s ev_1).1 (C_Mo_keepAll n E S a0 v_1 M q_2 eq_2) d_Mo_remember_82 tw_1706 tw_1703 tw_1705 ts_80 tw_13 dd_Mo_keepAll ⟨Nat.le_of_ble_eq_true rfl, Nat.le_of_ble_eq_true rfl, Nat.le_of_ble_eq_true rfl, Nat.le_of_ble_eq_true rfl⟩ (Nat.le_of_ble_eq_true rfl) rfl rfl rfl rfl ?_
  refine zi_aload_n 0 d_Mo_remember_85 rfl ?_
  obtain ⟨b_3, eb_3, h⟩ := zbind h
  refine zo_getR 89 zkd_11 7 d_Mo_remember_86 eb_3 rfl tw_1238 rfl ?_
  refine zi_aload_n 0 d_Mo_remember_89 rfl ?_
  obtain ⟨v_4, ev_4, h⟩ := zbind h
  refine zo_getI 93 zkd_11 8 d_Mo_remember_90 ev_4 rfl tw_1239 rfl ?_
  refine zi_iload_n 1 d_Mo_remember_93 rfl ?_
  obtain ⟨m_5, em_5, h⟩ := zbind h
  refine zo_iast 95 d_Mo_remember_94 em_5 rfl ?_
  refine zi_aload_n 0 d_Mo_remember_95 rfl ?_
  refine zi_dup d_Mo_remember_96 rfl ?_
  obtain ⟨v_6, ev_6, h⟩ := zbind h
  refine zo_getI 100 zkd_11 8 d_Mo_remember_97 ev_6 rfl tw_1239 rfl ?_
  refine zi_iconst 1 d_Mo_remember_100 rfl ?_
  refine zi_iadd d_Mo_remember_101 ?_
  obtain ⟨m_7, em_7, h⟩ := zbind h
  refine zo_putI 105 zkd_11 8 d_Mo_remember_102 em_7 rfl rfl rfl tw_1239 rfl ?_
  cases h
  exact zo_ret d_Mo_remember_105 (Nat.le_of_ble_eq_true rfl) (Nat.le_of_ble_eq_true rfl) rfl
theorem K_Mo_remember_L41 (n : Nat) (E : zE) (S : zS) (r41 : Nat × Int32 × Int32 × zH → Option (zH)) (a0 : Nat) (x1 : Int32) (x2 : Int32) (M : zH) (M' : zH) (hr41 : ∀ (a0 : Nat) (x1 : Int32) (x2 : Int32) (M : zH), r41 (a0, x1, x2, M) = some M' → zG E Y_Mo_remember (none, S, M') 41 [(0, .ref a0), (1, .int x1), (2, .int x2)] [] S M 0 0) (h : F_Mo_remember_L41 n E S r41 a0 x1 x2 M = some M') : zG E Y_Mo_remember (none, S, M') 41 [(0, .ref a0), (1, .int x1), (2, .int x2)] [] S M 0 0 := by
  unfold F_Mo_remember_L41 at h
  refine zi_iload_n 2 d_Mo_remember_41 rfl ?_
  refine zi_bipush 15 d_Mo_remember_42 rfl ?_
  refine zi_icmp_ge (tgt := 67) d_Mo_remember_44 rfl (fun c_8 => ?_) (fun c_8 => ?_)
  · rw [if_pos c_8] at h
    refine zi_aload_n 0 d_Mo_remember_67 rfl ?_
    refine zi_dup d_Mo_remember_68 rfl ?_
    obtain ⟨v_9, ev_9, h⟩ := zbind h
    refine zo_getI 72 zkd_11 8 d_Mo_remember_69 ev_9 rfl tw_1239 rfl ?_
    refine zi_iconst 1 d_Mo_remember_72 rfl ?_
    refine zi_isub d_Mo_remember_73 ?_
    obtain ⟨m_10, em_10, h⟩ := zbind h
    refine zo_putI 77 zkd_11 8 d_Mo_remember_74 em_10 rfl rfl rfl tw_1239 rfl ?_
    refine zi_lo [(0, .ref a0), (1, .int x1)] [0, 1] rfl ?_
    exact K_Mo_remember_b77 n E S a0 x1 m_10 M'  h
  · rw [if_neg c_8] at h
    refine zi_aload_n 0 d_Mo_remember_47 rfl ?_
    obtain ⟨b_11, eb_11, h⟩ := zbind h
    refine zo_getR 51 zkd_11 7 d_Mo_remember_48 eb_11 rfl tw_1238 rfl ?_
    refine zi_iload_n 2 d_Mo_remember_51 rfl ?_
    refine zi_aload_n 0 d_Mo_remember_52 rfl ?_
    refine zo_getR 56 zkd_11 7 d_Mo_remember_53 eb_11 rfl tw_1238 rfl ?_
    refine zi_iload_n 2 d_Mo_remember_56 rfl ?_
    refine zi_iconst 1 d_Mo_remember_57 rfl ?_
    refine zi_iadd d_Mo_remember_58 ?_
    obtain ⟨v_12, ev_12, h⟩ := zbind h
    refine zo_iald 60 d_Mo_remember_59 ev_12 rfl ?_
    obtain ⟨m_13, em_13, h⟩ := zbind h
    refine zo_iast 61 d_Mo_remember_60 em_13 rfl ?_
    refine zi_iinc 2 (x2 + 1) [(2, .int (x2 + 1)), (0, .ref a0), (1, .int x1)] d_Mo_remember_61 rfl rfl (by decide) rfl ?_
    refine zi_goto (tgt := 41) d_Mo_remember_64 rfl ?_
    refine zi_lo [(0, .ref a0), (1, .int x1), (2, .int (x2 + 1))] [1, 2, 0] rfl ?_
    exact hr41 a0 x1 (x2 + 1) m_13 h
theorem K_Mo_remember_b41 (n : Nat) (E : zE) (S : zS) (a0 : Nat) (x1 : Int32) (x2 : Int32) (M : zH) (M' : zH)  (h : F_Mo_remember_b41 n E S (a0, x1, x2, M) = some M') : zG E Y_Mo_remember (none, S, M') 41 [(0, .ref a0), (1, .int x1), (2, .int x2)] [] S M 0 0 := by
  have key : ∀ (k : Nat) (a0 : Nat) (x1 : Int32) (x2 : Int32) (M : zH), zfix (fun r41 s => F_Mo_remember_L41 n E S r41 s.1 s.2.1 s.2.2.1 s.2.2.2) k (a0, x1, x2, M) = some M' → zG E Y_Mo_remember (none, S, M') 41 [(0, .ref a0), (1, .int x1), (2, .int x2)] [] S M 0 0 := by
    intro k
    induction k with
    | zero => intro a0 x1 x2 M h; cases h
    | succ k ih => intro a0 x1 x2 M h; exact K_Mo_remember_L41 n E S _ a0 x1 x2 M M'  (fun a0 x1 x2 M h => ih a0 x1 x2 M h) h
  exact key n a0 x1 x2 M h
theorem K_Mo_remember_L11 (n : Nat) (E : zE) (S : zS) (r11 : Nat × Int32 × Int32 × zH → Option (zH)) (a0 : Nat) (x1 : Int32) (x2 : Int32) (M : zH) (M' : zH) (hr11 : ∀ (a0 : Nat) (x1 : Int32) (x2 : Int32) (M : zH), r11 (a0, x1, x2, M) = some M' → zG E Y_Mo_remember (none, S, M') 11 [(0, .ref a0), (1, .int x1), (2, .int x2)] [] S M 0 0) (h : F_Mo_remember_L11 n E S r11 a0 x1 x2 M = some M') : zG E Y_Mo_remember (none, S, M') 11 [(0, .ref a0), (1, .int x1), (2, .int x2)] [] S M 0 0 := by
  unfold F_Mo_remember_L11 at h
  refine zi_iload_n 2 d_Mo_remember_11 rfl ?_
  refine zi_sipush 750 d_Mo_remember_12 rfl ?_
  refine zi_icmp_ge (tgt := 39) d_Mo_remember_15 rfl (fun c_14 => ?_) (fun c_14 => ?_)
  · rw [if_pos c_14] at h
    refine zi_iconst 0 d_Mo_remember_39 rfl ?_
    refine zi_istore_n [(2, .int 0), (0, .ref a0), (1, .int x1)] d_Mo_remember_40 (by decide) rfl ?_
    refine zi_lo [(0, .ref a0), (1, .int x1), (2, .int 0)] [1, 2, 0] rfl ?_
    exact K_Mo_remember_b41 n E S a0 x1 0 M M'  h
  · rw [if_neg c_14] at h
    refine zi_aload_n 0 d_Mo_remember_18 rfl ?_
    obtain ⟨b_15, eb_15, h⟩ := zbind h
    refine zo_getR 22 zkd_11 6 d_Mo_remember_19 eb_15 rfl tw_1237 rfl ?_
    refine zi_iload_n 2 d_Mo_remember_22 rfl ?_
    refine zi_aload_n 0 d_Mo_remember_23 rfl ?_
    refine zo_getR 27 zkd_11 6 d_Mo_remember_24 eb_15 rfl tw_1237 rfl ?_
    refine zi_iload_n 2 d_Mo_remember_27 rfl ?_
    refine zi_bipush 50 d_Mo_remember_28 rfl ?_
    refine zi_iadd d_Mo_remember_30 ?_
    obtain ⟨v_16, ev_16, h⟩ := zbind h
    refine zo_iald 32 d_Mo_remember_31 ev_16 rfl ?_
    obtain ⟨m_17, em_17, h⟩ := zbind h
    refine zo_iast 33 d_Mo_remember_32 em_17 rfl ?_
    refine zi_iinc 2 (x2 + 1) [(2, .int (x2 + 1)), (0, .ref a0), (1, .int x1)] d_Mo_remember_33 rfl rfl (by decide) rfl ?_
    refine zi_goto (tgt := 11) d_Mo_remember_36 rfl ?_
    refine zi_lo [(0, .ref a0), (1, .int x1), (2, .int (x2 + 1))] [1, 2, 0] rfl ?_
    exact hr11 a0 x1 (x2 + 1) m_17 h
theorem K_Mo_remember_b11 (n : Nat) (E : zE) (S : zS) (a0 : Nat) (x1 : Int32) (x2 : Int32) (M : zH) (M' : zH)  (h : F_Mo_remember_b11 n E S (a0, x1, x2, M) = some M') : zG E Y_Mo_remember (none, S, M') 11 [(0, .ref a0), (1, .int x1), (2, .int x2)] [] S M 0 0 := by
  have key : ∀ (k : Nat) (a0 : Nat) (x1 : Int32) (x2 : Int32) (M : zH), zfix (fun r11 s => F_Mo_remember_L11 n E S r11 s.1 s.2.1 s.2.2.1 s.2.2.2) k (a0, x1, x2, M) = some M' → zG E Y_Mo_remember (none, S, M') 11 [(0, .ref a0), (1, .int x1), (2, .int x2)] [] S M 0 0 := by
    intro k
    induction k with
    | zero => intro a0 x1 x2 M h; cases h
    | succ k ih => intro a0 x1 x2 M h; exact K_Mo_remember_L11 n E S _ a0 x1 x2 M M'  (fun a0 x1 x2 M h => ih a0 x1 x2 M h) h
  exact key n a0 x1 x2 M h
theorem K_Mo_remember (n : Nat) (E : zE) (S : zS) (a0 : Nat) (x1 : Int32) (M : zH) (M' : zH)  (h : F_Mo_remember n E S a0 x1 M = some M') : zG E Y_Mo_remember (none, S, M') 0 [(0, .ref a0), (1, .int x1)] [] S M 0 0 := by
  unfold F_Mo_remember at h
  refine zi_aload_n 0 d_Mo_remember_0 rfl ?_
  obtain ⟨v_18, ev_18, h⟩ := zbind h
  refine zo_getI 4 zkd_11 8 d_Mo_remember_1 ev_18 rfl tw_1239 rfl ?_
  refine zi_bipush 16 d_Mo_remember_4 rfl ?_
  refine zi_icmp_ne (tgt := 77) d_Mo_remember_6 rfl (fun c_19 => ?_) (fun c_19 => ?_)
  · rw [if_neg c_19] at h
    refine zi_lo [(0, .ref a0), (1, .int x1)] [0, 1] rfl ?_
    exact K_Mo_remember_b77 n E S a0 x1 M M'  h
  · rw [if_pos c_19] at h
    refine zi_iconst 0 d_Mo_remember_9 rfl ?_
    refine zi_istore_n [(2, .int 0), (0, .ref a0), (1, .int x1)] d_Mo_remember_10 (by decide) rfl ?_
    refine zi_lo [(0, .ref a0), (1, .int x1), (2, .int 0)] [1, 2, 0] rfl ?_
    exact K_Mo_remember_b11 n E S a0 x1 0 M M'  h
theorem C_Mo_remember (n : Nat) (E : zE) (S : zS) (a0 : Nat) (x1 : Int32) (M : zH) (M' : zH) (h : F_Mo_remember n E S a0 x1 M = some M') : zC E Y_Mo_remember [.ref a0, .int x1] S M (none, S, M') :=
  zC.of (Or.inl (show plainName "NightColanderModel" = true by decide)) (Nat.le_of_ble_eq_true rfl) (trivial) (K_Mo_remember n E S a0 x1 M M' h)
theorem d_Mo_blockNow_0 : decode (yB Y_Mo_blockNow) 0 = .ok (.iload_n 2, 1) := by decide +kernel
theorem d_Mo_blockNow_1 : decode (yB Y_Mo_blockNow) 1 = .ok (.invokestatic 190, 3) := by decide +kernel
theorem d_Mo_blockNow_4 : decode (yB Y_Mo_blockNow) 4 = .ok (.ifCond .eq 10, 3) := by decide +kernel
theorem d_Mo_blockNow_7 : decode (yB Y_Mo_blockNow) 7 = .ok (.iload_n 1, 1) := by decide +kernel
theorem d_Mo_blockNow_8 : decode (yB Y_Mo_blockNow) 8 = .ok (.invokestatic 194, 3) := by decide +kernel
theorem d_Mo_blockNow_11 : decode (yB Y_Mo_blockNow) 11 = .ok (.ifCond .ne 5, 3) := by decide +kernel
theorem d_Mo_blockNow_14 : decode (yB Y_Mo_blockNow) 14 = .ok (.iconst (-1), 1) := by decide +kernel
theorem d_Mo_blockNow_15 : decode (yB Y_Mo_blockNow) 15 = .ok (.ireturn, 1) := by decide +kernel
theorem d_Mo_blockNow_16 : decode (yB Y_Mo_blockNow) 16 = .ok (.aload_n 0, 1) := by decide +kernel
theorem d_Mo_blockNow_17 : decode (yB Y_Mo_blockNow) 17 = .ok (.iconst 0, 1) := by decide +kernel
theorem d_Mo_blockNow_18 : decode (yB Y_Mo_blockNow) 18 = .ok (.invokevirtual 445, 3) := by decide +kernel
theorem d_Mo_blockNow_21 : decode (yB Y_Mo_blockNow) 21 = .ok (.aload_n 0, 1) := by decide +kernel
theorem d_Mo_blockNow_22 : decode (yB Y_Mo_blockNow) 22 = .ok (.getfield 13, 3) := by decide +kernel
theorem d_Mo_blockNow_25 : decode (yB Y_Mo_blockNow) 25 = .ok (.bipush 44, 2) := by decide +kernel
theorem d_Mo_blockNow_27 : decode (yB Y_Mo_blockNow) 27 = .ok (.iload_n 2, 1) := by decide +kernel
theorem d_Mo_blockNow_28 : decode (yB Y_Mo_blockNow) 28 = .ok (.iadd, 1) := by decide +kernel
theorem d_Mo_blockNow_29 : decode (yB Y_Mo_blockNow) 29 = .ok (.dup2, 1) := by decide +kernel
theorem d_Mo_blockNow_30 : decode (yB Y_Mo_blockNow) 30 = .ok (.iaload, 1) := by decide +kernel
theorem d_Mo_blockNow_31 : decode (yB Y_Mo_blockNow) 31 = .ok (.iconst 1, 1) := by decide +kernel
theorem d_Mo_blockNow_32 : decode (yB Y_Mo_blockNow) 32 = .ok (.iload_n 1, 1) := by decide +kernel
theorem d_Mo_blockNow_33 : decode (yB Y_Mo_blockNow) 33 = .ok (.ishl, 1) := by decide +kernel
theorem d_Mo_blockNow_34 : decode (yB Y_Mo_blockNow) 34 = .ok (.ixor, 1) := by decide +kernel
theorem d_Mo_blockNow_35 : decode (yB Y_Mo_blockNow) 35 = .ok (.iastore, 1) := by decide +kernel
theorem d_Mo_blockNow_36 : decode (yB Y_Mo_blockNow) 36 = .ok (.aload_n 0, 1) := by decide +kernel
theorem d_Mo_blockNow_37 : decode (yB Y_Mo_blockNow) 37 = .ok (.getfield 13, 3) := by decide +kernel
theorem d_Mo_blockNow_40 : decode (yB Y_Mo_blockNow) 40 = .ok (.bipush 44, 2) := by decide +kernel
theorem d_Mo_blockNow_42 : decode (yB Y_Mo_blockNow) 42 = .ok (.iload_n 2, 1) := by decide +kernel
theorem d_Mo_blockNow_43 : decode (yB Y_Mo_blockNow) 43 = .ok (.iadd, 1) := by decide +kernel
theorem d_Mo_blockNow_44 : decode (yB Y_Mo_blockNow) 44 = .ok (.iaload, 1) := by decide +kernel
theorem d_Mo_blockNow_45 : decode (yB Y_Mo_blockNow) 45 = .ok (.iload_n 1, 1) := by decide +kernel
theorem d_Mo_blockNow_46 : decode (yB Y_Mo_blockNow) 46 = .ok (.ishr, 1) := by decide +kernel
theorem d_Mo_blockNow_47 : decode (yB Y_Mo_blockNow) 47 = .ok (.iconst 1, 1) := by decide +kernel
theorem d_Mo_blockNow_48 : decode (yB Y_Mo_blockNow) 48 = .ok (.iand, 1) := by decide +kernel
theorem d_Mo_blockNow_49 : decode (yB Y_Mo_blockNow) 49 = .ok (.ireturn, 1) := by decide +kernel
def F_Mo_blockNow (n : Nat) (E : zE) (S : zS) (a0 : Nat) (x1 : Int32) (x2 : Int32) (M : zH) : Option (Int32 × zH) :=
  (F_Mo_isRing n E S x2 M).bind fun q_1 =>
  if q_1.1 = true then
    (F_Mo_isField n E S x1 q_1.2).bind fun q_3 =>
    if q_3.1 = true then
      (zck S a0 11).bind fun u_5 =>
      (F_Mo_remember n E S a0 0 q_3.2).bind fun q_6 =>
      (zgR S a0 11 3).bind fun b_7 =>
      (zldI S q_6 b_7 (44 + x2)).bind fun v_8 =>
      (zstI S q_6 b_7 (44 + x2) (v_8 ^^^ ((1 : Int32) <<< (x1 &&& (31 : Int32))))).bind fun m_9 =>
      (zldI S m_9 b_7 (44 + x2)).bind fun v_10 =>
      some ((v_10 >>> (x1 &&& (31 : Int32))) &&& (1 : Int32), m_9)
    else
      some ((-1), q_3.2)
  else
    some ((-1), q_1.2)
theorem K_Mo_blockNow (n : Nat) (E : zE) (S : zS) (a0 : Nat) (x1 : Int32) (x2 : Int32) (M : zH) (r : Int32) (M' : zH)  (h : F_Mo_blockNow n E S a0 x1 x2 M = some (r, M')) : zG E Y_Mo_blockNow (some (.int r), S, M') 0 [(0, .ref a0), (1, .int x1), (2, .int x2)] [] S M 0 0 := by
  unfold F_Mo_blockNow at h
  refine zi_iload_n 2 d_Mo_blockNow_0 rfl ?_
  obtain ⟨q_1, eq_1, h⟩ := zbind h
  refine zo_stat (k' := 0) (n' := 0) 4 [.int x2] [] [.int (bI q_1.1)] (C_Mo_isRing n E S x2 M q_1.1 q_1.2 eq_1) d_Mo_blockNow_1 tw_1436 tw_1434 tw_1435 tw_13 dd_Mo_isRing ⟨Nat.le_of_ble_eq_true rfl, Nat.le_of_ble_eq_true rfl, Nat.le_of_ble_eq_true rfl, Nat.le_of_ble_eq_true rfl⟩ (Nat.le_of_ble_eq_true rfl) rfl rfl rfl rfl ?_
  refine zo_ifeqB d_Mo_blockNow_4 rfl 7 rfl (fun c_2 => ?_) (fun c_2 => ?_)
  · rw [if_neg c_2] at h
    refine zi_iconst (-1) d_Mo_blockNow_14 rfl ?_
    cases h
    exact zo_ret d_Mo_blockNow_15 (Nat.le_of_ble_eq_true rfl) (Nat.le_of_ble_eq_true rfl) rfl
  · rw [if_pos c_2] at h
    refine zi_iload_n 1 d_Mo_blockNow_7 rfl ?_
    obtain ⟨q_3, eq_3, h⟩ := zbind h
    refine zo_stat (k' := 0) (n' := 0) 11 [.int x1] [] [.int (bI q_3.1)] (C_Mo_isField n E S x1 q_1.2 q_3.1 q_3.2 eq_3) d_Mo_blockNow_8 tw_1440 tw_1438 tw_1439 tw_13 dd_Mo_isField ⟨Nat.le_of_ble_eq_true rfl, Nat.le_of_ble_eq_true rfl, Nat.le_of_ble_eq_true rfl, Nat.le_of_ble_eq_true rfl⟩ (Nat.le_of_ble_eq_true rfl) rfl rfl rfl rfl ?_
    refine zo_ifneB d_Mo_blockNow_11 rfl 14 rfl (fun c_4 => ?_) (fun c_4 => ?_)
    · rw [if_pos c_4] at h
      refine zi_aload_n 0 d_Mo_blockNow_16 rfl ?_
      refine zi_iconst 0 d_Mo_blockNow_17 rfl ?_
      obtain ⟨u_5, eu_5, h⟩ := zbind h
      obtain ⟨q_6, eq_6, h⟩ := zbind h
      refine zo_virt (k' := 0) (n' := 0) 21 [.int 0] [] [] zkd_11 (zck_s eu_5) (C_Mo_remember n E S a0 0 q_3.2 q_6 eq_6) d_Mo_blockNow_18 tw_1702 tw_1699 tw_1701 ts_79 tw_13 dd_Mo_remember ⟨Nat.le_of_ble_eq_true rfl, Nat.le_of_ble_eq_true rfl, Nat.le_of_ble_eq_true rfl, Nat.le_of_ble_eq_true rfl⟩ (Nat.le_of_ble_eq_true rfl) rfl rfl rfl rfl ?_
      refine zi_aload_n 0 d_Mo_blockNow_21 rfl ?_
      obtain ⟨b_7, eb_7, h⟩ := zbind h
      refine zo_getR 25 zkd_11 3 d_Mo_blockNow_22 eb_7 rfl tw_1234 rfl ?_
      refine zi_bipush 44 d_Mo_blockNow_25 rfl ?_
      refine zi_iload_n 2 d_Mo_blockNow_27 rfl ?_
      refine zi_iadd d_Mo_blockNow_28 ?_
      refine zi_dup2 d_Mo_blockNow_29 rfl rfl ?_
      obtain ⟨v_8, ev_8, h⟩ := zbind h
      refine zo_iald 31 d_Mo_blockNow_30 ev_8 rfl ?_
      refine zi_iconst 1 d_Mo_blockNow_31 rfl ?_
      refine zi_iload_n 1 d_Mo_blockNow_32 rfl ?_
      refine zi_ishl d_Mo_blockNow_33 ?_
      refine zi_ixor d_Mo_blockNow_34 ?_
      obtain ⟨m_9, em_9, h⟩ := zbind h
      refine zo_iast 36 d_Mo_blockNow_35 em_9 rfl ?_
      refine zi_aload_n 0 d_Mo_blockNow_36 rfl ?_
      refine zo_getR 40 zkd_11 3 d_Mo_blockNow_37 eb_7 rfl tw_1234 rfl ?_
      refine zi_bipush 44 d_Mo_blockNow_40 rfl ?_
      refine zi_iload_n 2 d_Mo_blockNow_42 rfl ?_
      refine zi_iadd d_Mo_blockNow_43 ?_
      obtain ⟨v_10, ev_10, h⟩ := zbind h
      refine zo_iald 45 d_Mo_blockNow_44 ev_10 rfl ?_
      refine zi_iload_n 1 d_Mo_blockNow_45 rfl ?_
      refine zi_ishr d_Mo_blockNow_46 ?_
      refine zi_iconst 1 d_Mo_blockNow_47 rfl ?_
      refine zi_iand d_Mo_blockNow_48 ?_
      cases h
      exact zo_ret d_Mo_blockNow_49 (Nat.le_of_ble_eq_true rfl) (Nat.le_of_ble_eq_true rfl) rfl
    · rw [if_neg c_4] at h
      refine zi_iconst (-1) d_Mo_blockNow_14 rfl ?_
      cases h
      exact zo_ret d_Mo_blockNow_15 (Nat.le_of_ble_eq_true rfl) (Nat.le_of_ble_eq_true rfl) rfl
theorem C_Mo_blockNow (n : Nat) (E : zE) (S : zS) (a0 : Nat) (x1 : Int32) (x2 : Int32) (M : zH) (r : Int32) (M' : zH) (h : F_Mo_blockNow n E S a0 x1 x2 M = some (r, M')) : zC E Y_Mo_blockNow [.ref a0, .int x1, .int x2] S M (some (.int r), S, M') :=
  zC.of (Or.inl (show plainName "NightColanderModel" = true by decide)) (Nat.le_of_ble_eq_true rfl) (trivial) (K_Mo_blockNow n E S a0 x1 x2 M r M' h)
theorem d_Mo_block_0 : decode (yB Y_Mo_block) 0 = .ok (.aload_n 0, 1) := by decide +kernel
theorem d_Mo_block_1 : decode (yB Y_Mo_block) 1 = .ok (.iconst 0, 1) := by decide +kernel
theorem d_Mo_block_2 : decode (yB Y_Mo_block) 2 = .ok (.putfield 156, 3) := by decide +kernel
theorem d_Mo_block_5 : decode (yB Y_Mo_block) 5 = .ok (.aload_n 0, 1) := by decide +kernel
theorem d_Mo_block_6 : decode (yB Y_Mo_block) 6 = .ok (.aload_n 0, 1) := by decide +kernel
theorem d_Mo_block_7 : decode (yB Y_Mo_block) 7 = .ok (.iload_n 1, 1) := by decide +kernel
theorem d_Mo_block_8 : decode (yB Y_Mo_block) 8 = .ok (.iload_n 2, 1) := by decide +kernel
theorem d_Mo_block_9 : decode (yB Y_Mo_block) 9 = .ok (.invokevirtual 448, 3) := by decide +kernel
theorem d_Mo_block_12 : decode (yB Y_Mo_block) 12 = .ok (.invokevirtual 165, 3) := by decide +kernel
theorem d_Mo_block_15 : decode (yB Y_Mo_block) 15 = .ok (.ireturn, 1) := by decide +kernel
def F_Mo_block (n : Nat) (E : zE) (S : zS) (a0 : Nat) (x1 : Int32) (x2 : Int32) (M : zH) : Option (Int32 × zH) :=
  (zpI S M a0 11 0 0).bind fun m_1 =>
  (zck S a0 11).bind fun u_2 =>
  (F_Mo_blockNow n E S a0 x1 x2 m_1).bind fun q_3 =>
  (F_Mo_tell n E S a0 q_3.1 q_3.2).bind fun q_4 =>
  some (q_4.1, q_4.2)
theorem K_Mo_block (n : Nat) (E : zE) (S : zS) (a0 : Nat) (x1 : Int32) (x2 : Int32) (M : zH) (r : Int32) (M' : zH)  (h : F_Mo_block n E S a0 x1 x2 M = some (r, M')) : zG E Y_Mo_block (some (.int r), S, M') 0 [(0, .ref a0), (1, .int x1), (2, .int x2)] [] S M 0 0 := by
  unfold F_Mo_block at h
  refine zi_aload_n 0 d_Mo_block_0 rfl ?_
  refine zi_iconst 0 d_Mo_block_1 rfl ?_
  obtain ⟨m_1, em_1, h⟩ := zbind h
  refine zo_putI 5 zkd_11 0 d_Mo_block_2 em_1 rfl rfl rfl tw_1231 rfl ?_
  refine zi_aload_n 0 d_Mo_block_5 rfl ?_
  refine zi_aload_n 0 d_Mo_block_6 rfl ?_
  refine zi_iload_n 1 d_Mo_block_7 rfl ?_
  refine zi_iload_n 2 d_Mo_block_8 rfl ?_
  obtain ⟨u_2, eu_2, h⟩ := zbind h
  obtain ⟨q_3, eq_3, h⟩ := zbind h
  refine zo_virt (k' := 0) (n' := 0) 12 [.int x1, .int x2] [.ref a0] [.int q_3.1, .ref a0] zkd_11 (zck_s eu_2) (C_Mo_blockNow n E S a0 x1 x2 m_1 q_3.1 q_3.2 eq_3) d_Mo_block_9 tw_1698 tw_1695 tw_1697 ts_78 tw_13 dd_Mo_blockNow ⟨Nat.le_of_ble_eq_true rfl, Nat.le_of_ble_eq_true rfl, Nat.le_of_ble_eq_true rfl, Nat.le_of_ble_eq_true rfl⟩ (Nat.le_of_ble_eq_true rfl) rfl rfl rfl rfl ?_
  obtain ⟨q_4, eq_4, h⟩ := zbind h
  refine zo_virt (k' := 0) (n' := 0) 15 [.int q_3.1] [] [.int q_4.1] zkd_11 (zck_s eu_2) (C_Mo_tell n E S a0 q_3.1 q_3.2 q_4.1 q_4.2 eq_4) d_Mo_block_12 tw_1410 tw_1407 tw_1409 ts_36 tw_13 dd_Mo_tell ⟨Nat.le_of_ble_eq_true rfl, Nat.le_of_ble_eq_true rfl, Nat.le_of_ble_eq_true rfl, Nat.le_of_ble_eq_true rfl⟩ (Nat.le_of_ble_eq_true rfl) rfl rfl rfl rfl ?_
  cases h
  exact zo_ret d_Mo_block_15 (Nat.le_of_ble_eq_true rfl) (Nat.le_of_ble_eq_true rfl) rfl
theorem C_Mo_block (n : Nat) (E : zE) (S : zS) (a0 : Nat) (x1 : Int32) (x2 : Int32) (M : zH) (r : Int32) (M' : zH) (h : F_Mo_block n E S a0 x1 x2 M = some (r, M')) : zC E Y_Mo_block [.ref a0, .int x1, .int x2] S M (some (.int r), S, M') :=
  zC.of (Or.inl (show plainName "NightColanderModel" = true by decide)) (Nat.le_of_ble_eq_true rfl) (trivial) (K_Mo_block n E S a0 x1 x2 M r M' h)
theorem d_Mo_reamNow_0 : decode (yB Y_Mo_reamNow) 0 = .ok (.iload_n 2, 1) := by decide +kernel
theorem d_Mo_reamNow_1 : decode (yB Y_Mo_reamNow) 1 = .ok (.invokestatic 190, 3) := by decide +kernel
theorem d_Mo_reamNow_4 : decode (yB Y_Mo_reamNow) 4 = .ok (.ifCond .eq 10, 3) := by decide +kernel
theorem d_Mo_reamNow_7 : decode (yB Y_Mo_reamNow) 7 = .ok (.iload_n 1, 1) := by decide +kernel
theorem d_Mo_reamNow_8 : decode (yB Y_Mo_reamNow) 8 = .ok (.invokestatic 194, 3) := by decide +kernel
theorem d_Mo_reamNow_11 : decode (yB Y_Mo_reamNow) 11 = .ok (.ifCond .ne 5, 3) := by decide +kernel
theorem d_Mo_reamNow_14 : decode (yB Y_Mo_reamNow) 14 = .ok (.iconst (-1), 1) := by decide +kernel
theorem d_Mo_reamNow_15 : decode (yB Y_Mo_reamNow) 15 = .ok (.ireturn, 1) := by decide +kernel
theorem d_Mo_reamNow_16 : decode (yB Y_Mo_reamNow) 16 = .ok (.aload_n 0, 1) := by decide +kernel
theorem d_Mo_reamNow_17 : decode (yB Y_Mo_reamNow) 17 = .ok (.getfield 13, 3) := by decide +kernel
theorem d_Mo_reamNow_20 : decode (yB Y_Mo_reamNow) 20 = .ok (.bipush 12, 2) := by decide +kernel
theorem d_Mo_reamNow_22 : decode (yB Y_Mo_reamNow) 22 = .ok (.bipush 8, 2) := by decide +kernel
theorem d_Mo_reamNow_24 : decode (yB Y_Mo_reamNow) 24 = .ok (.iload_n 2, 1) := by decide +kernel
theorem d_Mo_reamNow_25 : decode (yB Y_Mo_reamNow) 25 = .ok (.imul, 1) := by decide +kernel
theorem d_Mo_reamNow_26 : decode (yB Y_Mo_reamNow) 26 = .ok (.iadd, 1) := by decide +kernel
theorem d_Mo_reamNow_27 : decode (yB Y_Mo_reamNow) 27 = .ok (.iload_n 1, 1) := by decide +kernel
theorem d_Mo_reamNow_28 : decode (yB Y_Mo_reamNow) 28 = .ok (.iadd, 1) := by decide +kernel
theorem d_Mo_reamNow_29 : decode (yB Y_Mo_reamNow) 29 = .ok (.iaload, 1) := by decide +kernel
theorem d_Mo_reamNow_30 : decode (yB Y_Mo_reamNow) 30 = .ok (.bipush 9, 2) := by decide +kernel
theorem d_Mo_reamNow_32 : decode (yB Y_Mo_reamNow) 32 = .ok (.if_icmp .ne 6, 3) := by decide +kernel
theorem d_Mo_reamNow_35 : decode (yB Y_Mo_reamNow) 35 = .ok (.bipush (-3), 2) := by decide +kernel
theorem d_Mo_reamNow_37 : decode (yB Y_Mo_reamNow) 37 = .ok (.ireturn, 1) := by decide +kernel
theorem d_Mo_reamNow_38 : decode (yB Y_Mo_reamNow) 38 = .ok (.aload_n 0, 1) := by decide +kernel
theorem d_Mo_reamNow_39 : decode (yB Y_Mo_reamNow) 39 = .ok (.iconst 1, 1) := by decide +kernel
theorem d_Mo_reamNow_40 : decode (yB Y_Mo_reamNow) 40 = .ok (.invokevirtual 445, 3) := by decide +kernel
theorem d_Mo_reamNow_43 : decode (yB Y_Mo_reamNow) 43 = .ok (.aload_n 0, 1) := by decide +kernel
theorem d_Mo_reamNow_44 : decode (yB Y_Mo_reamNow) 44 = .ok (.getfield 13, 3) := by decide +kernel
theorem d_Mo_reamNow_47 : decode (yB Y_Mo_reamNow) 47 = .ok (.bipush 12, 2) := by decide +kernel
theorem d_Mo_reamNow_49 : decode (yB Y_Mo_reamNow) 49 = .ok (.bipush 8, 2) := by decide +kernel
theorem d_Mo_reamNow_51 : decode (yB Y_Mo_reamNow) 51 = .ok (.iload_n 2, 1) := by decide +kernel
theorem d_Mo_reamNow_52 : decode (yB Y_Mo_reamNow) 52 = .ok (.imul, 1) := by decide +kernel
theorem d_Mo_reamNow_53 : decode (yB Y_Mo_reamNow) 53 = .ok (.iadd, 1) := by decide +kernel
theorem d_Mo_reamNow_54 : decode (yB Y_Mo_reamNow) 54 = .ok (.iload_n 1, 1) := by decide +kernel
theorem d_Mo_reamNow_55 : decode (yB Y_Mo_reamNow) 55 = .ok (.iadd, 1) := by decide +kernel
theorem d_Mo_reamNow_56 : decode (yB Y_Mo_reamNow) 56 = .ok (.dup2, 1) := by decide +kernel
theorem d_Mo_reamNow_57 : decode (yB Y_Mo_reamNow) 57 = .ok (.iaload, 1) := by decide +kernel
theorem d_Mo_reamNow_58 : decode (yB Y_Mo_reamNow) 58 = .ok (.iconst 1, 1) := by decide +kernel
theorem d_Mo_reamNow_59 : decode (yB Y_Mo_reamNow) 59 = .ok (.iadd, 1) := by decide +kernel
theorem d_Mo_reamNow_60 : decode (yB Y_Mo_reamNow) 60 = .ok (.iastore, 1) := by decide +kernel
theorem d_Mo_reamNow_61 : decode (yB Y_Mo_reamNow) 61 = .ok (.aload_n 0, 1) := by decide +kernel
theorem d_Mo_reamNow_62 : decode (yB Y_Mo_reamNow) 62 = .ok (.getfield 13, 3) := by decide +kernel
theorem d_Mo_reamNow_65 : decode (yB Y_Mo_reamNow) 65 = .ok (.bipush 12, 2) := by decide +kernel
theorem d_Mo_reamNow_67 : decode (yB Y_Mo_reamNow) 67 = .ok (.bipush 8, 2) := by decide +kernel
theorem d_Mo_reamNow_69 : decode (yB Y_Mo_reamNow) 69 = .ok (.iload_n 2, 1) := by decide +kernel
theorem d_Mo_reamNow_70 : decode (yB Y_Mo_reamNow) 70 = .ok (.imul, 1) := by decide +kernel
theorem d_Mo_reamNow_71 : decode (yB Y_Mo_reamNow) 71 = .ok (.iadd, 1) := by decide +kernel
theorem d_Mo_reamNow_72 : decode (yB Y_Mo_reamNow) 72 = .ok (.iload_n 1, 1) := by decide +kernel
theorem d_Mo_reamNow_73 : decode (yB Y_Mo_reamNow) 73 = .ok (.iadd, 1) := by decide +kernel
theorem d_Mo_reamNow_74 : decode (yB Y_Mo_reamNow) 74 = .ok (.iaload, 1) := by decide +kernel
theorem d_Mo_reamNow_75 : decode (yB Y_Mo_reamNow) 75 = .ok (.ireturn, 1) := by decide +kernel
def F_Mo_reamNow (n : Nat) (E : zE) (S : zS) (a0 : Nat) (x1 : Int32) (x2 : Int32) (M : zH) : Option (Int32 × zH) :=
  (F_Mo_isRing n E S x2 M).bind fun q_1 =>
  if q_1.1 = true then
    (F_Mo_isField n E S x1 q_1.2).bind fun q_3 =>
    if q_3.1 = true then
      (zgR S a0 11 3).bind fun b_5 =>
      (zldI S q_3.2 b_5 ((12 + (8 * x2)) + x1)).bind fun v_6 =>
      if v_6 = 9 then
        some ((-3), q_3.2)
      else
        (F_Mo_remember n E S a0 1 q_3.2).bind fun q_8 =>
        (zldI S q_8 b_5 ((12 + (8 * x2)) + x1)).bind fun v_9 =>
        (zstI S q_8 b_5 ((12 + (8 * x2)) + x1) (v_9 + 1)).bind fun m_10 =>
        (zldI S m_10 b_5 ((12 + (8 * x2)) + x1)).bind fun v_11 =>
        some (v_11, m_10)
    else
      some ((-1), q_3.2)
  else
    some ((-1), q_1.2)
theorem K_Mo_reamNow (n : Nat) (E : zE) (S : zS) (a0 : Nat) (x1 : Int32) (x2 : Int32) (M : zH) (r : Int32) (M' : zH)  (h : F_Mo_reamNow n E S a0 x1 x2 M = some (r, M')) : zG E Y_Mo_reamNow (some (.int r), S, M') 0 [(0, .ref a0), (1, .int x1), (2, .int x2)] [] S M 0 0 := by
  unfold F_Mo_reamNow at h
  refine zi_iload_n 2 d_Mo_reamNow_0 rfl ?_
  obtain ⟨q_1, eq_1, h⟩ := zbind h
  refine zo_stat (k' := 0) (n' := 0) 4 [.int x2] [] [.int (bI q_1.1)] (C_Mo_isRing n E S x2 M q_1.1 q_1.2 eq_1) d_Mo_reamNow_1 tw_1436 tw_1434 tw_1435 tw_13 dd_Mo_isRing ⟨Nat.le_of_ble_eq_true rfl, Nat.le_of_ble_eq_true rfl, Nat.le_of_ble_eq_true rfl, Nat.le_of_ble_eq_true rfl⟩ (Nat.le_of_ble_eq_true rfl) rfl rfl rfl rfl ?_
  refine zo_ifeqB d_Mo_reamNow_4 rfl 7 rfl (fun c_2 => ?_) (fun c_2 => ?_)
  · rw [if_neg c_2] at h
    refine zi_iconst (-1) d_Mo_reamNow_14 rfl ?_
    cases h
    exact zo_ret d_Mo_reamNow_15 (Nat.le_of_ble_eq_true rfl) (Nat.le_of_ble_eq_true rfl) rfl
  · rw [if_pos c_2] at h
    refine zi_iload_n 1 d_Mo_reamNow_7 rfl ?_
    obtain ⟨q_3, eq_3, h⟩ := zbind h
    refine zo_stat (k' := 0) (n' := 0) 11 [.int x1] [] [.int (bI q_3.1)] (C_Mo_isField n E S x1 q_1.2 q_3.1 q_3.2 eq_3) d_Mo_reamNow_8 tw_1440 tw_1438 tw_1439 tw_13 dd_Mo_isField ⟨Nat.le_of_ble_eq_true rfl, Nat.le_of_ble_eq_true rfl, Nat.le_of_ble_eq_true rfl, Nat.le_of_ble_eq_true rfl⟩ (Nat.le_of_ble_eq_true rfl) rfl rfl rfl rfl ?_
    refine zo_ifneB d_Mo_reamNow_11 rfl 14 rfl (fun c_4 => ?_) (fun c_4 => ?_)
    · rw [if_pos c_4] at h
      refine zi_aload_n 0 d_Mo_reamNow_16 rfl ?_
      obtain ⟨b_5, eb_5, h⟩ := zbind h
      refine zo_getR 20 zkd_11 3 d_Mo_reamNow_17 eb_5 rfl tw_1234 rfl ?_
      refine zi_bipush 12 d_Mo_reamNow_20 rfl ?_
      refine zi_bipush 8 d_Mo_reamNow_22 rfl ?_
      refine zi_iload_n 2 d_Mo_reamNow_24 rfl ?_
      refine zi_imul d_Mo_reamNow_25 ?_
      refine zi_iadd d_Mo_reamNow_26 ?_
      refine zi_iload_n 1 d_Mo_reamNow_27 rfl ?_
      refine zi_iadd d_Mo_reamNow_28 ?_
      obtain ⟨v_6, ev_6, h⟩ := zbind h
      refine zo_iald 30 d_Mo_reamNow_29 ev_6 rfl ?_
      refine zi_bipush 9 d_Mo_reamNow_30 rfl ?_
      refine zi_icmp_ne (tgt := 38) d_Mo_reamNow_32 rfl (fun c_7 => ?_) (fun c_7 => ?_)
      · rw [if_neg c_7] at h
        refine zi_aload_n 0 d_Mo_reamNow_38 rfl ?_
        refine zi_iconst 1 d_Mo_reamNow_39 rfl ?_
        obtain ⟨q_8, eq_8, h⟩ := zbind h
        refine zo_virt (k' := 0) (n' := 0) 43 [.int 1] [] [] zkd_11 (zgR_s eb_5).1 (C_Mo_remember n E S a0 1 q_3.2 q_8 eq_8) d_Mo_reamNow_40 tw_1702 tw_1699 tw_1701 ts_79 tw_13 dd_Mo_remember ⟨Nat.le_of_ble_eq_true rfl, Nat.le_of_ble_eq_true rfl, Nat.le_of_ble_eq_true rfl, Nat.le_of_ble_eq_true rfl⟩ (Nat.le_of_ble_eq_true rfl) rfl rfl rfl rfl ?_
        refine zi_aload_n 0 d_Mo_reamNow_43 rfl ?_
        refine zo_getR 47 zkd_11 3 d_Mo_reamNow_44 eb_5 rfl tw_1234 rfl ?_
        refine zi_bipush 12 d_Mo_reamNow_47 rfl ?_
        refine zi_bipush 8 d_Mo_reamNow_49 rfl ?_
        refine zi_iload_n 2 d_Mo_reamNow_51 rfl ?_
        refine zi_imul d_Mo_reamNow_52 ?_
        refine zi_iadd d_Mo_reamNow_53 ?_
        refine zi_iload_n 1 d_Mo_reamNow_54 rfl ?_
        refine zi_iadd d_Mo_reamNow_55 ?_
        refine zi_dup2 d_Mo_reamNow_56 rfl rfl ?_
        obtain ⟨v_9, ev_9, h⟩ := zbind h
        refine zo_iald 58 d_Mo_reamNow_57 ev_9 rfl ?_
        refine zi_iconst 1 d_Mo_reamNow_58 rfl ?_
        refine zi_iadd d_Mo_reamNow_59 ?_
        obtain ⟨m_10, em_10, h⟩ := zbind h
        refine zo_iast 61 d_Mo_reamNow_60 em_10 rfl ?_
        refine zi_aload_n 0 d_Mo_reamNow_61 rfl ?_
        refine zo_getR 65 zkd_11 3 d_Mo_reamNow_62 eb_5 rfl tw_1234 rfl ?_
        refine zi_bipush 12 d_Mo_reamNow_65 rfl ?_
        refine zi_bipush 8 d_Mo_reamNow_67 rfl ?_
        refine zi_iload_n 2 d_Mo_reamNow_69 rfl ?_
        refine zi_imul d_Mo_reamNow_70 ?_
        refine zi_iadd d_Mo_reamNow_71 ?_
        refine zi_iload_n 1 d_Mo_reamNow_72 rfl ?_
        refine zi_iadd d_Mo_reamNow_73 ?_
        obtain ⟨v_11, ev_11, h⟩ := zbind h
        refine zo_iald 75 d_Mo_reamNow_74 ev_11 rfl ?_
        cases h
        exact zo_ret d_Mo_reamNow_75 (Nat.le_of_ble_eq_true rfl) (Nat.le_of_ble_eq_true rfl) rfl
      · rw [if_pos c_7] at h
        refine zi_bipush (-3) d_Mo_reamNow_35 rfl ?_
        cases h
        exact zo_ret d_Mo_reamNow_37 (Nat.le_of_ble_eq_true rfl) (Nat.le_of_ble_eq_true rfl) rfl
    · rw [if_neg c_4] at h
      refine zi_iconst (-1) d_Mo_reamNow_14 rfl ?_
      cases h
      exact zo_ret d_Mo_reamNow_15 (Nat.le_of_ble_eq_true rfl) (Nat.le_of_ble_eq_true rfl) rfl
theorem C_Mo_reamNow (n : Nat) (E : zE) (S : zS) (a0 : Nat) (x1 : Int32) (x2 : Int32) (M : zH) (r : Int32) (M' : zH) (h : F_Mo_reamNow n E S a0 x1 x2 M = some (r, M')) : zC E Y_Mo_reamNow [.ref a0, .int x1, .int x2] S M (some (.int r), S, M') :=
  zC.of (Or.inl (show plainName "NightColanderModel" = true by decide)) (Nat.le_of_ble_eq_true rfl) (trivial) (K_Mo_reamNow n E S a0 x1 x2 M r M' h)
theorem d_Mo_ream_0 : decode (yB Y_Mo_ream) 0 = .ok (.aload_n 0, 1) := by decide +kernel
theorem d_Mo_ream_1 : decode (yB Y_Mo_ream) 1 = .ok (.iconst 0, 1) := by decide +kernel
theorem d_Mo_ream_2 : decode (yB Y_Mo_ream) 2 = .ok (.putfield 156, 3) := by decide +kernel
theorem d_Mo_ream_5 : decode (yB Y_Mo_ream) 5 = .ok (.aload_n 0, 1) := by decide +kernel
theorem d_Mo_ream_6 : decode (yB Y_Mo_ream) 6 = .ok (.aload_n 0, 1) := by decide +kernel
theorem d_Mo_ream_7 : decode (yB Y_Mo_ream) 7 = .ok (.iload_n 1, 1) := by decide +kernel
theorem d_Mo_ream_8 : decode (yB Y_Mo_ream) 8 = .ok (.iload_n 2, 1) := by decide +kernel
theorem d_Mo_ream_9 : decode (yB Y_Mo_ream) 9 = .ok (.invokevirtual 451, 3) := by decide +kernel
theorem d_Mo_ream_12 : decode (yB Y_Mo_ream) 12 = .ok (.invokevirtual 165, 3) := by decide +kernel
theorem d_Mo_ream_15 : decode (yB Y_Mo_ream) 15 = .ok (.ireturn, 1) := by decide +kernel
def F_Mo_ream (n : Nat) (E : zE) (S : zS) (a0 : Nat) (x1 : Int32) (x2 : Int32) (M : zH) : Option (Int32 × zH) :=
  (zpI S M a0 11 0 0).bind fun m_1 =>
  (zck S a0 11).bind fun u_2 =>
  (F_Mo_reamNow n E S a0 x1 x2 m_1).bind fun q_3 =>
  (F_Mo_tell n E S a0 q_3.1 q_3.2).bind fun q_4 =>
  some (q_4.1, q_4.2)
theorem K_Mo_ream (n : Nat) (E : zE) (S : zS) (a0 : Nat) (x1 : Int32) (x2 : Int32) (M : zH) (r : Int32) (M' : zH)  (h : F_Mo_ream n E S a0 x1 x2 M = some (r, M')) : zG E Y_Mo_ream (some (.int r), S, M') 0 [(0, .ref a0), (1, .int x1), (2, .int x2)] [] S M 0 0 := by
  unfold F_Mo_ream at h
  refine zi_aload_n 0 d_Mo_ream_0 rfl ?_
  refine zi_iconst 0 d_Mo_ream_1 rfl ?_
  obtain ⟨m_1, em_1, h⟩ := zbind h
  refine zo_putI 5 zkd_11 0 d_Mo_ream_2 em_1 rfl rfl rfl tw_1231 rfl ?_
  refine zi_aload_n 0 d_Mo_ream_5 rfl ?_
  refine zi_aload_n 0 d_Mo_ream_6 rfl ?_
  refine zi_iload_n 1 d_Mo_ream_7 rfl ?_
  refine zi_iload_n 2 d_Mo_ream_8 rfl ?_
  obtain ⟨u_2, eu_2, h⟩ := zbind h
  obtain ⟨q_3, eq_3, h⟩ := zbind h
  refine zo_virt (k' := 0) (n' := 0) 12 [.int x1, .int x2] [.ref a0] [.int q_3.1, .ref a0] zkd_11 (zck_s eu_2) (C_Mo_reamNow n E S a0 x1 x2 m_1 q_3.1 q_3.2 eq_3) d_Mo_ream_9 tw_1714 tw_1711 tw_1713 ts_81 tw_13 dd_Mo_reamNow ⟨Nat.le_of_ble_eq_true rfl, Nat.le_of_ble_eq_true rfl, Nat.le_of_ble_eq_true rfl, Nat.le_of_ble_eq_true rfl⟩ (Nat.le_of_ble_eq_true rfl) rfl rfl rfl rfl ?_
  obtain ⟨q_4, eq_4, h⟩ := zbind h
  refine zo_virt (k' := 0) (n' := 0) 15 [.int q_3.1] [] [.int q_4.1] zkd_11 (zck_s eu_2) (C_Mo_tell n E S a0 q_3.1 q_3.2 q_4.1 q_4.2 eq_4) d_Mo_ream_12 tw_1410 tw_1407 tw_1409 ts_36 tw_13 dd_Mo_tell ⟨Nat.le_of_ble_eq_true rfl, Nat.le_of_ble_eq_true rfl, Nat.le_of_ble_eq_true rfl, Nat.le_of_ble_eq_true rfl⟩ (Nat.le_of_ble_eq_true rfl) rfl rfl rfl rfl ?_
  cases h
  exact zo_ret d_Mo_ream_15 (Nat.le_of_ble_eq_true rfl) (Nat.le_of_ble_eq_true rfl) rfl
theorem C_Mo_ream (n : Nat) (E : zE) (S : zS) (a0 : Nat) (x1 : Int32) (x2 : Int32) (M : zH) (r : Int32) (M' : zH) (h : F_Mo_ream n E S a0 x1 x2 M = some (r, M')) : zC E Y_Mo_ream [.ref a0, .int x1, .int x2] S M (some (.int r), S, M') :=
  zC.of (Or.inl (show plainName "NightColanderModel" = true by decide)) (Nat.le_of_ble_eq_true rfl) (trivial) (K_Mo_ream n E S a0 x1 x2 M r M' h)
theorem d_Mo_setNow_0 : decode (yB Y_Mo_setNow) 0 = .ok (.iload_n 2, 1) := by decide +kernel
theorem d_Mo_setNow_1 : decode (yB Y_Mo_setNow) 1 = .ok (.invokestatic 194, 3) := by decide +kernel
theorem d_Mo_setNow_4 : decode (yB Y_Mo_setNow) 4 = .ok (.ifCond .ne 5, 3) := by decide +kernel
theorem d_Mo_setNow_7 : decode (yB Y_Mo_setNow) 7 = .ok (.iconst (-1), 1) := by decide +kernel
theorem d_Mo_setNow_8 : decode (yB Y_Mo_setNow) 8 = .ok (.ireturn, 1) := by decide +kernel
theorem d_Mo_setNow_9 : decode (yB Y_Mo_setNow) 9 = .ok (.aload_n 0, 1) := by decide +kernel
theorem d_Mo_setNow_10 : decode (yB Y_Mo_setNow) 10 = .ok (.iload_n 1, 1) := by decide +kernel
theorem d_Mo_setNow_11 : decode (yB Y_Mo_setNow) 11 = .ok (.invokevirtual 214, 3) := by decide +kernel
theorem d_Mo_setNow_14 : decode (yB Y_Mo_setNow) 14 = .ok (.ifCond .ne 6, 3) := by decide +kernel
theorem d_Mo_setNow_17 : decode (yB Y_Mo_setNow) 17 = .ok (.bipush (-2), 2) := by decide +kernel
theorem d_Mo_setNow_19 : decode (yB Y_Mo_setNow) 19 = .ok (.ireturn, 1) := by decide +kernel
theorem d_Mo_setNow_20 : decode (yB Y_Mo_setNow) 20 = .ok (.aload_n 0, 1) := by decide +kernel
theorem d_Mo_setNow_21 : decode (yB Y_Mo_setNow) 21 = .ok (.iload_n 2, 1) := by decide +kernel
theorem d_Mo_setNow_22 : decode (yB Y_Mo_setNow) 22 = .ok (.invokevirtual 211, 3) := by decide +kernel
theorem d_Mo_setNow_25 : decode (yB Y_Mo_setNow) 25 = .ok (.iconst (-1), 1) := by decide +kernel
theorem d_Mo_setNow_26 : decode (yB Y_Mo_setNow) 26 = .ok (.if_icmp .ne 12, 3) := by decide +kernel
theorem d_Mo_setNow_29 : decode (yB Y_Mo_setNow) 29 = .ok (.aload_n 0, 1) := by decide +kernel
theorem d_Mo_setNow_30 : decode (yB Y_Mo_setNow) 30 = .ok (.iload_n 1, 1) := by decide +kernel
theorem d_Mo_setNow_31 : decode (yB Y_Mo_setNow) 31 = .ok (.iload_n 2, 1) := by decide +kernel
theorem d_Mo_setNow_32 : decode (yB Y_Mo_setNow) 32 = .ok (.invokevirtual 225, 3) := by decide +kernel
theorem d_Mo_setNow_35 : decode (yB Y_Mo_setNow) 35 = .ok (.ifCond .eq 6, 3) := by decide +kernel
theorem d_Mo_setNow_38 : decode (yB Y_Mo_setNow) 38 = .ok (.bipush (-3), 2) := by decide +kernel
theorem d_Mo_setNow_40 : decode (yB Y_Mo_setNow) 40 = .ok (.ireturn, 1) := by decide +kernel
theorem d_Mo_setNow_41 : decode (yB Y_Mo_setNow) 41 = .ok (.aload_n 0, 1) := by decide +kernel
theorem d_Mo_setNow_42 : decode (yB Y_Mo_setNow) 42 = .ok (.iconst 2, 1) := by decide +kernel
theorem d_Mo_setNow_43 : decode (yB Y_Mo_setNow) 43 = .ok (.invokevirtual 445, 3) := by decide +kernel
theorem d_Mo_setNow_46 : decode (yB Y_Mo_setNow) 46 = .ok (.aload_n 0, 1) := by decide +kernel
theorem d_Mo_setNow_47 : decode (yB Y_Mo_setNow) 47 = .ok (.getfield 13, 3) := by decide +kernel
theorem d_Mo_setNow_50 : decode (yB Y_Mo_setNow) 50 = .ok (.bipush 51, 2) := by decide +kernel
theorem d_Mo_setNow_52 : decode (yB Y_Mo_setNow) 52 = .ok (.iload_n 1, 1) := by decide +kernel
theorem d_Mo_setNow_53 : decode (yB Y_Mo_setNow) 53 = .ok (.iadd, 1) := by decide +kernel
theorem d_Mo_setNow_54 : decode (yB Y_Mo_setNow) 54 = .ok (.iaload, 1) := by decide +kernel
theorem d_Mo_setNow_55 : decode (yB Y_Mo_setNow) 55 = .ok (.istore_n 3, 1) := by decide +kernel
theorem d_Mo_setNow_56 : decode (yB Y_Mo_setNow) 56 = .ok (.aload_n 0, 1) := by decide +kernel
theorem d_Mo_setNow_57 : decode (yB Y_Mo_setNow) 57 = .ok (.getfield 13, 3) := by decide +kernel
theorem d_Mo_setNow_60 : decode (yB Y_Mo_setNow) 60 = .ok (.bipush 51, 2) := by decide +kernel
theorem d_Mo_setNow_62 : decode (yB Y_Mo_setNow) 62 = .ok (.iload_n 1, 1) := by decide +kernel
theorem d_Mo_setNow_63 : decode (yB Y_Mo_setNow) 63 = .ok (.iadd, 1) := by decide +kernel
theorem d_Mo_setNow_64 : decode (yB Y_Mo_setNow) 64 = .ok (.iload_n 2, 1) := by decide +kernel
theorem d_Mo_setNow_65 : decode (yB Y_Mo_setNow) 65 = .ok (.iastore, 1) := by decide +kernel
theorem d_Mo_setNow_66 : decode (yB Y_Mo_setNow) 66 = .ok (.iload_n 3, 1) := by decide +kernel
theorem d_Mo_setNow_67 : decode (yB Y_Mo_setNow) 67 = .ok (.ireturn, 1) := by decide +kernel
def F_Mo_setNow (n : Nat) (E : zE) (S : zS) (a0 : Nat) (x1 : Int32) (x2 : Int32) (M : zH) : Option (Int32 × zH) :=
  (F_Mo_isField n E S x2 M).bind fun q_1 =>
  if q_1.1 = true then
    (zck S a0 11).bind fun u_3 =>
    (F_Mo_isBucket n E S a0 x1 q_1.2).bind fun q_4 =>
    if q_4.1 = true then
      (F_Mo_bucketAt n E S a0 x2 q_4.2).bind fun q_6 =>
      if q_6.1 = (-1) then
        (F_Mo_isBarred n E S a0 x1 x2 q_6.2).bind fun q_8 =>
        if q_8.1 = true then
          some ((-3), q_8.2)
        else
          (F_Mo_remember n E S a0 2 q_8.2).bind fun q_10 =>
          (zgR S a0 11 3).bind fun b_11 =>
          (zldI S q_10 b_11 (51 + x1)).bind fun v_12 =>
          (zstI S q_10 b_11 (51 + x1) x2).bind fun m_13 =>
          some (v_12, m_13)
      else
        some ((-3), q_6.2)
    else
      some ((-2), q_4.2)
  else
    some ((-1), q_1.2)
theorem K_Mo_setNow (n : Nat) (E : zE) (S : zS) (a0 : Nat) (x1 : Int32) (x2 : Int32) (M : zH) (r : Int32) (M' : zH)  (h : F_Mo_setNow n E S a0 x1 x2 M = some (r, M')) : zG E Y_Mo_setNow (some (.int r), S, M') 0 [(0, .ref a0), (1, .int x1), (2, .int x2)] [] S M 0 0 := by
  unfold F_Mo_setNow at h
  refine zi_iload_n 2 d_Mo_setNow_0 rfl ?_
  obtain ⟨q_1, eq_1, h⟩ := zbind h
  refine zo_stat (k' := 0) (n' := 0) 4 [.int x2] [] [.int (bI q_1.1)] (C_Mo_isField n E S x2 M q_1.1 q_1.2 eq_1) d_Mo_setNow_1 tw_1440 tw_1438 tw_1439 tw_13 dd_Mo_isField ⟨Nat.le_of_ble_eq_true rfl, Nat.le_of_ble_eq_true rfl, Nat.le_of_ble_eq_true rfl, Nat.le_of_ble_eq_true rfl⟩ (Nat.le_of_ble_eq_true rfl) rfl rfl rfl rfl ?_
  refine zo_ifneB d_Mo_setNow_4 rfl 7 rfl (fun c_2 => ?_) (fun c_2 => ?_)
  · rw [if_pos c_2] at h
    refine zi_aload_n 0 d_Mo_setNow_9 rfl ?_
    refine zi_iload_n 1 d_Mo_setNow_10 rfl ?_
    obtain ⟨u_3, eu_3, h⟩ := zbind h
    obtain ⟨q_4, eq_4, h⟩ := zbind h
    refine zo_virt (k' := 0) (n' := 0) 14 [.int x1] [] [.int (bI q_4.1)] zkd_11 (zck_s eu_3) (C_Mo_isBucket n E S a0 x1 q_1.2 q_4.1 q_4.2 eq_4) d_Mo_setNow_11 tw_1465 tw_1462 tw_1464 ts_43 tw_13 dd_Mo_isBucket ⟨Nat.le_of_ble_eq_true rfl, Nat.le_of_ble_eq_true rfl, Nat.le_of_ble_eq_true rfl, Nat.le_of_ble_eq_true rfl⟩ (Nat.le_of_ble_eq_true rfl) rfl rfl rfl rfl ?_
    refine zo_ifneB d_Mo_setNow_14 rfl 17 rfl (fun c_5 => ?_) (fun c_5 => ?_)
    · rw [if_pos c_5] at h
      refine zi_aload_n 0 d_Mo_setNow_20 rfl ?_
      refine zi_iload_n 2 d_Mo_setNow_21 rfl ?_
      obtain ⟨q_6, eq_6, h⟩ := zbind h
      refine zo_virt (k' := 0) (n' := 0) 25 [.int x2] [] [.int q_6.1] zkd_11 (zck_s eu_3) (C_Mo_bucketAt n E S a0 x2 q_4.2 q_6.1 q_6.2 eq_6) d_Mo_setNow_22 tw_1491 tw_1488 tw_1490 ts_46 tw_13 dd_Mo_bucketAt ⟨Nat.le_of_ble_eq_true rfl, Nat.le_of_ble_eq_true rfl, Nat.le_of_ble_eq_true rfl, Nat.le_of_ble_eq_true rfl⟩ (Nat.le_of_ble_eq_true rfl) rfl rfl rfl rfl ?_
      refine zi_iconst (-1) d_Mo_setNow_25 rfl ?_
      refine zi_icmp_ne (tgt := 38) d_Mo_setNow_26 rfl (fun c_7 => ?_) (fun c_7 => ?_)
      · rw [if_neg c_7] at h
        refine zi_bipush (-3) d_Mo_setNow_38 rfl ?_
        cases h
        exact zo_ret d_Mo_setNow_40 (Nat.le_of_ble_eq_true rfl) (Nat.le_of_ble_eq_true rfl) rfl
      · rw [if_pos c_7] at h
        refine zi_aload_n 0 d_Mo_setNow_29 rfl ?_
        refine zi_iload_n 1 d_Mo_setNow_30 rfl ?_
        refine zi_iload_n 2 d_Mo_setNow_31 rfl ?_
        obtain ⟨q_8, eq_8, h⟩ := zbind h
        refine zo_virt (k' := 0) (n' := 0) 35 [.int x1, .int x2] [] [.int (bI q_8.1)] zkd_11 (zck_s eu_3) (C_Mo_isBarred n E S a0 x1 x2 q_6.2 q_8.1 q_8.2 eq_8) d_Mo_setNow_32 tw_1512 tw_1509 tw_1511 ts_50 tw_13 dd_Mo_isBarred ⟨Nat.le_of_ble_eq_true rfl, Nat.le_of_ble_eq_true rfl, Nat.le_of_ble_eq_true rfl, Nat.le_of_ble_eq_true rfl⟩ (Nat.le_of_ble_eq_true rfl) rfl rfl rfl rfl ?_
        refine zo_ifeqB d_Mo_setNow_35 rfl 38 rfl (fun c_9 => ?_) (fun c_9 => ?_)
        · rw [if_neg c_9] at h
          refine zi_aload_n 0 d_Mo_setNow_41 rfl ?_
          refine zi_iconst 2 d_Mo_setNow_42 rfl ?_
          obtain ⟨q_10, eq_10, h⟩ := zbind h
          refine zo_virt (k' := 0) (n' := 0) 46 [.int 2] [] [] zkd_11 (zck_s eu_3) (C_Mo_remember n E S a0 2 q_8.2 q_10 eq_10) d_Mo_setNow_43 tw_1702 tw_1699 tw_1701 ts_79 tw_13 dd_Mo_remember ⟨Nat.le_of_ble_eq_true rfl, Nat.le_of_ble_eq_true rfl, Nat.le_of_ble_eq_true rfl, Nat.le_of_ble_eq_true rfl⟩ (Nat.le_of_ble_eq_true rfl) rfl rfl rfl rfl ?_
          refine zi_aload_n 0 d_Mo_setNow_46 rfl ?_
          obtain ⟨b_11, eb_11, h⟩ := zbind h
          refine zo_getR 50 zkd_11 3 d_Mo_setNow_47 eb_11 rfl tw_1234 rfl ?_
          refine zi_bipush 51 d_Mo_setNow_50 rfl ?_
          refine zi_iload_n 1 d_Mo_setNow_52 rfl ?_
          refine zi_iadd d_Mo_setNow_53 ?_
          obtain ⟨v_12, ev_12, h⟩ := zbind h
          refine zo_iald 55 d_Mo_setNow_54 ev_12 rfl ?_
          refine zi_istore_n [(3, .int v_12), (0, .ref a0), (1, .int x1), (2, .int x2)] d_Mo_setNow_55 (by decide) rfl ?_
          refine zi_aload_n 1 d_Mo_setNow_56 rfl ?_
          refine zo_getR 60 zkd_11 3 d_Mo_setNow_57 eb_11 rfl tw_1234 rfl ?_
          refine zi_bipush 51 d_Mo_setNow_60 rfl ?_
          refine zi_iload_n 2 d_Mo_setNow_62 rfl ?_
          refine zi_iadd d_Mo_setNow_63 ?_
          refine zi_iload_n 3 d_Mo_setNow_64 rfl ?_
          obtain ⟨m_13, em_13, h⟩ := zbind h
          refine zo_iast 66 d_Mo_setNow_65 em_13 rfl ?_
          refine zi_iload_n 0 d_Mo_setNow_66 rfl ?_
          cases h
          exact zo_ret d_Mo_setNow_67 (Nat.le_of_ble_eq_true rfl) (Nat.le_of_ble_eq_true rfl) rfl
        · rw [if_pos c_9] at h
          refine zi_bipush (-3) d_Mo_setNow_38 rfl ?_
          cases h
          exact zo_ret d_Mo_setNow_40 (Nat.le_of_ble_eq_true rfl) (Nat.le_of_ble_eq_true rfl) rfl
    · rw [if_neg c_5] at h
      refine zi_bipush (-2) d_Mo_setNow_17 rfl ?_
      cases h
      exact zo_ret d_Mo_setNow_19 (Nat.le_of_ble_eq_true rfl) (Nat.le_of_ble_eq_true rfl) rfl
  · rw [if_neg c_2] at h
    refine zi_iconst (-1) d_Mo_setNow_7 rfl ?_
    cases h
    exact zo_ret d_Mo_setNow_8 (Nat.le_of_ble_eq_true rfl) (Nat.le_of_ble_eq_true rfl) rfl
theorem C_Mo_setNow (n : Nat) (E : zE) (S : zS) (a0 : Nat) (x1 : Int32) (x2 : Int32) (M : zH) (r : Int32) (M' : zH) (h : F_Mo_setNow n E S a0 x1 x2 M = some (r, M')) : zC E Y_Mo_setNow [.ref a0, .int x1, .int x2] S M (some (.int r), S, M') :=
  zC.of (Or.inl (show plainName "NightColanderModel" = true by decide)) (Nat.le_of_ble_eq_true rfl) (trivial) (K_Mo_setNow n E S a0 x1 x2 M r M' h)
theorem d_Mo_set_0 : decode (yB Y_Mo_set) 0 = .ok (.aload_n 0, 1) := by decide +kernel
theorem d_Mo_set_1 : decode (yB Y_Mo_set) 1 = .ok (.iconst 0, 1) := by decide +kernel
theorem d_Mo_set_2 : decode (yB Y_Mo_set) 2 = .ok (.putfield 156, 3) := by decide +kernel
theorem d_Mo_set_5 : decode (yB Y_Mo_set) 5 = .ok (.aload_n 0, 1) := by decide +kernel
theorem d_Mo_set_6 : decode (yB Y_Mo_set) 6 = .ok (.aload_n 0, 1) := by decide +kernel
theorem d_Mo_set_7 : decode (yB Y_Mo_set) 7 = .ok (.iload_n 1, 1) := by decide +kernel
theorem d_Mo_set_8 : decode (yB Y_Mo_set) 8 = .ok (.iload_n 2, 1) := by decide +kernel
theorem d_Mo_set_9 : decode (yB Y_Mo_set) 9 = .ok (.invokevirtual 454, 3) := by decide +kernel
theorem d_Mo_set_12 : decode (yB Y_Mo_set) 12 = .ok (.invokevirtual 165, 3) := by decide +kernel
theorem d_Mo_set_15 : decode (yB Y_Mo_set) 15 = .ok (.ireturn, 1) := by decide +kernel
def F_Mo_set (n : Nat) (E : zE) (S : zS) (a0 : Nat) (x1 : Int32) (x2 : Int32) (M : zH) : Option (Int32 × zH) :=
  (zpI S M a0 11 0 0).bind fun m_1 =>
  (zck S a0 11).bind fun u_2 =>
  (F_Mo_setNow n E S a0 x1 x2 m_1).bind fun q_3 =>
  (F_Mo_tell n E S a0 q_3.1 q_3.2).bind fun q_4 =>
  some (q_4.1, q_4.2)
theorem K_Mo_set (n : Nat) (E : zE) (S : zS) (a0 : Nat) (x1 : Int32) (x2 : Int32) (M : zH) (r : Int32) (M' : zH)  (h : F_Mo_set n E S a0 x1 x2 M = some (r, M')) : zG E Y_Mo_set (some (.int r), S, M') 0 [(0, .ref a0), (1, .int x1), (2, .int x2)] [] S M 0 0 := by
  unfold F_Mo_set at h
  refine zi_aload_n 0 d_Mo_set_0 rfl ?_
  refine zi_iconst 0 d_Mo_set_1 rfl ?_
  obtain ⟨m_1, em_1, h⟩ := zbind h
  refine zo_putI 5 zkd_11 0 d_Mo_set_2 em_1 rfl rfl rfl tw_1231 rfl ?_
  refine zi_aload_n 0 d_Mo_set_5 rfl ?_
  refine zi_aload_n 0 d_Mo_set_6 rfl ?_
  refine zi_iload_n 1 d_Mo_set_7 rfl ?_
  refine zi_iload_n 2 d_Mo_set_8 rfl ?_
  obtain ⟨u_2, eu_2, h⟩ := zbind h
  obtain ⟨q_3, eq_3, h⟩ := zbind h
  refine zo_virt (k' := 0) (n' := 0) 12 [.int x1, .int x2] [.ref a0] [.int q_3.1, .ref a0] zkd_11 (zck_s eu_2) (C_Mo_setNow n E S a0 x1 x2 m_1 q_3.1 q_3.2 eq_3) d_Mo_set_9 tw_1722 tw_1719 tw_1721 ts_82 tw_13 dd_Mo_setNow ⟨Nat.le_of_ble_eq_true rfl, Nat.le_of_ble_eq_true rfl, Nat.le_of_ble_eq_true rfl, Nat.le_of_ble_eq_true rfl⟩ (Nat.le_of_ble_eq_true rfl) rfl rfl rfl rfl ?_
  obtain ⟨q_4, eq_4, h⟩ := zbind h
  refine zo_virt (k' := 0) (n' := 0) 15 [.int q_3.1] [] [.int q_4.1] zkd_11 (zck_s eu_2) (C_Mo_tell n E S a0 q_3.1 q_3.2 q_4.1 q_4.2 eq_4) d_Mo_set_12 tw_1410 tw_1407 tw_1409 ts_36 tw_13 dd_Mo_tell ⟨Nat.le_of_ble_eq_true rfl, Nat.le_of_ble_eq_true rfl, Nat.le_of_ble_eq_true rfl, Nat.le_of_ble_eq_true rfl⟩ (Nat.le_of_ble_eq_true rfl) rfl rfl rfl rfl ?_
  cases h
  exact zo_ret d_Mo_set_15 (Nat.le_of_ble_eq_true rfl) (Nat.le_of_ble_eq_true rfl) rfl
theorem C_Mo_set (n : Nat) (E : zE) (S : zS) (a0 : Nat) (x1 : Int32) (x2 : Int32) (M : zH) (r : Int32) (M' : zH) (h : F_Mo_set n E S a0 x1 x2 M = some (r, M')) : zC E Y_Mo_set [.ref a0, .int x1, .int x2] S M (some (.int r), S, M') :=
  zC.of (Or.inl (show plainName "NightColanderModel" = true by decide)) (Nat.le_of_ble_eq_true rfl) (trivial) (K_Mo_set n E S a0 x1 x2 M r M' h)
theorem d_Mo_catchIn_0 : decode (yB Y_Mo_catchIn) 0 = .ok (.aload_n 0, 1) := by decide +kernel
theorem d_Mo_catchIn_1 : decode (yB Y_Mo_catchIn) 1 = .ok (.getfield 13, 3) := by decide +kernel
theorem d_Mo_catchIn_4 : decode (yB Y_Mo_catchIn) 4 = .ok (.bipush 54, 2) := by decide +kernel
theorem d_Mo_catchIn_6 : decode (yB Y_Mo_catchIn) 6 = .ok (.iload_n 1, 1) := by decide +kernel
theorem d_Mo_catchIn_7 : decode (yB Y_Mo_catchIn) 7 = .ok (.iadd, 1) := by decide +kernel
theorem d_Mo_catchIn_8 : decode (yB Y_Mo_catchIn) 8 = .ok (.iaload, 1) := by decide +kernel
theorem d_Mo_catchIn_9 : decode (yB Y_Mo_catchIn) 9 = .ok (.aload_n 0, 1) := by decide +kernel
theorem d_Mo_catchIn_10 : decode (yB Y_Mo_catchIn) 10 = .ok (.getfield 13, 3) := by decide +kernel
theorem d_Mo_catchIn_13 : decode (yB Y_Mo_catchIn) 13 = .ok (.bipush 48, 2) := by decide +kernel
theorem d_Mo_catchIn_15 : decode (yB Y_Mo_catchIn) 15 = .ok (.iload_n 1, 1) := by decide +kernel
theorem d_Mo_catchIn_16 : decode (yB Y_Mo_catchIn) 16 = .ok (.iadd, 1) := by decide +kernel
theorem d_Mo_catchIn_17 : decode (yB Y_Mo_catchIn) 17 = .ok (.iaload, 1) := by decide +kernel
theorem d_Mo_catchIn_18 : decode (yB Y_Mo_catchIn) 18 = .ok (.isub, 1) := by decide +kernel
theorem d_Mo_catchIn_19 : decode (yB Y_Mo_catchIn) 19 = .ok (.istore_n 3, 1) := by decide +kernel
theorem d_Mo_catchIn_20 : decode (yB Y_Mo_catchIn) 20 = .ok (.iload_n 2, 1) := by decide +kernel
theorem d_Mo_catchIn_21 : decode (yB Y_Mo_catchIn) 21 = .ok (.iload_n 3, 1) := by decide +kernel
theorem d_Mo_catchIn_22 : decode (yB Y_Mo_catchIn) 22 = .ok (.if_icmp .ge 7, 3) := by decide +kernel
theorem d_Mo_catchIn_25 : decode (yB Y_Mo_catchIn) 25 = .ok (.iload_n 2, 1) := by decide +kernel
theorem d_Mo_catchIn_26 : decode (yB Y_Mo_catchIn) 26 = .ok (.goto 4, 3) := by decide +kernel
theorem d_Mo_catchIn_29 : decode (yB Y_Mo_catchIn) 29 = .ok (.iload_n 3, 1) := by decide +kernel
theorem d_Mo_catchIn_30 : decode (yB Y_Mo_catchIn) 30 = .ok (.istore 4, 2) := by decide +kernel
theorem d_Mo_catchIn_32 : decode (yB Y_Mo_catchIn) 32 = .ok (.aload_n 0, 1) := by decide +kernel
theorem d_Mo_catchIn_33 : decode (yB Y_Mo_catchIn) 33 = .ok (.getfield 13, 3) := by decide +kernel
theorem d_Mo_catchIn_36 : decode (yB Y_Mo_catchIn) 36 = .ok (.bipush 48, 2) := by decide +kernel
theorem d_Mo_catchIn_38 : decode (yB Y_Mo_catchIn) 38 = .ok (.iload_n 1, 1) := by decide +kernel
theorem d_Mo_catchIn_39 : decode (yB Y_Mo_catchIn) 39 = .ok (.iadd, 1) := by decide +kernel
theorem d_Mo_catchIn_40 : decode (yB Y_Mo_catchIn) 40 = .ok (.dup2, 1) := by decide +kernel
theorem d_Mo_catchIn_41 : decode (yB Y_Mo_catchIn) 41 = .ok (.iaload, 1) := by decide +kernel
theorem d_Mo_catchIn_42 : decode (yB Y_Mo_catchIn) 42 = .ok (.iload 4, 2) := by decide +kernel
theorem d_Mo_catchIn_44 : decode (yB Y_Mo_catchIn) 44 = .ok (.iadd, 1) := by decide +kernel
theorem d_Mo_catchIn_45 : decode (yB Y_Mo_catchIn) 45 = .ok (.iastore, 1) := by decide +kernel
theorem d_Mo_catchIn_46 : decode (yB Y_Mo_catchIn) 46 = .ok (.aload_n 0, 1) := by decide +kernel
theorem d_Mo_catchIn_47 : decode (yB Y_Mo_catchIn) 47 = .ok (.getfield 13, 3) := by decide +kernel
theorem d_Mo_catchIn_50 : decode (yB Y_Mo_catchIn) 50 = .ok (.bipush 48, 2) := by decide +kernel
theorem d_Mo_catchIn_52 : decode (yB Y_Mo_catchIn) 52 = .ok (.iload_n 1, 1) := by decide +kernel
theorem d_Mo_catchIn_53 : decode (yB Y_Mo_catchIn) 53 = .ok (.iadd, 1) := by decide +kernel
theorem d_Mo_catchIn_54 : decode (yB Y_Mo_catchIn) 54 = .ok (.aload_n 0, 1) := by decide +kernel
theorem d_Mo_catchIn_55 : decode (yB Y_Mo_catchIn) 55 = .ok (.getfield 13, 3) := by decide +kernel
theorem d_Mo_catchIn_58 : decode (yB Y_Mo_catchIn) 58 = .ok (.bipush 48, 2) := by decide +kernel
theorem d_Mo_catchIn_60 : decode (yB Y_Mo_catchIn) 60 = .ok (.iload_n 1, 1) := by decide +kernel
theorem d_Mo_catchIn_61 : decode (yB Y_Mo_catchIn) 61 = .ok (.iadd, 1) := by decide +kernel
theorem d_Mo_catchIn_62 : decode (yB Y_Mo_catchIn) 62 = .ok (.iaload, 1) := by decide +kernel
theorem d_Mo_catchIn_63 : decode (yB Y_Mo_catchIn) 63 = .ok (.aload_n 0, 1) := by decide +kernel
theorem d_Mo_catchIn_64 : decode (yB Y_Mo_catchIn) 64 = .ok (.iload_n 1, 1) := by decide +kernel
theorem d_Mo_catchIn_65 : decode (yB Y_Mo_catchIn) 65 = .ok (.invokevirtual 219, 3) := by decide +kernel
theorem d_Mo_catchIn_68 : decode (yB Y_Mo_catchIn) 68 = .ok (.isub, 1) := by decide +kernel
theorem d_Mo_catchIn_69 : decode (yB Y_Mo_catchIn) 69 = .ok (.i2l, 1) := by decide +kernel
theorem d_Mo_catchIn_70 : decode (yB Y_Mo_catchIn) 70 = .ok (.iconst 0, 1) := by decide +kernel
theorem d_Mo_catchIn_71 : decode (yB Y_Mo_catchIn) 71 = .ok (.bipush 99, 2) := by decide +kernel
theorem d_Mo_catchIn_73 : decode (yB Y_Mo_catchIn) 73 = .ok (.invokestatic 435, 3) := by decide +kernel
theorem d_Mo_catchIn_76 : decode (yB Y_Mo_catchIn) 76 = .ok (.iastore, 1) := by decide +kernel
theorem d_Mo_catchIn_77 : decode (yB Y_Mo_catchIn) 77 = .ok (.iload 4, 2) := by decide +kernel
theorem d_Mo_catchIn_79 : decode (yB Y_Mo_catchIn) 79 = .ok (.ireturn, 1) := by decide +kernel
def F_Mo_catchIn_b30 (n : Nat) (E : zE) (S : zS) (a0 : Nat) (x1 : Int32) (s0 : Int32) (M : zH) : Option (Int32 × zH) :=
  (zgR S a0 11 3).bind fun b_1 =>
  (zldI S M b_1 (48 + x1)).bind fun v_2 =>
  (zstI S M b_1 (48 + x1) (v_2 + s0)).bind fun m_3 =>
  (zldI S m_3 b_1 (48 + x1)).bind fun v_4 =>
  (F_Mo_leaksOf n E S a0 x1 m_3).bind fun q_5 =>
  (F_Mo_within n E S ((v_4 - q_5.1).toInt64) 0 99 q_5.2).bind fun q_6 =>
  (zstI S q_6.2 b_1 (48 + x1) q_6.1).bind fun m_7 =>
  some (s0, m_7)
def F_Mo_catchIn (n : Nat) (E : zE) (S : zS) (a0 : Nat) (x1 : Int32) (x2 : Int32) (M : zH) : Option (Int32 × zH) :=
  (zgR S a0 11 3).bind fun b_8 =>
  (zldI S M b_8 (54 + x1)).bind fun v_9 =>
  (zldI S M b_8 (48 + x1)).bind fun v_10 =>
  if (v_9 - v_10) ≤ x2 then
    F_Mo_catchIn_b30 n E S a0 x1 (v_9 - v_10) M
  else
    F_Mo_catchIn_b30 n E S a0 x1 x2 M
theorem K_Mo_catchIn_b30 (n : Nat) (E : zE) (S : zS) (a0 : Nat) (x1 : Int32) (s0 : Int32) (M : zH) (r : Int32) (M' : zH)  (h : F_Mo_catchIn_b30 n E S a0 x1 s0 M = some (r, M')) : zG E Y_Mo_catchIn (some (.int r), S, M') 30 [(0, .ref a0), (1, .int x1)] [.int s0] S M 0 0 := by
  unfold F_Mo_catchIn_b30 at h
  refine zi_istore [(4, .int s0), (0, .ref a0), (1, .int x1)] d_Mo_catchIn_30 (by decide) rfl ?_
  refine zi_aload_n 1 d_Mo_catchIn_32 rfl ?_
  obtain ⟨b_1, eb_1, h⟩ := zbind h
  refine zo_getR 36 zkd_11 3 d_Mo_catchIn_33 eb_1 rfl tw_1234 rfl ?_
  refine zi_bipush 48 d_Mo_catchIn_36 rfl ?_
  refine zi_iload_n 2 d_Mo_catchIn_38 rfl ?_
  refine zi_iadd d_Mo_catchIn_39 ?_
  refine zi_dup2 d_Mo_catchIn_40 rfl rfl ?_
  obtain ⟨v_2, ev_2, h⟩ := zbind h
  refine zo_iald 42 d_Mo_catchIn_41 ev_2 rfl ?_
  refine zi_iload 0 d_Mo_catchIn_42 rfl ?_
  refine zi_iadd d_Mo_catchIn_44 ?_
  obtain ⟨m_3, em_3, h⟩ := zbind h
  refine zo_iast 46 d_Mo_catchIn_45 em_3 rfl ?_
  refine zi_aload_n 1 d_Mo_catchIn_46 rfl ?_
  refine zo_getR 50 zkd_11 3 d_Mo_catchIn_47 eb_1 rfl tw_1234 rfl ?_
  refine zi_bipush 48 d_Mo_catchIn_50 rfl ?_
  refine zi_iload_n 2 d_Mo_catchIn_52 rfl ?_
  refine zi_iadd d_Mo_catchIn_53 ?_
  refine zi_aload_n 1 d_Mo_catchIn_54 rfl ?_
  refine zo_getR 58 zkd_11 3 d_Mo_catchIn_55 eb_1 rfl tw_1234 rfl ?_
  refine zi_bipush 48 d_Mo_catchIn_58 rfl ?_
  refine zi_iload_n 2 d_Mo_catchIn_60 rfl ?_
  refine zi_iadd d_Mo_catchIn_61 ?_
  obtain ⟨v_4, ev_4, h⟩ := zbind h
  refine zo_iald 63 d_Mo_catchIn_62 ev_4 rfl ?_
  refine zi_aload_n 1 d_Mo_catchIn_63 rfl ?_
  refine zi_iload_n 2 d_Mo_catchIn_64 rfl ?_
  obtain ⟨q_5, eq_5, h⟩ := zbind h
  refine zo_virt (k' := 0) (n' := 0) 68 [.int x1] [.int v_4, .int (48 + x1), .ref b_1] [.int q_5.1, .int v_4, .int (48 + x1), .ref b_1] zkd_11 (zgR_s eb_1).1 (C_Mo_leaksOf n E S a0 x1 m_3 q_5.1 q_5.2 eq_5) d_Mo_catchIn_65 tw_1500 tw_1497 tw_1499 ts_47 tw_13 dd_Mo_leaksOf ⟨Nat.le_of_ble_eq_true rfl, Nat.le_of_ble_eq_true rfl, Nat.le_of_ble_eq_true rfl, Nat.le_of_ble_eq_true rfl⟩ (Nat.le_of_ble_eq_true rfl) rfl rfl rfl rfl ?_
  refine zi_isub d_Mo_catchIn_68 ?_
  refine zi_i2l d_Mo_catchIn_69 ?_
  refine zi_iconst 0 d_Mo_catchIn_70 rfl ?_
  refine zi_bipush 99 d_Mo_catchIn_71 rfl ?_
  obtain ⟨q_6, eq_6, h⟩ := zbind h
  refine zo_stat (k' := 0) (n' := 0) 76 [.long ((v_4 - q_5.1).toInt64), .int 0, .int 99] [.int (48 + x1), .ref b_1] [.int q_6.1, .int (48 + x1), .ref b_1] (C_Mo_within n E S ((v_4 - q_5.1).toInt64) 0 99 q_5.2 q_6.1 q_6.2 eq_6) d_Mo_catchIn_73 tw_1474 tw_1472 tw_1473 tw_13 dd_Mo_within ⟨Nat.le_of_ble_eq_true rfl, Nat.le_of_ble_eq_true rfl, Nat.le_of_ble_eq_true rfl, Nat.le_of_ble_eq_true rfl⟩ (Nat.le_of_ble_eq_true rfl) rfl rfl rfl rfl ?_
  obtain ⟨m_7, em_7, h⟩ := zbind h
  refine zo_iast 77 d_Mo_catchIn_76 em_7 rfl ?_
  refine zi_iload 0 d_Mo_catchIn_77 rfl ?_
  cases h
  exact zo_ret d_Mo_catchIn_79 (Nat.le_of_ble_eq_true rfl) (Nat.le_of_ble_eq_true rfl) rfl
theorem K_Mo_catchIn (n : Nat) (E : zE) (S : zS) (a0 : Nat) (x1 : Int32) (x2 : Int32) (M : zH) (r : Int32) (M' : zH)  (h : F_Mo_catchIn n E S a0 x1 x2 M = some (r, M')) : zG E Y_Mo_catchIn (some (.int r), S, M') 0 [(0, .ref a0), (1, .int x1), (2, .int x2)] [] S M 0 0 := by
  unfold F_Mo_catchIn at h
  refine zi_aload_n 0 d_Mo_catchIn_0 rfl ?_
  obtain ⟨b_8, eb_8, h⟩ := zbind h
  refine zo_getR 4 zkd_11 3 d_Mo_catchIn_1 eb_8 rfl tw_1234 rfl ?_
  refine zi_bipush 54 d_Mo_catchIn_4 rfl ?_
  refine zi_iload_n 1 d_Mo_catchIn_6 rfl ?_
  refine zi_iadd d_Mo_catchIn_7 ?_
  obtain ⟨v_9, ev_9, h⟩ := zbind h
  refine zo_iald 9 d_Mo_catchIn_8 ev_9 rfl ?_
  refine zi_aload_n 0 d_Mo_catchIn_9 rfl ?_
  refine zo_getR 13 zkd_11 3 d_Mo_catchIn_10 eb_8 rfl tw_1234 rfl ?_
  refine zi_bipush 48 d_Mo_catchIn_13 rfl ?_
  refine zi_iload_n 1 d_Mo_catchIn_15 rfl ?_
  refine zi_iadd d_Mo_catchIn_16 ?_
  obtain ⟨v_10, ev_10, h⟩ := zbind h
  refine zo_iald 18 d_Mo_catchIn_17 ev_10 rfl ?_
  refine zi_isub d_Mo_catchIn_18 ?_
  refine zi_istore_n [(3, .int (v_9 - v_10)), (0, .ref a0), (1, .int x1), (2, .int x2)] d_Mo_catchIn_19 (by decide) rfl ?_
  refine zi_iload_n 3 d_Mo_catchIn_20 rfl ?_
  refine zi_iload_n 0 d_Mo_catchIn_21 rfl ?_
  refine zi_icmp_ge (tgt := 29) d_Mo_catchIn_22 rfl (fun c_11 => ?_) (fun c_11 => ?_)
  · rw [if_pos c_11] at h
    refine zi_iload_n 0 d_Mo_catchIn_29 rfl ?_
    refine zi_lo [(0, .ref a0), (1, .int x1)] [1, 2] rfl ?_
    exact K_Mo_catchIn_b30 n E S a0 x1 (v_9 - v_10) M r M'  h
  · rw [if_neg c_11] at h
    refine zi_iload_n 3 d_Mo_catchIn_25 rfl ?_
    refine zi_goto (tgt := 30) d_Mo_catchIn_26 rfl ?_
    refine zi_lo [(0, .ref a0), (1, .int x1)] [1, 2] rfl ?_
    exact K_Mo_catchIn_b30 n E S a0 x1 x2 M r M'  h
theorem C_Mo_catchIn (n : Nat) (E : zE) (S : zS) (a0 : Nat) (x1 : Int32) (x2 : Int32) (M : zH) (r : Int32) (M' : zH) (h : F_Mo_catchIn n E S a0 x1 x2 M = some (r, M')) : zC E Y_Mo_catchIn [.ref a0, .int x1, .int x2] S M (some (.int r), S, M') :=
  zC.of (Or.inl (show plainName "NightColanderModel" = true by decide)) (Nat.le_of_ble_eq_true rfl) (trivial) (K_Mo_catchIn n E S a0 x1 x2 M r M' h)
theorem d_Mo_layFlow_0 : decode (yB Y_Mo_layFlow) 0 = .ok (.iconst 0, 1) := by decide +kernel
theorem d_Mo_layFlow_1 : decode (yB Y_Mo_layFlow) 1 = .ok (.istore_n 1, 1) := by decide +kernel
theorem d_Mo_layFlow_2 : decode (yB Y_Mo_layFlow) 2 = .ok (.iload_n 1, 1) := by decide +kernel
theorem d_Mo_layFlow_3 : decode (yB Y_Mo_layFlow) 3 = .ok (.bipush 8, 2) := by decide +kernel
theorem d_Mo_layFlow_5 : decode (yB Y_Mo_layFlow) 5 = .ok (.if_icmp .ge 20, 3) := by decide +kernel
theorem d_Mo_layFlow_8 : decode (yB Y_Mo_layFlow) 8 = .ok (.aload_n 0, 1) := by decide +kernel
theorem d_Mo_layFlow_9 : decode (yB Y_Mo_layFlow) 9 = .ok (.getfield 112, 3) := by decide +kernel
theorem d_Mo_layFlow_12 : decode (yB Y_Mo_layFlow) 12 = .ok (.iload_n 1, 1) := by decide +kernel
theorem d_Mo_layFlow_13 : decode (yB Y_Mo_layFlow) 13 = .ok (.aload_n 0, 1) := by decide +kernel
theorem d_Mo_layFlow_14 : decode (yB Y_Mo_layFlow) 14 = .ok (.iload_n 1, 1) := by decide +kernel
theorem d_Mo_layFlow_15 : decode (yB Y_Mo_layFlow) 15 = .ok (.invokevirtual 232, 3) := by decide +kernel
theorem d_Mo_layFlow_18 : decode (yB Y_Mo_layFlow) 18 = .ok (.iastore, 1) := by decide +kernel
theorem d_Mo_layFlow_19 : decode (yB Y_Mo_layFlow) 19 = .ok (.iinc 1 1, 3) := by decide +kernel
theorem d_Mo_layFlow_22 : decode (yB Y_Mo_layFlow) 22 = .ok (.goto (-20), 3) := by decide +kernel
theorem d_Mo_layFlow_25 : decode (yB Y_Mo_layFlow) 25 = .ok (.return_, 1) := by decide +kernel
def F_Mo_layFlow_L2 (n : Nat) (E : zE) (S : zS) (r2 : Nat × Int32 × zH → Option (zH)) (a0 : Nat) (x1 : Int32) (M : zH) : Option (zH) :=
  if 8 ≤ x1 then
    some (M)
  else
    (zgR S a0 11 41).bind fun b_2 =>
    (F_Mo_flowOn n E S a0 x1 M).bind fun q_3 =>
    (zstI S q_3.2 b_2 x1 q_3.1).bind fun m_4 =>
    r2 (a0, x1 + 1, m_4)
def F_Mo_layFlow_b2 (n : Nat) (E : zE) (S : zS) : Nat × Int32 × zH → Option (zH) := zfix (fun r2 s => F_Mo_layFlow_L2 n E S r2 s.1 s.2.1 s.2.2) n
def F_Mo_layFlow (n : Nat) (E : zE) (S : zS) (a0 : Nat) (M : zH) : Option (zH) :=
  F_Mo_layFlow_b2 n E S (a0, 0, M)
theorem K_Mo_layFlow_L2 (n : Nat) (E : zE) (S : zS) (r2 : Nat × Int32 × zH → Option (zH)) (a0 : Nat) (x1 : Int32) (M : zH) (M' : zH) (hr2 : ∀ (a0 : Nat) (x1 : Int32) (M : zH), r2 (a0, x1, M) = some M' → zG E Y_Mo_layFlow (none, S, M') 2 [(0, .ref a0), (1, .int x1)] [] S M 0 0) (h : F_Mo_layFlow_L2 n E S r2 a0 x1 M = some M') : zG E Y_Mo_layFlow (none, S, M') 2 [(0, .ref a0), (1, .int x1)] [] S M 0 0 := by
  unfold F_Mo_layFlow_L2 at h
  refine zi_iload_n 1 d_Mo_layFlow_2 rfl ?_
  refine zi_bipush 8 d_Mo_layFlow_3 rfl ?_
  refine zi_icmp_ge (tgt := 25) d_Mo_layFlow_5 rfl (fun c_1 => ?_) (fun c_1 => ?_)
  · rw [if_pos c_1] at h
    cases h
    exact zo_ret d_Mo_layFlow_25 (Nat.le_of_ble_eq_true rfl) (Nat.le_of_ble_eq_true rfl) rfl
  · rw [if_neg c_1] at h
    refine zi_aload_n 0 d_Mo_layFlow_8 rfl ?_
    obtain ⟨b_2, eb_2, h⟩ := zbind h
    refine zo_getR 12 zkd_11 41 d_Mo_layFlow_9 eb_2 rfl tw_1272 rfl ?_
    refine zi_iload_n 1 d_Mo_layFlow_12 rfl ?_
    refine zi_aload_n 0 d_Mo_layFlow_13 rfl ?_
    refine zi_iload_n 1 d_Mo_layFlow_14 rfl ?_
    obtain ⟨q_3, eq_3, h⟩ := zbind h
    refine zo_virt (k' := 0) (n' := 0) 18 [.int x1] [.int x1, .ref b_2] [.int q_3.1, .int x1, .ref b_2] zkd_11 (zgR_s eb_2).1 (C_Mo_flowOn n E S a0 x1 M q_3.1 q_3.2 eq_3) d_Mo_layFlow_15 tw_1525 tw_1522 tw_1524 ts_51 tw_13 dd_Mo_flowOn ⟨Nat.le_of_ble_eq_true rfl, Nat.le_of_ble_eq_true rfl, Nat.le_of_ble_eq_true rfl, Nat.le_of_ble_eq_true rfl⟩ (Nat.le_of_ble_eq_true rfl) rfl rfl rfl rfl ?_
    obtain ⟨m_4, em_4, h⟩ := zbind h
    refine zo_iast 19 d_Mo_layFlow_18 em_4 rfl ?_
    refine zi_iinc 1 (x1 + 1) [(1, .int (x1 + 1)), (0, .ref a0)] d_Mo_layFlow_19 rfl rfl (by decide) rfl ?_
    refine zi_goto (tgt := 2) d_Mo_layFlow_22 rfl ?_
    refine zi_lo [(0, .ref a0), (1, .int (x1 + 1))] [1, 0] rfl ?_
    exact hr2 a0 (x1 + 1) m_4 h
theorem K_Mo_layFlow_b2 (n : Nat) (E : zE) (S : zS) (a0 : Nat) (x1 : Int32) (M : zH) (M' : zH)  (h : F_Mo_layFlow_b2 n E S (a0, x1, M) = some M') : zG E Y_Mo_layFlow (none, S, M') 2 [(0, .ref a0), (1, .int x1)] [] S M 0 0 := by
  have key : ∀ (k : Nat) (a0 : Nat) (x1 : Int32) (M : zH), zfix (fun r2 s => F_Mo_layFlow_L2 n E S r2 s.1 s.2.1 s.2.2) k (a0, x1, M) = some M' → zG E Y_Mo_layFlow (none, S, M') 2 [(0, .ref a0), (1, .int x1)] [] S M 0 0 := by
    intro k
    induction k with
    | zero => intro a0 x1 M h; cases h
    | succ k ih => intro a0 x1 M h; exact K_Mo_layFlow_L2 n E S _ a0 x1 M M'  (fun a0 x1 M h => ih a0 x1 M h) h
  exact key n a0 x1 M h
theorem K_Mo_layFlow (n : Nat) (E : zE) (S : zS) (a0 : Nat) (M : zH) (M' : zH)  (h : F_Mo_layFlow n E S a0 M = some M') : zG E Y_Mo_layFlow (none, S, M') 0 [(0, .ref a0)] [] S M 0 0 := by
  unfold F_Mo_layFlow at h
  refine zi_iconst 0 d_Mo_layFlow_0 rfl ?_
  refine zi_istore_n [(1, .int 0), (0, .ref a0)] d_Mo_layFlow_1 (by decide) rfl ?_
  refine zi_lo [(0, .ref a0), (1, .int 0)] [1, 0] rfl ?_
  exact K_Mo_layFlow_b2 n E S a0 0 M M'  h
theorem C_Mo_layFlow (n : Nat) (E : zE) (S : zS) (a0 : Nat) (M : zH) (M' : zH) (h : F_Mo_layFlow n E S a0 M = some M') : zC E Y_Mo_layFlow [.ref a0] S M (none, S, M') :=
  zC.of (Or.inl (show plainName "NightColanderModel" = true by decide)) (Nat.le_of_ble_eq_true rfl) (trivial) (K_Mo_layFlow n E S a0 M M' h)
theorem d_Mo_turnAll_0 : decode (yB Y_Mo_turnAll) 0 = .ok (.iconst 0, 1) := by decide +kernel
theorem d_Mo_turnAll_1 : decode (yB Y_Mo_turnAll) 1 = .ok (.istore_n 1, 1) := by decide +kernel
theorem d_Mo_turnAll_2 : decode (yB Y_Mo_turnAll) 2 = .ok (.iload_n 1, 1) := by decide +kernel
theorem d_Mo_turnAll_3 : decode (yB Y_Mo_turnAll) 3 = .ok (.iconst 4, 1) := by decide +kernel
theorem d_Mo_turnAll_4 : decode (yB Y_Mo_turnAll) 4 = .ok (.if_icmp .ge 34, 3) := by decide +kernel
theorem d_Mo_turnAll_7 : decode (yB Y_Mo_turnAll) 7 = .ok (.aload_n 0, 1) := by decide +kernel
theorem d_Mo_turnAll_8 : decode (yB Y_Mo_turnAll) 8 = .ok (.getfield 13, 3) := by decide +kernel
theorem d_Mo_turnAll_11 : decode (yB Y_Mo_turnAll) 11 = .ok (.bipush 8, 2) := by decide +kernel
theorem d_Mo_turnAll_13 : decode (yB Y_Mo_turnAll) 13 = .ok (.iload_n 1, 1) := by decide +kernel
theorem d_Mo_turnAll_14 : decode (yB Y_Mo_turnAll) 14 = .ok (.iadd, 1) := by decide +kernel
theorem d_Mo_turnAll_15 : decode (yB Y_Mo_turnAll) 15 = .ok (.aload_n 0, 1) := by decide +kernel
theorem d_Mo_turnAll_16 : decode (yB Y_Mo_turnAll) 16 = .ok (.getfield 13, 3) := by decide +kernel
theorem d_Mo_turnAll_19 : decode (yB Y_Mo_turnAll) 19 = .ok (.bipush 8, 2) := by decide +kernel
theorem d_Mo_turnAll_21 : decode (yB Y_Mo_turnAll) 21 = .ok (.iload_n 1, 1) := by decide +kernel
theorem d_Mo_turnAll_22 : decode (yB Y_Mo_turnAll) 22 = .ok (.iadd, 1) := by decide +kernel
theorem d_Mo_turnAll_23 : decode (yB Y_Mo_turnAll) 23 = .ok (.iaload, 1) := by decide +kernel
theorem d_Mo_turnAll_24 : decode (yB Y_Mo_turnAll) 24 = .ok (.iload_n 1, 1) := by decide +kernel
theorem d_Mo_turnAll_25 : decode (yB Y_Mo_turnAll) 25 = .ok (.iadd, 1) := by decide +kernel
theorem d_Mo_turnAll_26 : decode (yB Y_Mo_turnAll) 26 = .ok (.iconst 1, 1) := by decide +kernel
theorem d_Mo_turnAll_27 : decode (yB Y_Mo_turnAll) 27 = .ok (.iadd, 1) := by decide +kernel
theorem d_Mo_turnAll_28 : decode (yB Y_Mo_turnAll) 28 = .ok (.bipush 8, 2) := by decide +kernel
theorem d_Mo_turnAll_30 : decode (yB Y_Mo_turnAll) 30 = .ok (.irem, 1) := by decide +kernel
theorem d_Mo_turnAll_31 : decode (yB Y_Mo_turnAll) 31 = .ok (.iastore, 1) := by decide +kernel
theorem d_Mo_turnAll_32 : decode (yB Y_Mo_turnAll) 32 = .ok (.iinc 1 1, 3) := by decide +kernel
theorem d_Mo_turnAll_35 : decode (yB Y_Mo_turnAll) 35 = .ok (.goto (-33), 3) := by decide +kernel
theorem d_Mo_turnAll_38 : decode (yB Y_Mo_turnAll) 38 = .ok (.aload_n 0, 1) := by decide +kernel
theorem d_Mo_turnAll_39 : decode (yB Y_Mo_turnAll) 39 = .ok (.getfield 13, 3) := by decide +kernel
theorem d_Mo_turnAll_42 : decode (yB Y_Mo_turnAll) 42 = .ok (.iconst 4, 1) := by decide +kernel
theorem d_Mo_turnAll_43 : decode (yB Y_Mo_turnAll) 43 = .ok (.dup2, 1) := by decide +kernel
theorem d_Mo_turnAll_44 : decode (yB Y_Mo_turnAll) 44 = .ok (.iaload, 1) := by decide +kernel
theorem d_Mo_turnAll_45 : decode (yB Y_Mo_turnAll) 45 = .ok (.iconst 1, 1) := by decide +kernel
theorem d_Mo_turnAll_46 : decode (yB Y_Mo_turnAll) 46 = .ok (.iadd, 1) := by decide +kernel
theorem d_Mo_turnAll_47 : decode (yB Y_Mo_turnAll) 47 = .ok (.iastore, 1) := by decide +kernel
theorem d_Mo_turnAll_48 : decode (yB Y_Mo_turnAll) 48 = .ok (.return_, 1) := by decide +kernel
def F_Mo_turnAll_L2 (n : Nat) (E : zE) (S : zS) (r2 : Nat × Int32 × zH → Option (zH)) (a0 : Nat) (x1 : Int32) (M : zH) : Option (zH) :=
  if 4 ≤ x1 then
    (zgR S a0 11 3).bind fun b_2 =>
    (zldI S M b_2 4).bind fun v_3 =>
    (zstI S M b_2 4 (v_3 + 1)).bind fun m_4 =>
    some (m_4)
  else
    (zgR S a0 11 3).bind fun b_5 =>
    (zldI S M b_5 (8 + x1)).bind fun v_6 =>
    (zremI ((v_6 + x1) + 1) 8).bind fun v_7 =>
    (zstI S M b_5 (8 + x1) v_7).bind fun m_8 =>
    r2 (a0, x1 + 1, m_8)
def F_Mo_turnAll_b2 (n : Nat) (E : zE) (S : zS) : Nat × Int32 × zH → Option (zH) := zfix (fun r2 s => F_Mo_turnAll_L2 n E S r2 s.1 s.2.1 s.2.2) n
def F_Mo_turnAll (n : Nat) (E : zE) (S : zS) (a0 : Nat) (M : zH) : Option (zH) :=
  F_Mo_turnAll_b2 n E S (a0, 0, M)
theorem K_Mo_turnAll_L2 (n : Nat) (E : zE) (S : zS) (r2 : Nat × Int32 × zH → Option (zH)) (a0 : Nat) (x1 : Int32) (M : zH) (M' : zH) (hr2 : ∀ (a0 : Nat) (x1 : Int32) (M : zH), r2 (a0, x1, M) = some M' → zG E Y_Mo_turnAll (none, S, M') 2 [(0, .ref a0), (1, .int x1)] [] S M 0 0) (h : F_Mo_turnAll_L2 n E S r2 a0 x1 M = some M') : zG E Y_Mo_turnAll (none, S, M') 2 [(0, .ref a0), (1, .int x1)] [] S M 0 0 := by
  unfold F_Mo_turnAll_L2 at h
  refine zi_iload_n 1 d_Mo_turnAll_2 rfl ?_
  refine zi_iconst 4 d_Mo_turnAll_3 rfl ?_
  refine zi_icmp_ge (tgt := 38) d_Mo_turnAll_4 rfl (fun c_1 => ?_) (fun c_1 => ?_)
  · rw [if_pos c_1] at h
    refine zi_aload_n 0 d_Mo_turnAll_38 rfl ?_
    obtain ⟨b_2, eb_2, h⟩ := zbind h
    refine zo_getR 42 zkd_11 3 d_Mo_turnAll_39 eb_2 rfl tw_1234 rfl ?_
    refine zi_iconst 4 d_Mo_turnAll_42 rfl ?_
    refine zi_dup2 d_Mo_turnAll_43 rfl rfl ?_
    obtain ⟨v_3, ev_3, h⟩ := zbind h
    refine zo_iald 45 d_Mo_turnAll_44 ev_3 rfl ?_
    refine zi_iconst 1 d_Mo_turnAll_45 rfl ?_
    refine zi_iadd d_Mo_turnAll_46 ?_
    obtain ⟨m_4, em_4, h⟩ := zbind h
    refine zo_iast 48 d_Mo_turnAll_47 em_4 rfl ?_
    cases h
    exact zo_ret d_Mo_turnAll_48 (Nat.le_of_ble_eq_true rfl) (Nat.le_of_ble_eq_true rfl) rfl
  · rw [if_neg c_1] at h
    refine zi_aload_n 0 d_Mo_turnAll_7 rfl ?_
    obtain ⟨b_5, eb_5, h⟩ := zbind h
    refine zo_getR 11 zkd_11 3 d_Mo_turnAll_8 eb_5 rfl tw_1234 rfl ?_
    refine zi_bipush 8 d_Mo_turnAll_11 rfl ?_
    refine zi_iload_n 1 d_Mo_turnAll_13 rfl ?_
    refine zi_iadd d_Mo_turnAll_14 ?_
    refine zi_aload_n 0 d_Mo_turnAll_15 rfl ?_
    refine zo_getR 19 zkd_11 3 d_Mo_turnAll_16 eb_5 rfl tw_1234 rfl ?_
    refine zi_bipush 8 d_Mo_turnAll_19 rfl ?_
    refine zi_iload_n 1 d_Mo_turnAll_21 rfl ?_
    refine zi_iadd d_Mo_turnAll_22 ?_
    obtain ⟨v_6, ev_6, h⟩ := zbind h
    refine zo_iald 24 d_Mo_turnAll_23 ev_6 rfl ?_
    refine zi_iload_n 1 d_Mo_turnAll_24 rfl ?_
    refine zi_iadd d_Mo_turnAll_25 ?_
    refine zi_iconst 1 d_Mo_turnAll_26 rfl ?_
    refine zi_iadd d_Mo_turnAll_27 ?_
    refine zi_bipush 8 d_Mo_turnAll_28 rfl ?_
    obtain ⟨v_7, ev_7, h⟩ := zbind h
    refine zo_irem 31 d_Mo_turnAll_30 ev_7 rfl ?_
    obtain ⟨m_8, em_8, h⟩ := zbind h
    refine zo_iast 32 d_Mo_turnAll_31 em_8 rfl ?_
    refine zi_iinc 1 (x1 + 1) [(1, .int (x1 + 1)), (0, .ref a0)] d_Mo_turnAll_32 rfl rfl (by decide) rfl ?_
    refine zi_goto (tgt := 2) d_Mo_turnAll_35 rfl ?_
    refine zi_lo [(0, .ref a0), (1, .int (x1 + 1))] [1, 0] rfl ?_
    exact hr2 a0 (x1 + 1) m_8 h
theorem K_Mo_turnAll_b2 (n : Nat) (E : zE) (S : zS) (a0 : Nat) (x1 : Int32) (M : zH) (M' : zH)  (h : F_Mo_turnAll_b2 n E S (a0, x1, M) = some M') : zG E Y_Mo_turnAll (none, S, M') 2 [(0, .ref a0), (1, .int x1)] [] S M 0 0 := by
  have key : ∀ (k : Nat) (a0 : Nat) (x1 : Int32) (M : zH), zfix (fun r2 s => F_Mo_turnAll_L2 n E S r2 s.1 s.2.1 s.2.2) k (a0, x1, M) = some M' → zG E Y_Mo_turnAll (none, S, M') 2 [(0, .ref a0), (1, .int x1)] [] S M 0 0 := by
    intro k
    induction k with
    | zero => intro a0 x1 M h; cases h
    | succ k ih => intro a0 x1 M h; exact K_Mo_turnAll_L2 n E S _ a0 x1 M M'  (fun a0 x1 M h => ih a0 x1 M h) h
  exact key n a0 x1 M h
theorem K_Mo_turnAll (n : Nat) (E : zE) (S : zS) (a0 : Nat) (M : zH) (M' : zH)  (h : F_Mo_turnAll n E S a0 M = some M') : zG E Y_Mo_turnAll (none, S, M') 0 [(0, .ref a0)] [] S M 0 0 := by
  unfold F_Mo_turnAll at h
  refine zi_iconst 0 d_Mo_turnAll_0 rfl ?_
  refine zi_istore_n [(1, .int 0), (0, .ref a0)] d_Mo_turnAll_1 (by decide) rfl ?_
  refine zi_lo [(0, .ref a0), (1, .int 0)] [1, 0] rfl ?_
  exact K_Mo_turnAll_b2 n E S a0 0 M M'  h
theorem C_Mo_turnAll (n : Nat) (E : zE) (S : zS) (a0 : Nat) (M : zH) (M' : zH) (h : F_Mo_turnAll n E S a0 M = some M') : zC E Y_Mo_turnAll [.ref a0] S M (none, S, M') :=
  zC.of (Or.inl (show plainName "NightColanderModel" = true by decide)) (Nat.le_of_ble_eq_true rfl) (trivial) (K_Mo_turnAll n E S a0 M M' h)
theorem d_Mo_passIt_0 : decode (yB Y_Mo_passIt) 0 = .ok (.aload_n 0, 1) := by decide +kernel
theorem d_Mo_passIt_1 : decode (yB Y_Mo_passIt) 1 = .ok (.invokevirtual 457, 3) := by decide +kernel
theorem d_Mo_passIt_4 : decode (yB Y_Mo_passIt) 4 = .ok (.iconst 0, 1) := by decide +kernel
theorem d_Mo_passIt_5 : decode (yB Y_Mo_passIt) 5 = .ok (.istore_n 1, 1) := by decide +kernel
theorem d_Mo_passIt_6 : decode (yB Y_Mo_passIt) 6 = .ok (.iconst 0, 1) := by decide +kernel
theorem d_Mo_passIt_7 : decode (yB Y_Mo_passIt) 7 = .ok (.istore_n 2, 1) := by decide +kernel
theorem d_Mo_passIt_8 : decode (yB Y_Mo_passIt) 8 = .ok (.iload_n 2, 1) := by decide +kernel
theorem d_Mo_passIt_9 : decode (yB Y_Mo_passIt) 9 = .ok (.aload_n 0, 1) := by decide +kernel
theorem d_Mo_passIt_10 : decode (yB Y_Mo_passIt) 10 = .ok (.getfield 13, 3) := by decide +kernel
theorem d_Mo_passIt_13 : decode (yB Y_Mo_passIt) 13 = .ok (.iconst 0, 1) := by decide +kernel
theorem d_Mo_passIt_14 : decode (yB Y_Mo_passIt) 14 = .ok (.iaload, 1) := by decide +kernel
theorem d_Mo_passIt_15 : decode (yB Y_Mo_passIt) 15 = .ok (.if_icmp .ge 31, 3) := by decide +kernel
theorem d_Mo_passIt_18 : decode (yB Y_Mo_passIt) 18 = .ok (.iload_n 1, 1) := by decide +kernel
theorem d_Mo_passIt_19 : decode (yB Y_Mo_passIt) 19 = .ok (.aload_n 0, 1) := by decide +kernel
theorem d_Mo_passIt_20 : decode (yB Y_Mo_passIt) 20 = .ok (.iload_n 2, 1) := by decide +kernel
theorem d_Mo_passIt_21 : decode (yB Y_Mo_passIt) 21 = .ok (.aload_n 0, 1) := by decide +kernel
theorem d_Mo_passIt_22 : decode (yB Y_Mo_passIt) 22 = .ok (.getfield 112, 3) := by decide +kernel
theorem d_Mo_passIt_25 : decode (yB Y_Mo_passIt) 25 = .ok (.aload_n 0, 1) := by decide +kernel
theorem d_Mo_passIt_26 : decode (yB Y_Mo_passIt) 26 = .ok (.getfield 13, 3) := by decide +kernel
theorem d_Mo_passIt_29 : decode (yB Y_Mo_passIt) 29 = .ok (.bipush 51, 2) := by decide +kernel
theorem d_Mo_passIt_31 : decode (yB Y_Mo_passIt) 31 = .ok (.iload_n 2, 1) := by decide +kernel
theorem d_Mo_passIt_32 : decode (yB Y_Mo_passIt) 32 = .ok (.iadd, 1) := by decide +kernel
theorem d_Mo_passIt_33 : decode (yB Y_Mo_passIt) 33 = .ok (.iaload, 1) := by decide +kernel
theorem d_Mo_passIt_34 : decode (yB Y_Mo_passIt) 34 = .ok (.iaload, 1) := by decide +kernel
theorem d_Mo_passIt_35 : decode (yB Y_Mo_passIt) 35 = .ok (.invokevirtual 460, 3) := by decide +kernel
theorem d_Mo_passIt_38 : decode (yB Y_Mo_passIt) 38 = .ok (.iadd, 1) := by decide +kernel
theorem d_Mo_passIt_39 : decode (yB Y_Mo_passIt) 39 = .ok (.istore_n 1, 1) := by decide +kernel
theorem d_Mo_passIt_40 : decode (yB Y_Mo_passIt) 40 = .ok (.iinc 2 1, 3) := by decide +kernel
theorem d_Mo_passIt_43 : decode (yB Y_Mo_passIt) 43 = .ok (.goto (-35), 3) := by decide +kernel
theorem d_Mo_passIt_46 : decode (yB Y_Mo_passIt) 46 = .ok (.aload_n 0, 1) := by decide +kernel
theorem d_Mo_passIt_47 : decode (yB Y_Mo_passIt) 47 = .ok (.invokevirtual 463, 3) := by decide +kernel
theorem d_Mo_passIt_50 : decode (yB Y_Mo_passIt) 50 = .ok (.iload_n 1, 1) := by decide +kernel
theorem d_Mo_passIt_51 : decode (yB Y_Mo_passIt) 51 = .ok (.ireturn, 1) := by decide +kernel
def F_Mo_passIt_L8 (n : Nat) (E : zE) (S : zS) (r8 : Nat × Int32 × Int32 × zH → Option (Int32 × zH)) (a0 : Nat) (x1 : Int32) (x2 : Int32) (M : zH) : Option (Int32 × zH) :=
  (zgR S a0 11 3).bind fun b_1 =>
  (zldI S M b_1 0).bind fun v_2 =>
  if v_2 ≤ x2 then
    (F_Mo_turnAll n E S a0 M).bind fun q_4 =>
    some (x1, q_4)
  else
    (zgR S a0 11 41).bind fun b_5 =>
    (zldI S M b_1 (51 + x2)).bind fun v_6 =>
    (zldI S M b_5 v_6).bind fun v_7 =>
    (F_Mo_catchIn n E S a0 x2 v_7 M).bind fun q_8 =>
    r8 (a0, x1 + q_8.1, x2 + 1, q_8.2)
def F_Mo_passIt_b8 (n : Nat) (E : zE) (S : zS) : Nat × Int32 × Int32 × zH → Option (Int32 × zH) := zfix (fun r8 s => F_Mo_passIt_L8 n E S r8 s.1 s.2.1 s.2.2.1 s.2.2.2) n
def F_Mo_passIt (n : Nat) (E : zE) (S : zS) (a0 : Nat) (M : zH) : Option (Int32 × zH) :=
  (zck S a0 11).bind fun u_9 =>
  (F_Mo_layFlow n E S a0 M).bind fun q_10 =>
  F_Mo_passIt_b8 n E S (a0, 0, 0, q_10)
theorem K_Mo_passIt_L8 (n : Nat) (E : zE) (S : zS) (r8 : Nat × Int32 × Int32 × zH → Option (Int32 × zH)) (a0 : Nat) (x1 : Int32) (x2 : Int32) (M : zH) (r : Int32) (M' : zH) (hr8 : ∀ (a0 : Nat) (x1 : Int32) (x2 : Int32) (M : zH), r8 (a0, x1, x2, M) = some (r, M') → zG E Y_Mo_passIt (some (.int r), S, M') 8 [(0, .ref a0), (1, .int x1), (2, .int x2)] [] S M 0 0) (h : F_Mo_passIt_L8 n E S r8 a0 x1 x2 M = some (r, M')) : zG E Y_Mo_passIt (some (.int r), S, M') 8 [(0, .ref a0), (1, .int x1), (2, .int x2)] [] S M 0 0 := by
  unfold F_Mo_passIt_L8 at h
  refine zi_iload_n 2 d_Mo_passIt_8 rfl ?_
  refine zi_aload_n 0 d_Mo_passIt_9 rfl ?_
  obtain ⟨b_1, eb_1, h⟩ := zbind h
  refine zo_getR 13 zkd_11 3 d_Mo_passIt_10 eb_1 rfl tw_1234 rfl ?_
  refine zi_iconst 0 d_Mo_passIt_13 rfl ?_
  obtain ⟨v_2, ev_2, h⟩ := zbind h
  refine zo_iald 15 d_Mo_passIt_14 ev_2 rfl ?_
  refine zi_icmp_ge (tgt := 46) d_Mo_passIt_15 rfl (fun c_3 => ?_) (fun c_3 => ?_)
  · rw [if_pos c_3] at h
    refine zi_aload_n 0 d_Mo_passIt_46 rfl ?_
    obtain ⟨q_4, eq_4, h⟩ := zbind h
    refine zo_virt (k' := 0) (n' := 0) 50 [] [] [] zkd_11 (zgR_s eb_1).1 (C_Mo_turnAll n E S a0 M q_4 eq_4) d_Mo_passIt_47 tw_1746 tw_1743 tw_1745 ts_87 tw_13 dd_Mo_turnAll ⟨Nat.le_of_ble_eq_true rfl, Nat.le_of_ble_eq_true rfl, Nat.le_of_ble_eq_true rfl, Nat.le_of_ble_eq_true rfl⟩ (Nat.le_of_ble_eq_true rfl) rfl rfl rfl rfl ?_
    refine zi_iload_n 1 d_Mo_passIt_50 rfl ?_
    cases h
    exact zo_ret d_Mo_passIt_51 (Nat.le_of_ble_eq_true rfl) (Nat.le_of_ble_eq_true rfl) rfl
  · rw [if_neg c_3] at h
    refine zi_iload_n 1 d_Mo_passIt_18 rfl ?_
    refine zi_aload_n 0 d_Mo_passIt_19 rfl ?_
    refine zi_iload_n 2 d_Mo_passIt_20 rfl ?_
    refine zi_aload_n 0 d_Mo_passIt_21 rfl ?_
    obtain ⟨b_5, eb_5, h⟩ := zbind h
    refine zo_getR 25 zkd_11 41 d_Mo_passIt_22 eb_5 rfl tw_1272 rfl ?_
    refine zi_aload_n 0 d_Mo_passIt_25 rfl ?_
    refine zo_getR 29 zkd_11 3 d_Mo_passIt_26 eb_1 rfl tw_1234 rfl ?_
    refine zi_bipush 51 d_Mo_passIt_29 rfl ?_
    refine zi_iload_n 2 d_Mo_passIt_31 rfl ?_
    refine zi_iadd d_Mo_passIt_32 ?_
    obtain ⟨v_6, ev_6, h⟩ := zbind h
    refine zo_iald 34 d_Mo_passIt_33 ev_6 rfl ?_
    obtain ⟨v_7, ev_7, h⟩ := zbind h
    refine zo_iald 35 d_Mo_passIt_34 ev_7 rfl ?_
    obtain ⟨q_8, eq_8, h⟩ := zbind h
    refine zo_virt (k' := 0) (n' := 0) 38 [.int x2, .int v_7] [.int x1] [.int q_8.1, .int x1] zkd_11 (zgR_s eb_1).1 (C_Mo_catchIn n E S a0 x2 v_7 M q_8.1 q_8.2 eq_8) d_Mo_passIt_35 tw_1742 tw_1739 tw_1741 ts_86 tw_13 dd_Mo_catchIn ⟨Nat.le_of_ble_eq_true rfl, Nat.le_of_ble_eq_true rfl, Nat.le_of_ble_eq_true rfl, Nat.le_of_ble_eq_true rfl⟩ (Nat.le_of_ble_eq_true rfl) rfl rfl rfl rfl ?_
    refine zi_iadd d_Mo_passIt_38 ?_
    refine zi_istore_n [(1, .int (x1 + q_8.1)), (0, .ref a0), (2, .int x2)] d_Mo_passIt_39 (by decide) rfl ?_
    refine zi_iinc 2 (x2 + 1) [(2, .int (x2 + 1)), (1, .int (x1 + q_8.1)), (0, .ref a0)] d_Mo_passIt_40 rfl rfl (by decide) rfl ?_
    refine zi_goto (tgt := 8) d_Mo_passIt_43 rfl ?_
    refine zi_lo [(0, .ref a0), (1, .int (x1 + q_8.1)), (2, .int (x2 + 1))] [2, 1, 0] rfl ?_
    exact hr8 a0 (x1 + q_8.1) (x2 + 1) q_8.2 h
theorem K_Mo_passIt_b8 (n : Nat) (E : zE) (S : zS) (a0 : Nat) (x1 : Int32) (x2 : Int32) (M : zH) (r : Int32) (M' : zH)  (h : F_Mo_passIt_b8 n E S (a0, x1, x2, M) = some (r, M')) : zG E Y_Mo_passIt (some (.int r), S, M') 8 [(0, .ref a0), (1, .int x1), (2, .int x2)] [] S M 0 0 := by
  have key : ∀ (k : Nat) (a0 : Nat) (x1 : Int32) (x2 : Int32) (M : zH), zfix (fun r8 s => F_Mo_passIt_L8 n E S r8 s.1 s.2.1 s.2.2.1 s.2.2.2) k (a0, x1, x2, M) = some (r, M') → zG E Y_Mo_passIt (some (.int r), S, M') 8 [(0, .ref a0), (1, .int x1), (2, .int x2)] [] S M 0 0 := by
    intro k
    induction k with
    | zero => intro a0 x1 x2 M h; cases h
    | succ k ih => intro a0 x1 x2 M h; exact K_Mo_passIt_L8 n E S _ a0 x1 x2 M r M'  (fun a0 x1 x2 M h => ih a0 x1 x2 M h) h
  exact key n a0 x1 x2 M h
theorem K_Mo_passIt (n : Nat) (E : zE) (S : zS) (a0 : Nat) (M : zH) (r : Int32) (M' : zH)  (h : F_Mo_passIt n E S a0 M = some (r, M')) : zG E Y_Mo_passIt (some (.int r), S, M') 0 [(0, .ref a0)] [] S M 0 0 := by
  unfold F_Mo_passIt at h
  refine zi_aload_n 0 d_Mo_passIt_0 rfl ?_
  obtain ⟨u_9, eu_9, h⟩ := zbind h
  obtain ⟨q_10, eq_10, h⟩ := zbind h
  refine zo_virt (k' := 0) (n' := 0) 4 [] [] [] zkd_11 (zck_s eu_9) (C_Mo_layFlow n E S a0 M q_10 eq_10) d_Mo_passIt_1 tw_1738 tw_1735 tw_1737 ts_85 tw_13 dd_Mo_layFlow ⟨Nat.le_of_ble_eq_true rfl, Nat.le_of_ble_eq_true rfl, Nat.le_of_ble_eq_true rfl, Nat.le_of_ble_eq_true rfl⟩ (Nat.le_of_ble_eq_true rfl) rfl rfl rfl rfl ?_
  refine zi_iconst 0 d_Mo_passIt_4 rfl ?_
  refine zi_istore_n [(1, .int 0), (0, .ref a0)] d_Mo_passIt_5 (by decide) rfl ?_
  refine zi_iconst 0 d_Mo_passIt_6 rfl ?_
  refine zi_istore_n [(2, .int 0), (1, .int 0), (0, .ref a0)] d_Mo_passIt_7 (by decide) rfl ?_
  refine zi_lo [(0, .ref a0), (1, .int 0), (2, .int 0)] [2, 1, 0] rfl ?_
  exact K_Mo_passIt_b8 n E S a0 0 0 q_10 r M'  h
theorem C_Mo_passIt (n : Nat) (E : zE) (S : zS) (a0 : Nat) (M : zH) (r : Int32) (M' : zH) (h : F_Mo_passIt n E S a0 M = some (r, M')) : zC E Y_Mo_passIt [.ref a0] S M (some (.int r), S, M') :=
  zC.of (Or.inl (show plainName "NightColanderModel" = true by decide)) (Nat.le_of_ble_eq_true rfl) (trivial) (K_Mo_passIt n E S a0 M r M' h)
theorem d_Mo_passNow_0 : decode (yB Y_Mo_passNow) 0 = .ok (.aload_n 0, 1) := by decide +kernel
theorem d_Mo_passNow_1 : decode (yB Y_Mo_passNow) 1 = .ok (.getfield 13, 3) := by decide +kernel
theorem d_Mo_passNow_4 : decode (yB Y_Mo_passNow) 4 = .ok (.iconst 4, 1) := by decide +kernel
theorem d_Mo_passNow_5 : decode (yB Y_Mo_passNow) 5 = .ok (.iaload, 1) := by decide +kernel
theorem d_Mo_passNow_6 : decode (yB Y_Mo_passNow) 6 = .ok (.sipush 999, 3) := by decide +kernel
theorem d_Mo_passNow_9 : decode (yB Y_Mo_passNow) 9 = .ok (.if_icmp .ne 6, 3) := by decide +kernel
theorem d_Mo_passNow_12 : decode (yB Y_Mo_passNow) 12 = .ok (.bipush (-3), 2) := by decide +kernel
theorem d_Mo_passNow_14 : decode (yB Y_Mo_passNow) 14 = .ok (.ireturn, 1) := by decide +kernel
theorem d_Mo_passNow_15 : decode (yB Y_Mo_passNow) 15 = .ok (.aload_n 0, 1) := by decide +kernel
theorem d_Mo_passNow_16 : decode (yB Y_Mo_passNow) 16 = .ok (.iconst 3, 1) := by decide +kernel
theorem d_Mo_passNow_17 : decode (yB Y_Mo_passNow) 17 = .ok (.invokevirtual 445, 3) := by decide +kernel
theorem d_Mo_passNow_20 : decode (yB Y_Mo_passNow) 20 = .ok (.aload_n 0, 1) := by decide +kernel
theorem d_Mo_passNow_21 : decode (yB Y_Mo_passNow) 21 = .ok (.invokevirtual 466, 3) := by decide +kernel
theorem d_Mo_passNow_24 : decode (yB Y_Mo_passNow) 24 = .ok (.ireturn, 1) := by decide +kernel
def F_Mo_passNow (n : Nat) (E : zE) (S : zS) (a0 : Nat) (M : zH) : Option (Int32 × zH) :=
  (zgR S a0 11 3).bind fun b_1 =>
  (zldI S M b_1 4).bind fun v_2 =>
  if v_2 = 999 then
    some ((-3), M)
  else
    (F_Mo_remember n E S a0 3 M).bind fun q_4 =>
    (F_Mo_passIt n E S a0 q_4).bind fun q_5 =>
    some (q_5.1, q_5.2)
theorem K_Mo_passNow (n : Nat) (E : zE) (S : zS) (a0 : Nat) (M : zH) (r : Int32) (M' : zH)  (h : F_Mo_passNow n E S a0 M = some (r, M')) : zG E Y_Mo_passNow (some (.int r), S, M') 0 [(0, .ref a0)] [] S M 0 0 := by
  unfold F_Mo_passNow at h
  refine zi_aload_n 0 d_Mo_passNow_0 rfl ?_
  obtain ⟨b_1, eb_1, h⟩ := zbind h
  refine zo_getR 4 zkd_11 3 d_Mo_passNow_1 eb_1 rfl tw_1234 rfl ?_
  refine zi_iconst 4 d_Mo_passNow_4 rfl ?_
  obtain ⟨v_2, ev_2, h⟩ := zbind h
  refine zo_iald 6 d_Mo_passNow_5 ev_2 rfl ?_
  refine zi_sipush 999 d_Mo_passNow_6 rfl ?_
  refine zi_icmp_ne (tgt := 15) d_Mo_passNow_9 rfl (fun c_3 => ?_) (fun c_3 => ?_)
  · rw [if_neg c_3] at h
    refine zi_aload_n 0 d_Mo_passNow_15 rfl ?_
    refine zi_iconst 3 d_Mo_passNow_16 rfl ?_
    obtain ⟨q_4, eq_4, h⟩ := zbind h
    refine zo_virt (k' := 0) (n' := 0) 20 [.int 3] [] [] zkd_11 (zgR_s eb_1).1 (C_Mo_remember n E S a0 3 M q_4 eq_4) d_Mo_passNow_17 tw_1702 tw_1699 tw_1701 ts_79 tw_13 dd_Mo_remember ⟨Nat.le_of_ble_eq_true rfl, Nat.le_of_ble_eq_true rfl, Nat.le_of_ble_eq_true rfl, Nat.le_of_ble_eq_true rfl⟩ (Nat.le_of_ble_eq_true rfl) rfl rfl rfl rfl ?_
    refine zi_aload_n 0 d_Mo_passNow_20 rfl ?_
    obtain ⟨q_5, eq_5, h⟩ := zbind h
    refine zo_virt (k' := 0) (n' := 0) 24 [] [] [.int q_5.1] zkd_11 (zgR_s eb_1).1 (C_Mo_passIt n E S a0 q_4 q_5.1 q_5.2 eq_5) d_Mo_passNow_21 tw_1734 tw_1731 tw_1733 ts_84 tw_13 dd_Mo_passIt ⟨Nat.le_of_ble_eq_true rfl, Nat.le_of_ble_eq_true rfl, Nat.le_of_ble_eq_true rfl, Nat.le_of_ble_eq_true rfl⟩ (Nat.le_of_ble_eq_true rfl) rfl rfl rfl rfl ?_
    cases h
    exact zo_ret d_Mo_passNow_24 (Nat.le_of_ble_eq_true rfl) (Nat.le_of_ble_eq_true rfl) rfl
  · rw [if_pos c_3] at h
    refine zi_bipush (-3) d_Mo_passNow_12 rfl ?_
    cases h
    exact zo_ret d_Mo_passNow_14 (Nat.le_of_ble_eq_true rfl) (Nat.le_of_ble_eq_true rfl) rfl
theorem C_Mo_passNow (n : Nat) (E : zE) (S : zS) (a0 : Nat) (M : zH) (r : Int32) (M' : zH) (h : F_Mo_passNow n E S a0 M = some (r, M')) : zC E Y_Mo_passNow [.ref a0] S M (some (.int r), S, M') :=
  zC.of (Or.inl (show plainName "NightColanderModel" = true by decide)) (Nat.le_of_ble_eq_true rfl) (trivial) (K_Mo_passNow n E S a0 M r M' h)
theorem d_Mo_pass_0 : decode (yB Y_Mo_pass) 0 = .ok (.aload_n 0, 1) := by decide +kernel
theorem d_Mo_pass_1 : decode (yB Y_Mo_pass) 1 = .ok (.iconst 0, 1) := by decide +kernel
theorem d_Mo_pass_2 : decode (yB Y_Mo_pass) 2 = .ok (.putfield 156, 3) := by decide +kernel
theorem d_Mo_pass_5 : decode (yB Y_Mo_pass) 5 = .ok (.aload_n 0, 1) := by decide +kernel
theorem d_Mo_pass_6 : decode (yB Y_Mo_pass) 6 = .ok (.aload_n 0, 1) := by decide +kernel
theorem d_Mo_pass_7 : decode (yB Y_Mo_pass) 7 = .ok (.invokevirtual 469, 3) := by decide +kernel
theorem d_Mo_pass_10 : decode (yB Y_Mo_pass) 10 = .ok (.invokevirtual 165, 3) := by decide +kernel
theorem d_Mo_pass_13 : decode (yB Y_Mo_pass) 13 = .ok (.ireturn, 1) := by decide +kernel
def F_Mo_pass (n : Nat) (E : zE) (S : zS) (a0 : Nat) (M : zH) : Option (Int32 × zH) :=
  (zpI S M a0 11 0 0).bind fun m_1 =>
  (zck S a0 11).bind fun u_2 =>
  (F_Mo_passNow n E S a0 m_1).bind fun q_3 =>
  (F_Mo_tell n E S a0 q_3.1 q_3.2).bind fun q_4 =>
  some (q_4.1, q_4.2)
theorem K_Mo_pass (n : Nat) (E : zE) (S : zS) (a0 : Nat) (M : zH) (r : Int32) (M' : zH)  (h : F_Mo_pass n E S a0 M = some (r, M')) : zG E Y_Mo_pass (some (.int r), S, M') 0 [(0, .ref a0)] [] S M 0 0 := by
  unfold F_Mo_pass at h
  refine zi_aload_n 0 d_Mo_pass_0 rfl ?_
  refine zi_iconst 0 d_Mo_pass_1 rfl ?_
  obtain ⟨m_1, em_1, h⟩ := zbind h
  refine zo_putI 5 zkd_11 0 d_Mo_pass_2 em_1 rfl rfl rfl tw_1231 rfl ?_
  refine zi_aload_n 0 d_Mo_pass_5 rfl ?_
  refine zi_aload_n 0 d_Mo_pass_6 rfl ?_
  obtain ⟨u_2, eu_2, h⟩ := zbind h
  obtain ⟨q_3, eq_3, h⟩ := zbind h
  refine zo_virt (k' := 0) (n' := 0) 10 [] [.ref a0] [.int q_3.1, .ref a0] zkd_11 (zck_s eu_2) (C_Mo_passNow n E S a0 m_1 q_3.1 q_3.2 eq_3) d_Mo_pass_7 tw_1730 tw_1727 tw_1729 ts_83 tw_13 dd_Mo_passNow ⟨Nat.le_of_ble_eq_true rfl, Nat.le_of_ble_eq_true rfl, Nat.le_of_ble_eq_true rfl, Nat.le_of_ble_eq_true rfl⟩ (Nat.le_of_ble_eq_true rfl) rfl rfl rfl rfl ?_
  obtain ⟨q_4, eq_4, h⟩ := zbind h
  refine zo_virt (k' := 0) (n' := 0) 13 [.int q_3.1] [] [.int q_4.1] zkd_11 (zck_s eu_2) (C_Mo_tell n E S a0 q_3.1 q_3.2 q_4.1 q_4.2 eq_4) d_Mo_pass_10 tw_1410 tw_1407 tw_1409 ts_36 tw_13 dd_Mo_tell ⟨Nat.le_of_ble_eq_true rfl, Nat.le_of_ble_eq_true rfl, Nat.le_of_ble_eq_true rfl, Nat.le_of_ble_eq_true rfl⟩ (Nat.le_of_ble_eq_true rfl) rfl rfl rfl rfl ?_
  cases h
  exact zo_ret d_Mo_pass_13 (Nat.le_of_ble_eq_true rfl) (Nat.le_of_ble_eq_true rfl) rfl
theorem C_Mo_pass (n : Nat) (E : zE) (S : zS) (a0 : Nat) (M : zH) (r : Int32) (M' : zH) (h : F_Mo_pass n E S a0 M = some (r, M')) : zC E Y_Mo_pass [.ref a0] S M (some (.int r), S, M') :=
  zC.of (Or.inl (show plainName "NightColanderModel" = true by decide)) (Nat.le_of_ble_eq_true rfl) (trivial) (K_Mo_pass n E S a0 M r M' h)
theorem d_Mo_when_0 : decode (yB Y_Mo_when) 0 = .ok (.aload_n 0, 1) := by decide +kernel
theorem d_Mo_when_1 : decode (yB Y_Mo_when) 1 = .ok (.iconst 0, 1) := by decide +kernel
theorem d_Mo_when_2 : decode (yB Y_Mo_when) 2 = .ok (.putfield 156, 3) := by decide +kernel
theorem d_Mo_when_5 : decode (yB Y_Mo_when) 5 = .ok (.iload_n 1, 1) := by decide +kernel
theorem d_Mo_when_6 : decode (yB Y_Mo_when) 6 = .ok (.invokestatic 194, 3) := by decide +kernel
theorem d_Mo_when_9 : decode (yB Y_Mo_when) 9 = .ok (.ifCond .eq 15, 3) := by decide +kernel
theorem d_Mo_when_12 : decode (yB Y_Mo_when) 12 = .ok (.iload_n 2, 1) := by decide +kernel
theorem d_Mo_when_13 : decode (yB Y_Mo_when) 13 = .ok (.i2l, 1) := by decide +kernel
theorem d_Mo_when_14 : decode (yB Y_Mo_when) 14 = .ok (.lconst 0, 1) := by decide +kernel
theorem d_Mo_when_15 : decode (yB Y_Mo_when) 15 = .ok (.ldc2_w 230, 3) := by decide +kernel
theorem d_Mo_when_18 : decode (yB Y_Mo_when) 18 = .ok (.invokestatic 176, 3) := by decide +kernel
theorem d_Mo_when_21 : decode (yB Y_Mo_when) 21 = .ok (.ifCond .ne 5, 3) := by decide +kernel
theorem d_Mo_when_24 : decode (yB Y_Mo_when) 24 = .ok (.iconst (-1), 1) := by decide +kernel
theorem d_Mo_when_25 : decode (yB Y_Mo_when) 25 = .ok (.ireturn, 1) := by decide +kernel
theorem d_Mo_when_26 : decode (yB Y_Mo_when) 26 = .ok (.aload_n 0, 1) := by decide +kernel
theorem d_Mo_when_27 : decode (yB Y_Mo_when) 27 = .ok (.bipush 16, 2) := by decide +kernel
theorem d_Mo_when_29 : decode (yB Y_Mo_when) 29 = .ok (.invokevirtual 169, 3) := by decide +kernel
theorem d_Mo_when_32 : decode (yB Y_Mo_when) 32 = .ok (.iconst 0, 1) := by decide +kernel
theorem d_Mo_when_33 : decode (yB Y_Mo_when) 33 = .ok (.istore_n 3, 1) := by decide +kernel
theorem d_Mo_when_34 : decode (yB Y_Mo_when) 34 = .ok (.iload_n 3, 1) := by decide +kernel
theorem d_Mo_when_35 : decode (yB Y_Mo_when) 35 = .ok (.bipush 61, 2) := by decide +kernel
theorem d_Mo_when_37 : decode (yB Y_Mo_when) 37 = .ok (.if_icmp .ge 22, 3) := by decide +kernel
theorem d_Mo_when_40 : decode (yB Y_Mo_when) 40 = .ok (.aload_n 0, 1) := by decide +kernel
theorem d_Mo_when_41 : decode (yB Y_Mo_when) 41 = .ok (.iload_n 1, 1) := by decide +kernel
theorem d_Mo_when_42 : decode (yB Y_Mo_when) 42 = .ok (.invokevirtual 232, 3) := by decide +kernel
theorem d_Mo_when_45 : decode (yB Y_Mo_when) 45 = .ok (.iload_n 2, 1) := by decide +kernel
theorem d_Mo_when_46 : decode (yB Y_Mo_when) 46 = .ok (.if_icmp .ge 13, 3) := by decide +kernel
theorem d_Mo_when_49 : decode (yB Y_Mo_when) 49 = .ok (.aload_n 0, 1) := by decide +kernel
theorem d_Mo_when_50 : decode (yB Y_Mo_when) 50 = .ok (.invokevirtual 463, 3) := by decide +kernel
theorem d_Mo_when_53 : decode (yB Y_Mo_when) 53 = .ok (.iinc 3 1, 3) := by decide +kernel
theorem d_Mo_when_56 : decode (yB Y_Mo_when) 56 = .ok (.goto (-22), 3) := by decide +kernel
theorem d_Mo_when_59 : decode (yB Y_Mo_when) 59 = .ok (.aload_n 0, 1) := by decide +kernel
theorem d_Mo_when_60 : decode (yB Y_Mo_when) 60 = .ok (.bipush 16, 2) := by decide +kernel
theorem d_Mo_when_62 : decode (yB Y_Mo_when) 62 = .ok (.invokevirtual 173, 3) := by decide +kernel
theorem d_Mo_when_65 : decode (yB Y_Mo_when) 65 = .ok (.iload_n 3, 1) := by decide +kernel
theorem d_Mo_when_66 : decode (yB Y_Mo_when) 66 = .ok (.bipush 60, 2) := by decide +kernel
theorem d_Mo_when_68 : decode (yB Y_Mo_when) 68 = .ok (.if_icmp .le 7, 3) := by decide +kernel
theorem d_Mo_when_71 : decode (yB Y_Mo_when) 71 = .ok (.iconst (-1), 1) := by decide +kernel
theorem d_Mo_when_72 : decode (yB Y_Mo_when) 72 = .ok (.goto 4, 3) := by decide +kernel
theorem d_Mo_when_75 : decode (yB Y_Mo_when) 75 = .ok (.iload_n 3, 1) := by decide +kernel
theorem d_Mo_when_76 : decode (yB Y_Mo_when) 76 = .ok (.ireturn, 1) := by decide +kernel
def F_Mo_when_b59 (n : Nat) (E : zE) (S : zS) (a0 : Nat) (x3 : Int32) (M : zH) : Option (Int32 × zH) :=
  (zck S a0 11).bind fun u_1 =>
  (F_Mo_putBack n E S a0 16 M).bind fun q_2 =>
  if x3 ≤ 60 then
    some (x3, q_2)
  else
    some ((-1), q_2)
def F_Mo_when_L34 (n : Nat) (E : zE) (S : zS) (r34 : Nat × Int32 × Int32 × Int32 × zH → Option (Int32 × zH)) (a0 : Nat) (x1 : Int32) (x2 : Int32) (x3 : Int32) (M : zH) : Option (Int32 × zH) :=
  if 61 ≤ x3 then
    F_Mo_when_b59 n E S a0 x3 M
  else
    (zck S a0 11).bind fun u_5 =>
    (F_Mo_flowOn n E S a0 x1 M).bind fun q_6 =>
    if x2 ≤ q_6.1 then
      F_Mo_when_b59 n E S a0 x3 q_6.2
    else
      (F_Mo_turnAll n E S a0 q_6.2).bind fun q_8 =>
      r34 (a0, x1, x2, x3 + 1, q_8)
def F_Mo_when_b34 (n : Nat) (E : zE) (S : zS) : Nat × Int32 × Int32 × Int32 × zH → Option (Int32 × zH) := zfix (fun r34 s => F_Mo_when_L34 n E S r34 s.1 s.2.1 s.2.2.1 s.2.2.2.1 s.2.2.2.2) n
def F_Mo_when (n : Nat) (E : zE) (S : zS) (a0 : Nat) (x1 : Int32) (x2 : Int32) (M : zH) : Option (Int32 × zH) :=
  (zpI S M a0 11 0 0).bind fun m_9 =>
  (F_Mo_isField n E S x1 m_9).bind fun q_10 =>
  if q_10.1 = true then
    (F_Mo_in n E S x2.toInt64 0 400 q_10.2).bind fun q_12 =>
    if q_12.1 = true then
      (zck S a0 11).bind fun u_14 =>
      (F_Mo_keepAll n E S a0 16 q_12.2).bind fun q_15 =>
      F_Mo_when_b34 n E S (a0, x1, x2, 0, q_15)
    else
      some ((-1), q_12.2)
  else
    some ((-1), q_10.2)
theorem K_Mo_when_b59 (n : Nat) (E : zE) (S : zS) (a0 : Nat) (x3 : Int32) (M : zH) (r : Int32) (M' : zH)  (h : F_Mo_when_b59 n E S a0 x3 M = some (r, M')) : zG E Y_Mo_when (some (.int r), S, M') 59 [(0, .ref a0), (3, .int x3)] [] S M 0 0 := by
  unfold F_Mo_when_b59 at h
  refine zi_aload_n 0 d_Mo_when_59 rfl ?_
  refine zi_bipush 16 d_Mo_when_60 rfl ?_
  obtain ⟨u_1, eu_1, h⟩ := zbind h
  obtain ⟨q_2, eq_2, h⟩ := zbind h
  refine zo_virt (k' := 0) (n' := 0) 65 [.int 16] [] [] zkd_11 (zck_s eu_1) (C_Mo_putBack n E S a0 16 M q_2 eq_2) d_Mo_when_62 tw_1414 tw_1411 tw_1413 ts_37 tw_13 dd_Mo_putBack ⟨Nat.le_of_ble_eq_true rfl, Nat.le_of_ble_eq_true rfl, Nat.le_of_ble_eq_true rfl, Nat.le_of_ble_eq_true rfl⟩ (Nat.le_of_ble_eq_true rfl) rfl rfl rfl rfl ?_
  refine zi_iload_n 1 d_Mo_when_65 rfl ?_
  refine zi_bipush 60 d_Mo_when_66 rfl ?_
  refine zi_icmp_le (tgt := 75) d_Mo_when_68 rfl (fun c_3 => ?_) (fun c_3 => ?_)
  · rw [if_pos c_3] at h
    refine zi_iload_n 1 d_Mo_when_75 rfl ?_
    cases h
    exact zo_ret d_Mo_when_76 (Nat.le_of_ble_eq_true rfl) (Nat.le_of_ble_eq_true rfl) rfl
  · rw [if_neg c_3] at h
    refine zi_iconst (-1) d_Mo_when_71 rfl ?_
    refine zi_goto (tgt := 76) d_Mo_when_72 rfl ?_
    cases h
    exact zo_ret d_Mo_when_76 (Nat.le_of_ble_eq_true rfl) (Nat.le_of_ble_eq_true rfl) rfl
theorem K_Mo_when_L34 (n : Nat) (E : zE) (S : zS) (r34 : Nat × Int32 × Int32 × Int32 × zH → Option (Int32 × zH)) (a0 : Nat) (x1 : Int32) (x2 : Int32) (x3 : Int32) (M : zH) (r : Int32) (M' : zH) (hr34 : ∀ (a0 : Nat) (x1 : Int32) (x2 : Int32) (x3 : Int32) (M : zH), r34 (a0, x1, x2, x3, M) = some (r, M') → zG E Y_Mo_when (some (.int r), S, M') 34 [(0, .ref a0), (1, .int x1), (2, .int x2), (3, .int x3)] [] S M 0 0) (h : F_Mo_when_L34 n E S r34 a0 x1 x2 x3 M = some (r, M')) : zG E Y_Mo_when (some (.int r), S, M') 34 [(0, .ref a0), (1, .int x1), (2, .int x2), (3, .int x3)] [] S M 0 0 := by
  unfold F_Mo_when_L34 at h
  refine zi_iload_n 3 d_Mo_when_34 rfl ?_
  refine zi_bipush 61 d_Mo_when_35 rfl ?_
  refine zi_icmp_ge (tgt := 59) d_Mo_when_37 rfl (fun c_4 => ?_) (fun c_4 => ?_)
  · rw [if_pos c_4] at h
    refine zi_lo [(0, .ref a0), (3, .int x3)] [0, 3] rfl ?_
    exact K_Mo_when_b59 n E S a0 x3 M r M'  h
  · rw [if_neg c_4] at h
    refine zi_aload_n 0 d_Mo_when_40 rfl ?_
    refine zi_iload_n 1 d_Mo_when_41 rfl ?_
    obtain ⟨u_5, eu_5, h⟩ := zbind h
    obtain ⟨q_6, eq_6, h⟩ := zbind h
    refine zo_virt (k' := 0) (n' := 0) 45 [.int x1] [] [.int q_6.1] zkd_11 (zck_s eu_5) (C_Mo_flowOn n E S a0 x1 M q_6.1 q_6.2 eq_6) d_Mo_when_42 tw_1525 tw_1522 tw_1524 ts_51 tw_13 dd_Mo_flowOn ⟨Nat.le_of_ble_eq_true rfl, Nat.le_of_ble_eq_true rfl, Nat.le_of_ble_eq_true rfl, Nat.le_of_ble_eq_true rfl⟩ (Nat.le_of_ble_eq_true rfl) rfl rfl rfl rfl ?_
    refine zi_iload_n 2 d_Mo_when_45 rfl ?_
    refine zi_icmp_ge (tgt := 59) d_Mo_when_46 rfl (fun c_7 => ?_) (fun c_7 => ?_)
    · rw [if_pos c_7] at h
      refine zi_lo [(0, .ref a0), (3, .int x3)] [0, 3] rfl ?_
      exact K_Mo_when_b59 n E S a0 x3 q_6.2 r M'  h
    · rw [if_neg c_7] at h
      refine zi_aload_n 0 d_Mo_when_49 rfl ?_
      obtain ⟨q_8, eq_8, h⟩ := zbind h
      refine zo_virt (k' := 0) (n' := 0) 53 [] [] [] zkd_11 (zck_s eu_5) (C_Mo_turnAll n E S a0 q_6.2 q_8 eq_8) d_Mo_when_50 tw_1746 tw_1743 tw_1745 ts_87 tw_13 dd_Mo_turnAll ⟨Nat.le_of_ble_eq_true rfl, Nat.le_of_ble_eq_true rfl, Nat.le_of_ble_eq_true rfl, Nat.le_of_ble_eq_true rfl⟩ (Nat.le_of_ble_eq_true rfl) rfl rfl rfl rfl ?_
      refine zi_iinc 3 (x3 + 1) [(3, .int (x3 + 1)), (0, .ref a0), (1, .int x1), (2, .int x2)] d_Mo_when_53 rfl rfl (by decide) rfl ?_
      refine zi_goto (tgt := 34) d_Mo_when_56 rfl ?_
      refine zi_lo [(0, .ref a0), (1, .int x1), (2, .int x2), (3, .int (x3 + 1))] [1, 2, 3, 0] rfl ?_
      exact hr34 a0 x1 x2 (x3 + 1) q_8 h
theorem K_Mo_when_b34 (n : Nat) (E : zE) (S : zS) (a0 : Nat) (x1 : Int32) (x2 : Int32) (x3 : Int32) (M : zH) (r : Int32) (M' : zH)  (h : F_Mo_when_b34 n E S (a0, x1, x2, x3, M) = some (r, M')) : zG E Y_Mo_when (some (.int r), S, M') 34 [(0, .ref a0), (1, .int x1), (2, .int x2), (3, .int x3)] [] S M 0 0 := by
  have key : ∀ (k : Nat) (a0 : Nat) (x1 : Int32) (x2 : Int32) (x3 : Int32) (M : zH), zfix (fun r34 s => F_Mo_when_L34 n E S r34 s.1 s.2.1 s.2.2.1 s.2.2.2.1 s.2.2.2.2) k (a0, x1, x2, x3, M) = some (r, M') → zG E Y_Mo_when (some (.int r), S, M') 34 [(0, .ref a0), (1, .int x1), (2, .int x2), (3, .int x3)] [] S M 0 0 := by
    intro k
    induction k with
    | zero => intro a0 x1 x2 x3 M h; cases h
    | succ k ih => intro a0 x1 x2 x3 M h; exact K_Mo_when_L34 n E S _ a0 x1 x2 x3 M r M'  (fun a0 x1 x2 x3 M h => ih a0 x1 x2 x3 M h) h
  exact key n a0 x1 x2 x3 M h
theorem K_Mo_when (n : Nat) (E : zE) (S : zS) (a0 : Nat) (x1 : Int32) (x2 : Int32) (M : zH) (r : Int32) (M' : zH)  (h : F_Mo_when n E S a0 x1 x2 M = some (r, M')) : zG E Y_Mo_when (some (.int r), S, M') 0 [(0, .ref a0), (1, .int x1), (2, .int x2)] [] S M 0 0 := by
  unfold F_Mo_when at h
  refine zi_aload_n 0 d_Mo_when_0 rfl ?_
  refine zi_iconst 0 d_Mo_when_1 rfl ?_
  obtain ⟨m_9, em_9, h⟩ := zbind h
  refine zo_putI 5 zkd_11 0 d_Mo_when_2 em_9 rfl rfl rfl tw_1231 rfl ?_
  refine zi_iload_n 1 d_Mo_when_5 rfl ?_
  obtain ⟨q_10, eq_10, h⟩ := zbind h
  refine zo_stat (k' := 0) (n' := 0) 9 [.int x1] [] [.int (bI q_10.1)] (C_Mo_isField n E S x1 m_9 q_10.1 q_10.2 eq_10) d_Mo_when_6 tw_1440 tw_1438 tw_1439 tw_13 dd_Mo_isField ⟨Nat.le_of_ble_eq_true rfl, Nat.le_of_ble_eq_true rfl, Nat.le_of_ble_eq_true rfl, Nat.le_of_ble_eq_true rfl⟩ (Nat.le_of_ble_eq_true rfl) rfl rfl rfl rfl ?_
  refine zo_ifeqB d_Mo_when_9 rfl 12 rfl (fun c_11 => ?_) (fun c_11 => ?_)
  · rw [if_neg c_11] at h
    refine zi_iconst (-1) d_Mo_when_24 rfl ?_
    cases h
    exact zo_ret d_Mo_when_25 (Nat.le_of_ble_eq_true rfl) (Nat.le_of_ble_eq_true rfl) rfl
  · rw [if_pos c_11] at h
    refine zi_iload_n 2 d_Mo_when_12 rfl ?_
    refine zi_i2l d_Mo_when_13 ?_
    refine zi_lconst 0 d_Mo_when_14 rfl ?_
    refine zi_ldc2 d_Mo_when_15 tw_1517 ?_
    obtain ⟨q_12, eq_12, h⟩ := zbind h
    refine zo_stat (k' := 0) (n' := 0) 21 [.long x2.toInt64, .long 0, .long 400] [] [.int (bI q_12.1)] (C_Mo_in n E S x2.toInt64 0 400 q_10.2 q_12.1 q_12.2 eq_12) d_Mo_when_18 tw_1421 tw_1419 tw_1420 tw_13 dd_Mo_in ⟨Nat.le_of_ble_eq_true rfl, Nat.le_of_ble_eq_true rfl, Nat.le_of_ble_eq_true rfl, Nat.le_of_ble_eq_true rfl⟩ (Nat.le_of_ble_eq_true rfl) rfl rfl rfl rfl ?_
    refine zo_ifneB d_Mo_when_21 rfl 24 rfl (fun c_13 => ?_) (fun c_13 => ?_)
    · rw [if_pos c_13] at h
      refine zi_aload_n 0 d_Mo_when_26 rfl ?_
      refine zi_bipush 16 d_Mo_when_27 rfl ?_
      obtain ⟨u_14, eu_14, h⟩ := zbind h
      obtain ⟨q_15, eq_15, h⟩ := zbind h
      refine zo_virt (k' := 0) (n' := 0) 32 [.int 16] [] [] zkd_11 (zck_s eu_14) (C_Mo_keepAll n E S a0 16 q_12.2 q_15 eq_15) d_Mo_when_29 tw_1706 tw_1703 tw_1705 ts_80 tw_13 dd_Mo_keepAll ⟨Nat.le_of_ble_eq_true rfl, Nat.le_of_ble_eq_true rfl, Nat.le_of_ble_eq_true rfl, Nat.le_of_ble_eq_true rfl⟩ (Nat.le_of_ble_eq_true rfl) rfl rfl rfl rfl ?_
      refine zi_iconst 0 d_Mo_when_32 rfl ?_
      refine zi_istore_n [(3, .int 0), (0, .ref a0), (1, .int x1), (2, .int x2)] d_Mo_when_33 (by decide) rfl ?_
      refine zi_lo [(0, .ref a0), (1, .int x1), (2, .int x2), (3, .int 0)] [1, 2, 3, 0] rfl ?_
      exact K_Mo_when_b34 n E S a0 x1 x2 0 q_15 r M'  h
    · rw [if_neg c_13] at h
      refine zi_iconst (-1) d_Mo_when_24 rfl ?_
      cases h
      exact zo_ret d_Mo_when_25 (Nat.le_of_ble_eq_true rfl) (Nat.le_of_ble_eq_true rfl) rfl
theorem C_Mo_when (n : Nat) (E : zE) (S : zS) (a0 : Nat) (x1 : Int32) (x2 : Int32) (M : zH) (r : Int32) (M' : zH) (h : F_Mo_when n E S a0 x1 x2 M = some (r, M')) : zC E Y_Mo_when [.ref a0, .int x1, .int x2] S M (some (.int r), S, M') :=
  zC.of (Or.inl (show plainName "NightColanderModel" = true by decide)) (Nat.le_of_ble_eq_true rfl) (trivial) (K_Mo_when n E S a0 x1 x2 M r M' h)
