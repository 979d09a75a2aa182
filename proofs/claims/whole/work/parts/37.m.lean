/-! METHODS (printed by gen/build.py): Mo_emit Mo_settle Mo_behindSum Mo_behindTest Mo_leaf Mo_number Mo_openBracket Mo_orderPartAt Mo_partAt Mo_readPart -/
theorem d_Mo_emit_0 : decode (yB Y_Mo_emit) 0 = .ok (.aload_n 0, 1) := by decide +kernel
theorem d_Mo_emit_1 : decode (yB Y_Mo_emit) 1 = .ok (.getfield 45, 3) := by decide +kernel
theorem d_Mo_emit_4 : decode (yB Y_Mo_emit) 4 = .ok (.aload_n 0, 1) := by decide +kernel
theorem d_Mo_emit_5 : decode (yB Y_Mo_emit) 5 = .ok (.getfield 291, 3) := by decide +kernel
theorem d_Mo_emit_8 : decode (yB Y_Mo_emit) 8 = .ok (.iload_n 1, 1) := by decide +kernel
theorem d_Mo_emit_9 : decode (yB Y_Mo_emit) 9 = .ok (.iastore, 1) := by decide +kernel
theorem d_Mo_emit_10 : decode (yB Y_Mo_emit) 10 = .ok (.aload_n 0, 1) := by decide +kernel
theorem d_Mo_emit_11 : decode (yB Y_Mo_emit) 11 = .ok (.getfield 48, 3) := by decide +kernel
theorem d_Mo_emit_14 : decode (yB Y_Mo_emit) 14 = .ok (.aload_n 0, 1) := by decide +kernel
theorem d_Mo_emit_15 : decode (yB Y_Mo_emit) 15 = .ok (.getfield 291, 3) := by decide +kernel
theorem d_Mo_emit_18 : decode (yB Y_Mo_emit) 18 = .ok (.iload_n 2, 1) := by decide +kernel
theorem d_Mo_emit_19 : decode (yB Y_Mo_emit) 19 = .ok (.iastore, 1) := by decide +kernel
theorem d_Mo_emit_20 : decode (yB Y_Mo_emit) 20 = .ok (.aload_n 0, 1) := by decide +kernel
theorem d_Mo_emit_21 : decode (yB Y_Mo_emit) 21 = .ok (.dup, 1) := by decide +kernel
theorem d_Mo_emit_22 : decode (yB Y_Mo_emit) 22 = .ok (.getfield 291, 3) := by decide +kernel
theorem d_Mo_emit_25 : decode (yB Y_Mo_emit) 25 = .ok (.iconst 1, 1) := by decide +kernel
theorem d_Mo_emit_26 : decode (yB Y_Mo_emit) 26 = .ok (.iadd, 1) := by decide +kernel
theorem d_Mo_emit_27 : decode (yB Y_Mo_emit) 27 = .ok (.putfield 291, 3) := by decide +kernel
theorem d_Mo_emit_30 : decode (yB Y_Mo_emit) 30 = .ok (.return_, 1) := by decide +kernel
def F_Mo_emit (n : Nat) (E : zE) (S : zS) (a0 : Nat) (x1 : Int32) (x2 : Int32) (M : zH) : Option (zH) :=
  (zgR S a0 11 24).bind fun b_1 =>
  (zgI S M a0 11 23).bind fun v_2 =>
  (zstI S M b_1 v_2 x1).bind fun m_3 =>
  (zgR S a0 11 25).bind fun b_4 =>
  (zgI S m_3 a0 11 23).bind fun v_5 =>
  (zstI S m_3 b_4 v_5 x2).bind fun m_6 =>
  (zgI S m_6 a0 11 23).bind fun v_7 =>
  (zpI S m_6 a0 11 23 (v_7 + 1)).bind fun m_8 =>
  some (m_8)
theorem K_Mo_emit (n : Nat) (E : zE) (S : zS) (a0 : Nat) (x1 : Int32) (x2 : Int32) (M : zH) (M' : zH)  (h : F_Mo_emit n E S a0 x1 x2 M = some M') : zG E Y_Mo_emit (none, S, M') 0 [(0, .ref a0), (1, .int x1), (2, .int x2)] [] S M 0 0 := by
  unfold F_Mo_emit at h
  refine zi_aload_n 0 d_Mo_emit_0 rfl ?_
  obtain ⟨b_1, eb_1, h⟩ := zbind h
  refine zo_getR 4 zkd_11 24 d_Mo_emit_1 eb_1 rfl tw_1253 rfl ?_
  refine zi_aload_n 0 d_Mo_emit_4 rfl ?_
  obtain ⟨v_2, ev_2, h⟩ := zbind h
  refine zo_getI 8 zkd_11 23 d_Mo_emit_5 ev_2 rfl tw_1252 rfl ?_
  refine zi_iload_n 1 d_Mo_emit_8 rfl ?_
  obtain ⟨m_3, em_3, h⟩ := zbind h
  refine zo_iast 10 d_Mo_emit_9 em_3 rfl ?_
  refine zi_aload_n 0 d_Mo_emit_10 rfl ?_
  obtain ⟨b_4, eb_4, h⟩ := zbind h
  refine zo_getR 14 zkd_11 25 d_Mo_emit_11 eb_4 rfl tw_1254 rfl ?_
  refine zi_aload_n 0 d_Mo_emit_14 rfl ?_
  obtain ⟨v_5, ev_5, h⟩ := zbind h
  refine zo_getI 18 zkd_11 23 d_Mo_emit_15 ev_5 rfl tw_1252 rfl ?_
  refine zi_iload_n 2 d_Mo_emit_18 rfl ?_
  obtain ⟨m_6, em_6, h⟩ := zbind h
  refine zo_iast 20 d_Mo_emit_19 em_6 rfl ?_
  refine zi_aload_n 0 d_Mo_emit_20 rfl ?_
  refine zi_dup d_Mo_emit_21 rfl ?_
  obtain ⟨v_7, ev_7, h⟩ := zbind h
  refine zo_getI 25 zkd_11 23 d_Mo_emit_22 ev_7 rfl tw_1252 rfl ?_
  refine zi_iconst 1 d_Mo_emit_25 rfl ?_
  refine zi_iadd d_Mo_emit_26 ?_
  obtain ⟨m_8, em_8, h⟩ := zbind h
  refine zo_putI 30 zkd_11 23 d_Mo_emit_27 em_8 rfl rfl rfl tw_1252 rfl ?_
  cases h
  exact zo_ret d_Mo_emit_30 (Nat.le_of_ble_eq_true rfl) (Nat.le_of_ble_eq_true rfl) rfl
theorem C_Mo_emit (n : Nat) (E : zE) (S : zS) (a0 : Nat) (x1 : Int32) (x2 : Int32) (M : zH) (M' : zH) (h : F_Mo_emit n E S a0 x1 x2 M = some M') : zC E Y_Mo_emit [.ref a0, .int x1, .int x2] S M (none, S, M') :=
  zC.of (Or.inl (show plainName "NightColanderModel" = true by decide)) (Nat.le_of_ble_eq_true rfl) (trivial) (K_Mo_emit n E S a0 x1 x2 M M' h)
theorem d_Mo_settle_0 : decode (yB Y_Mo_settle) 0 = .ok (.aload_n 0, 1) := by decide +kernel
theorem d_Mo_settle_1 : decode (yB Y_Mo_settle) 1 = .ok (.getfield 294, 3) := by decide +kernel
theorem d_Mo_settle_4 : decode (yB Y_Mo_settle) 4 = .ok (.ifCond .le 97, 3) := by decide +kernel
theorem d_Mo_settle_7 : decode (yB Y_Mo_settle) 7 = .ok (.aload_n 0, 1) := by decide +kernel
theorem d_Mo_settle_8 : decode (yB Y_Mo_settle) 8 = .ok (.getfield 51, 3) := by decide +kernel
theorem d_Mo_settle_11 : decode (yB Y_Mo_settle) 11 = .ok (.aload_n 0, 1) := by decide +kernel
theorem d_Mo_settle_12 : decode (yB Y_Mo_settle) 12 = .ok (.getfield 294, 3) := by decide +kernel
theorem d_Mo_settle_15 : decode (yB Y_Mo_settle) 15 = .ok (.iconst 1, 1) := by decide +kernel
theorem d_Mo_settle_16 : decode (yB Y_Mo_settle) 16 = .ok (.isub, 1) := by decide +kernel
theorem d_Mo_settle_17 : decode (yB Y_Mo_settle) 17 = .ok (.iaload, 1) := by decide +kernel
theorem d_Mo_settle_18 : decode (yB Y_Mo_settle) 18 = .ok (.invokestatic 297, 3) := by decide +kernel
theorem d_Mo_settle_21 : decode (yB Y_Mo_settle) 21 = .ok (.iload_n 1, 1) := by decide +kernel
theorem d_Mo_settle_22 : decode (yB Y_Mo_settle) 22 = .ok (.if_icmp .lt 79, 3) := by decide +kernel
theorem d_Mo_settle_25 : decode (yB Y_Mo_settle) 25 = .ok (.aload_n 0, 1) := by decide +kernel
theorem d_Mo_settle_26 : decode (yB Y_Mo_settle) 26 = .ok (.dup, 1) := by decide +kernel
theorem d_Mo_settle_27 : decode (yB Y_Mo_settle) 27 = .ok (.getfield 294, 3) := by decide +kernel
theorem d_Mo_settle_30 : decode (yB Y_Mo_settle) 30 = .ok (.iconst 1, 1) := by decide +kernel
theorem d_Mo_settle_31 : decode (yB Y_Mo_settle) 31 = .ok (.isub, 1) := by decide +kernel
theorem d_Mo_settle_32 : decode (yB Y_Mo_settle) 32 = .ok (.putfield 294, 3) := by decide +kernel
theorem d_Mo_settle_35 : decode (yB Y_Mo_settle) 35 = .ok (.aload_n 0, 1) := by decide +kernel
theorem d_Mo_settle_36 : decode (yB Y_Mo_settle) 36 = .ok (.getfield 51, 3) := by decide +kernel
theorem d_Mo_settle_39 : decode (yB Y_Mo_settle) 39 = .ok (.aload_n 0, 1) := by decide +kernel
theorem d_Mo_settle_40 : decode (yB Y_Mo_settle) 40 = .ok (.getfield 294, 3) := by decide +kernel
theorem d_Mo_settle_43 : decode (yB Y_Mo_settle) 43 = .ok (.iaload, 1) := by decide +kernel
theorem d_Mo_settle_44 : decode (yB Y_Mo_settle) 44 = .ok (.bipush 29, 2) := by decide +kernel
theorem d_Mo_settle_46 : decode (yB Y_Mo_settle) 46 = .ok (.if_icmp .eq 17, 3) := by decide +kernel
theorem d_Mo_settle_49 : decode (yB Y_Mo_settle) 49 = .ok (.aload_n 0, 1) := by decide +kernel
theorem d_Mo_settle_50 : decode (yB Y_Mo_settle) 50 = .ok (.getfield 51, 3) := by decide +kernel
theorem d_Mo_settle_53 : decode (yB Y_Mo_settle) 53 = .ok (.aload_n 0, 1) := by decide +kernel
theorem d_Mo_settle_54 : decode (yB Y_Mo_settle) 54 = .ok (.getfield 294, 3) := by decide +kernel
theorem d_Mo_settle_57 : decode (yB Y_Mo_settle) 57 = .ok (.iaload, 1) := by decide +kernel
theorem d_Mo_settle_58 : decode (yB Y_Mo_settle) 58 = .ok (.bipush 30, 2) := by decide +kernel
theorem d_Mo_settle_60 : decode (yB Y_Mo_settle) 60 = .ok (.if_icmp .ne 24, 3) := by decide +kernel
theorem d_Mo_settle_63 : decode (yB Y_Mo_settle) 63 = .ok (.aload_n 0, 1) := by decide +kernel
theorem d_Mo_settle_64 : decode (yB Y_Mo_settle) 64 = .ok (.getfield 48, 3) := by decide +kernel
theorem d_Mo_settle_67 : decode (yB Y_Mo_settle) 67 = .ok (.aload_n 0, 1) := by decide +kernel
theorem d_Mo_settle_68 : decode (yB Y_Mo_settle) 68 = .ok (.getfield 54, 3) := by decide +kernel
theorem d_Mo_settle_71 : decode (yB Y_Mo_settle) 71 = .ok (.aload_n 0, 1) := by decide +kernel
theorem d_Mo_settle_72 : decode (yB Y_Mo_settle) 72 = .ok (.getfield 294, 3) := by decide +kernel
theorem d_Mo_settle_75 : decode (yB Y_Mo_settle) 75 = .ok (.iaload, 1) := by decide +kernel
theorem d_Mo_settle_76 : decode (yB Y_Mo_settle) 76 = .ok (.aload_n 0, 1) := by decide +kernel
theorem d_Mo_settle_77 : decode (yB Y_Mo_settle) 77 = .ok (.getfield 291, 3) := by decide +kernel
theorem d_Mo_settle_80 : decode (yB Y_Mo_settle) 80 = .ok (.iastore, 1) := by decide +kernel
theorem d_Mo_settle_81 : decode (yB Y_Mo_settle) 81 = .ok (.goto (-81), 3) := by decide +kernel
theorem d_Mo_settle_84 : decode (yB Y_Mo_settle) 84 = .ok (.aload_n 0, 1) := by decide +kernel
theorem d_Mo_settle_85 : decode (yB Y_Mo_settle) 85 = .ok (.aload_n 0, 1) := by decide +kernel
theorem d_Mo_settle_86 : decode (yB Y_Mo_settle) 86 = .ok (.getfield 51, 3) := by decide +kernel
theorem d_Mo_settle_89 : decode (yB Y_Mo_settle) 89 = .ok (.aload_n 0, 1) := by decide +kernel
theorem d_Mo_settle_90 : decode (yB Y_Mo_settle) 90 = .ok (.getfield 294, 3) := by decide +kernel
theorem d_Mo_settle_93 : decode (yB Y_Mo_settle) 93 = .ok (.iaload, 1) := by decide +kernel
theorem d_Mo_settle_94 : decode (yB Y_Mo_settle) 94 = .ok (.iconst 0, 1) := by decide +kernel
theorem d_Mo_settle_95 : decode (yB Y_Mo_settle) 95 = .ok (.invokevirtual 300, 3) := by decide +kernel
theorem d_Mo_settle_98 : decode (yB Y_Mo_settle) 98 = .ok (.goto (-98), 3) := by decide +kernel
theorem d_Mo_settle_101 : decode (yB Y_Mo_settle) 101 = .ok (.return_, 1) := by decide +kernel
def F_Mo_settle_b63 (n : Nat) (E : zE) (S : zS) (r0 : Nat × Int32 × zH → Option (zH)) (a0 : Nat) (x1 : Int32) (M : zH) : Option (zH) :=
  (zgR S a0 11 25).bind fun b_1 =>
  (zgR S a0 11 28).bind fun b_2 =>
  (zgI S M a0 11 29).bind fun v_3 =>
  (zldI S M b_2 v_3).bind fun v_4 =>
  (zgI S M a0 11 23).bind fun v_5 =>
  (zstI S M b_1 v_4 v_5).bind fun m_6 =>
  r0 (a0, x1, m_6)
def F_Mo_settle_L0 (n : Nat) (E : zE) (S : zS) (r0 : Nat × Int32 × zH → Option (zH)) (a0 : Nat) (x1 : Int32) (M : zH) : Option (zH) :=
  (zgI S M a0 11 29).bind fun v_7 =>
  if v_7 ≤ 0 then
    some (M)
  else
    (zgR S a0 11 27).bind fun b_9 =>
    (zgI S M a0 11 29).bind fun v_10 =>
    (zldI S M b_9 (v_10 - 1)).bind fun v_11 =>
    (F_Mo_binds n E S v_11 M).bind fun q_12 =>
    if q_12.1 < x1 then
      some (q_12.2)
    else
      (zgI S q_12.2 a0 11 29).bind fun v_14 =>
      (zpI S q_12.2 a0 11 29 (v_14 - 1)).bind fun m_15 =>
      (zgI S m_15 a0 11 29).bind fun v_16 =>
      (zldI S m_15 b_9 v_16).bind fun v_17 =>
      if v_17 = 29 then
        F_Mo_settle_b63 n E S r0 a0 x1 m_15
      else
        (zgI S m_15 a0 11 29).bind fun v_19 =>
        (zldI S m_15 b_9 v_19).bind fun v_20 =>
        if v_20 = 30 then
          F_Mo_settle_b63 n E S r0 a0 x1 m_15
        else
          (zgI S m_15 a0 11 29).bind fun v_22 =>
          (zldI S m_15 b_9 v_22).bind fun v_23 =>
          (F_Mo_emit n E S a0 v_23 0 m_15).bind fun q_24 =>
          r0 (a0, x1, q_24)
def F_Mo_settle_b0 (n : Nat) (E : zE) (S : zS) : Nat × Int32 × zH → Option (zH) := zfix (fun r0 s => F_Mo_settle_L0 n E S r0 s.1 s.2.1 s.2.2) n
def F_Mo_settle (n : Nat) (E : zE) (S : zS) (a0 : Nat) (x1 : Int32) (M : zH) : Option (zH) :=
  F_Mo_settle_b0 n E S (a0, x1, M)
theorem K_Mo_settle_b63 (n : Nat) (E : zE) (S : zS) (r0 : Nat × Int32 × zH → Option (zH)) (a0 : Nat) (x1 : Int32) (M : zH) (M' : zH) (hr0 : ∀ (a0 : Nat) (x1 : Int32) (M : zH), r0 (a0, x1, M) = some M' → zG E Y_Mo_settle (none, S, M') 0 [(0, .ref a0), (1, .int x1)] [] S M 0 0) (h : F_Mo_settle_b63 n E S r0 a0 x1 M = some M') : zG E Y_Mo_settle (none, S, M') 63 [(0, .ref a0), (1, .int x1)] [] S M 0 0 := by
  unfold F_Mo_settle_b63 at h
  refine zi_aload_n 0 d_Mo_settle_63 rfl ?_
  obtain ⟨b_1, eb_1, h⟩ := zbind h
  refine zo_getR 67 zkd_11 25 d_Mo_settle_64 eb_1 rfl tw_1254 rfl ?_
  refine zi_aload_n 0 d_Mo_settle_67 rfl ?_
  obtain ⟨b_2, eb_2, h⟩ := zbind h
  refine zo_getR 71 zkd_11 28 d_Mo_settle_68 eb_2 rfl tw_1257 rfl ?_
  refine zi_aload_n 0 d_Mo_settle_71 rfl ?_
  obtain ⟨v_3, ev_3, h⟩ := zbind h
  refine zo_getI 75 zkd_11 29 d_Mo_settle_72 ev_3 rfl tw_1258 rfl ?_
  obtain ⟨v_4, ev_4, h⟩ := zbind h
  refine zo_iald 76 d_Mo_settle_75 ev_4 rfl ?_
  refine zi_aload_n 0 d_Mo_settle_76 rfl ?_
  obtain ⟨v_5, ev_5, h⟩ := zbind h
  refine zo_getI 80 zkd_11 23 d_Mo_settle_77 ev_5 rfl tw_1252 rfl ?_
  obtain ⟨m_6, em_6, h⟩ := zbind h
  refine zo_iast 81 d_Mo_settle_80 em_6 rfl ?_
  refine zi_goto (tgt := 0) d_Mo_settle_81 rfl ?_
  refine zi_lo [(0, .ref a0), (1, .int x1)] [0, 1] rfl ?_
  exact hr0 a0 x1 m_6 h
theorem K_Mo_settle_L0 (n : Nat) (E : zE) (S : zS) (r0 : Nat × Int32 × zH → Option (zH)) (a0 : Nat) (x1 : Int32) (M : zH) (M' : zH) (hr0 : ∀ (a0 : Nat) (x1 : Int32) (M : zH), r0 (a0, x1, M) = some M' → zG E Y_Mo_settle (none, S, M') 0 [(0, .ref a0), (1, .int x1)] [] S M 0 0) (h : F_Mo_settle_L0 n E S r0 a0 x1 M = some M') : zG E Y_Mo_settle (none, S, M') 0 [(0, .ref a0), (1, .int x1)] [] S M 0 0 := by
  unfold F_Mo_settle_L0 at h
  refine zi_aload_n 0 d_Mo_settle_0 rfl ?_
  obtain ⟨v_7, ev_7, h⟩ := zbind h
  refine zo_getI 4 zkd_11 29 d_Mo_settle_1 ev_7 rfl tw_1258 rfl ?_
  refine zi_if_le (tgt := 101) d_Mo_settle_4 rfl (fun c_8 => ?_) (fun c_8 => ?_)
  · rw [if_pos c_8] at h
    cases h
    exact zo_ret d_Mo_settle_101 (Nat.le_of_ble_eq_true rfl) (Nat.le_of_ble_eq_true rfl) rfl
  · rw [if_neg c_8] at h
    refine zi_aload_n 0 d_Mo_settle_7 rfl ?_
    obtain ⟨b_9, eb_9, h⟩ := zbind h
    refine zo_getR 11 zkd_11 27 d_Mo_settle_8 eb_9 rfl tw_1256 rfl ?_
    refine zi_aload_n 0 d_Mo_settle_11 rfl ?_
    obtain ⟨v_10, ev_10, h⟩ := zbind h
    refine zo_getI 15 zkd_11 29 d_Mo_settle_12 ev_10 rfl tw_1258 rfl ?_
    refine zi_iconst 1 d_Mo_settle_15 rfl ?_
    refine zi_isub d_Mo_settle_16 ?_
    obtain ⟨v_11, ev_11, h⟩ := zbind h
    refine zo_iald 18 d_Mo_settle_17 ev_11 rfl ?_
    obtain ⟨q_12, eq_12, h⟩ := zbind h
    refine zo_stat (k' := 0) (n' := 0) 21 [.int v_11] [] [.int q_12.1] (C_Mo_binds n E S v_11 M q_12.1 q_12.2 eq_12) d_Mo_settle_18 tw_1653 tw_1651 tw_1652 tw_13 dd_Mo_binds ⟨Nat.le_of_ble_eq_true rfl, Nat.le_of_ble_eq_true rfl, Nat.le_of_ble_eq_true rfl, Nat.le_of_ble_eq_true rfl⟩ (Nat.le_of_ble_eq_true rfl) rfl rfl rfl rfl ?_
    refine zi_iload_n 1 d_Mo_settle_21 rfl ?_
    refine zi_icmp_lt (tgt := 101) d_Mo_settle_22 rfl (fun c_13 => ?_) (fun c_13 => ?_)
    · rw [if_pos c_13] at h
      cases h
      exact zo_ret d_Mo_settle_101 (Nat.le_of_ble_eq_true rfl) (Nat.le_of_ble_eq_true rfl) rfl
    · rw [if_neg c_13] at h
      refine zi_aload_n 0 d_Mo_settle_25 rfl ?_
      refine zi_dup d_Mo_settle_26 rfl ?_
      obtain ⟨v_14, ev_14, h⟩ := zbind h
      refine zo_getI 30 zkd_11 29 d_Mo_settle_27 ev_14 rfl tw_1258 rfl ?_
      refine zi_iconst 1 d_Mo_settle_30 rfl ?_
      refine zi_isub d_Mo_settle_31 ?_
      obtain ⟨m_15, em_15, h⟩ := zbind h
      refine zo_putI 35 zkd_11 29 d_Mo_settle_32 em_15 rfl rfl rfl tw_1258 rfl ?_
      refine zi_aload_n 0 d_Mo_settle_35 rfl ?_
      refine zo_getR 39 zkd_11 27 d_Mo_settle_36 eb_9 rfl tw_1256 rfl ?_
      refine zi_aload_n 0 d_Mo_settle_39 rfl ?_
      obtain ⟨v_16, ev_16, h⟩ := zbind h
      refine zo_getI 43 zkd_11 29 d_Mo_settle_40 ev_16 rfl tw_1258 rfl ?_
      obtain ⟨v_17, ev_17, h⟩ := zbind h
      refine zo_iald 44 d_Mo_settle_43 ev_17 rfl ?_
      refine zi_bipush 29 d_Mo_settle_44 rfl ?_
      refine zi_icmp_eq (tgt := 63) d_Mo_settle_46 rfl (fun c_18 => ?_) (fun c_18 => ?_)
      · rw [if_pos c_18] at h
        refine zi_lo [(0, .ref a0), (1, .int x1)] [0, 1] rfl ?_
        exact K_Mo_settle_b63 n E S r0 a0 x1 m_15 M' hr0 h
      · rw [if_neg c_18] at h
        refine zi_aload_n 0 d_Mo_settle_49 rfl ?_
        refine zo_getR 53 zkd_11 27 d_Mo_settle_50 eb_9 rfl tw_1256 rfl ?_
        refine zi_aload_n 0 d_Mo_settle_53 rfl ?_
        obtain ⟨v_19, ev_19, h⟩ := zbind h
        refine zo_getI 57 zkd_11 29 d_Mo_settle_54 ev_19 rfl tw_1258 rfl ?_
        obtain ⟨v_20, ev_20, h⟩ := zbind h
        refine zo_iald 58 d_Mo_settle_57 ev_20 rfl ?_
        refine zi_bipush 30 d_Mo_settle_58 rfl ?_
        refine zi_icmp_ne (tgt := 84) d_Mo_settle_60 rfl (fun c_21 => ?_) (fun c_21 => ?_)
        · rw [if_neg c_21] at h
          refine zi_aload_n 0 d_Mo_settle_84 rfl ?_
          refine zi_aload_n 0 d_Mo_settle_85 rfl ?_
          refine zo_getR 89 zkd_11 27 d_Mo_settle_86 eb_9 rfl tw_1256 rfl ?_
          refine zi_aload_n 0 d_Mo_settle_89 rfl ?_
          obtain ⟨v_22, ev_22, h⟩ := zbind h
          refine zo_getI 93 zkd_11 29 d_Mo_settle_90 ev_22 rfl tw_1258 rfl ?_
          obtain ⟨v_23, ev_23, h⟩ := zbind h
          refine zo_iald 94 d_Mo_settle_93 ev_23 rfl ?_
          refine zi_iconst 0 d_Mo_settle_94 rfl ?_
          obtain ⟨q_24, eq_24, h⟩ := zbind h
          refine zo_virt (k' := 0) (n' := 0) 98 [.int v_23, .int 0] [] [] zkd_11 (zgI_s ev_7).1 (C_Mo_emit n E S a0 v_23 0 m_15 q_24 eq_24) d_Mo_settle_95 tw_1641 tw_1638 tw_1640 ts_69 tw_13 dd_Mo_emit ⟨Nat.le_of_ble_eq_true rfl, Nat.le_of_ble_eq_true rfl, Nat.le_of_ble_eq_true rfl, Nat.le_of_ble_eq_true rfl⟩ (Nat.le_of_ble_eq_true rfl) rfl rfl rfl rfl ?_
          refine zi_goto (tgt := 0) d_Mo_settle_98 rfl ?_
          refine zi_lo [(0, .ref a0), (1, .int x1)] [0, 1] rfl ?_
          exact hr0 a0 x1 q_24 h
        · rw [if_pos c_21] at h
          refine zi_lo [(0, .ref a0), (1, .int x1)] [0, 1] rfl ?_
          exact K_Mo_settle_b63 n E S r0 a0 x1 m_15 M' hr0 h
theorem K_Mo_settle_b0 (n : Nat) (E : zE) (S : zS) (a0 : Nat) (x1 : Int32) (M : zH) (M' : zH)  (h : F_Mo_settle_b0 n E S (a0, x1, M) = some M') : zG E Y_Mo_settle (none, S, M') 0 [(0, .ref a0), (1, .int x1)] [] S M 0 0 := by
  have key : ∀ (k : Nat) (a0 : Nat) (x1 : Int32) (M : zH), zfix (fun r0 s => F_Mo_settle_L0 n E S r0 s.1 s.2.1 s.2.2) k (a0, x1, M) = some M' → zG E Y_Mo_settle (none, S, M') 0 [(0, .ref a0), (1, .int x1)] [] S M 0 0 := by
    intro k
    induction k with
    | zero => intro a0 x1 M h; cases h
    | succ k ih => intro a0 x1 M h; exact K_Mo_settle_L0 n E S _ a0 x1 M M'  (fun a0 x1 M h => ih a0 x1 M h) h
  exact key n a0 x1 M h
theorem K_Mo_settle (n : Nat) (E : zE) (S : zS) (a0 : Nat) (x1 : Int32) (M : zH) (M' : zH)  (h : F_Mo_settle n E S a0 x1 M = some M') : zG E Y_Mo_settle (none, S, M') 0 [(0, .ref a0), (1, .int x1)] [] S M 0 0 := by
  unfold F_Mo_settle at h
  refine zi_lo [(0, .ref a0), (1, .int x1)] [0, 1] rfl ?_
  exact K_Mo_settle_b0 n E S a0 x1 M M'  h
theorem C_Mo_settle (n : Nat) (E : zE) (S : zS) (a0 : Nat) (x1 : Int32) (M : zH) (M' : zH) (h : F_Mo_settle n E S a0 x1 M = some M') : zC E Y_Mo_settle [.ref a0, .int x1] S M (none, S, M') :=
  zC.of (Or.inl (show plainName "NightColanderModel" = true by decide)) (Nat.le_of_ble_eq_true rfl) (trivial) (K_Mo_settle n E S a0 x1 M M' h)
theorem d_Mo_behindSum_0 : decode (yB Y_Mo_behindSum) 0 = .ok (.aload_n 0, 1) := by decide +kernel
theorem d_Mo_behindSum_1 : decode (yB Y_Mo_behindSum) 1 = .ok (.bipush 43, 2) := by decide +kernel
theorem d_Mo_behindSum_3 : decode (yB Y_Mo_behindSum) 3 = .ok (.invokevirtual 325, 3) := by decide +kernel
theorem d_Mo_behindSum_6 : decode (yB Y_Mo_behindSum) 6 = .ok (.ifCond .eq 8, 3) := by decide +kernel
theorem d_Mo_behindSum_9 : decode (yB Y_Mo_behindSum) 9 = .ok (.bipush 20, 2) := by decide +kernel
theorem d_Mo_behindSum_11 : decode (yB Y_Mo_behindSum) 11 = .ok (.goto 60, 3) := by decide +kernel
theorem d_Mo_behindSum_14 : decode (yB Y_Mo_behindSum) 14 = .ok (.aload_n 0, 1) := by decide +kernel
theorem d_Mo_behindSum_15 : decode (yB Y_Mo_behindSum) 15 = .ok (.bipush 45, 2) := by decide +kernel
theorem d_Mo_behindSum_17 : decode (yB Y_Mo_behindSum) 17 = .ok (.invokevirtual 325, 3) := by decide +kernel
theorem d_Mo_behindSum_20 : decode (yB Y_Mo_behindSum) 20 = .ok (.ifCond .eq 8, 3) := by decide +kernel
theorem d_Mo_behindSum_23 : decode (yB Y_Mo_behindSum) 23 = .ok (.bipush 21, 2) := by decide +kernel
theorem d_Mo_behindSum_25 : decode (yB Y_Mo_behindSum) 25 = .ok (.goto 46, 3) := by decide +kernel
theorem d_Mo_behindSum_28 : decode (yB Y_Mo_behindSum) 28 = .ok (.aload_n 0, 1) := by decide +kernel
theorem d_Mo_behindSum_29 : decode (yB Y_Mo_behindSum) 29 = .ok (.bipush 42, 2) := by decide +kernel
theorem d_Mo_behindSum_31 : decode (yB Y_Mo_behindSum) 31 = .ok (.invokevirtual 325, 3) := by decide +kernel
theorem d_Mo_behindSum_34 : decode (yB Y_Mo_behindSum) 34 = .ok (.ifCond .eq 8, 3) := by decide +kernel
theorem d_Mo_behindSum_37 : decode (yB Y_Mo_behindSum) 37 = .ok (.bipush 22, 2) := by decide +kernel
theorem d_Mo_behindSum_39 : decode (yB Y_Mo_behindSum) 39 = .ok (.goto 32, 3) := by decide +kernel
theorem d_Mo_behindSum_42 : decode (yB Y_Mo_behindSum) 42 = .ok (.aload_n 0, 1) := by decide +kernel
theorem d_Mo_behindSum_43 : decode (yB Y_Mo_behindSum) 43 = .ok (.bipush 47, 2) := by decide +kernel
theorem d_Mo_behindSum_45 : decode (yB Y_Mo_behindSum) 45 = .ok (.invokevirtual 325, 3) := by decide +kernel
theorem d_Mo_behindSum_48 : decode (yB Y_Mo_behindSum) 48 = .ok (.ifCond .eq 8, 3) := by decide +kernel
theorem d_Mo_behindSum_51 : decode (yB Y_Mo_behindSum) 51 = .ok (.bipush 23, 2) := by decide +kernel
theorem d_Mo_behindSum_53 : decode (yB Y_Mo_behindSum) 53 = .ok (.goto 18, 3) := by decide +kernel
theorem d_Mo_behindSum_56 : decode (yB Y_Mo_behindSum) 56 = .ok (.aload_n 0, 1) := by decide +kernel
theorem d_Mo_behindSum_57 : decode (yB Y_Mo_behindSum) 57 = .ok (.bipush 37, 2) := by decide +kernel
theorem d_Mo_behindSum_59 : decode (yB Y_Mo_behindSum) 59 = .ok (.invokevirtual 325, 3) := by decide +kernel
theorem d_Mo_behindSum_62 : decode (yB Y_Mo_behindSum) 62 = .ok (.ifCond .eq 8, 3) := by decide +kernel
theorem d_Mo_behindSum_65 : decode (yB Y_Mo_behindSum) 65 = .ok (.bipush 24, 2) := by decide +kernel
theorem d_Mo_behindSum_67 : decode (yB Y_Mo_behindSum) 67 = .ok (.goto 4, 3) := by decide +kernel
theorem d_Mo_behindSum_70 : decode (yB Y_Mo_behindSum) 70 = .ok (.iconst (-1), 1) := by decide +kernel
theorem d_Mo_behindSum_71 : decode (yB Y_Mo_behindSum) 71 = .ok (.istore_n 2, 1) := by decide +kernel
theorem d_Mo_behindSum_72 : decode (yB Y_Mo_behindSum) 72 = .ok (.iload_n 2, 1) := by decide +kernel
theorem d_Mo_behindSum_73 : decode (yB Y_Mo_behindSum) 73 = .ok (.iconst (-1), 1) := by decide +kernel
theorem d_Mo_behindSum_74 : decode (yB Y_Mo_behindSum) 74 = .ok (.if_icmp .eq 23, 3) := by decide +kernel
theorem d_Mo_behindSum_77 : decode (yB Y_Mo_behindSum) 77 = .ok (.aload_n 0, 1) := by decide +kernel
theorem d_Mo_behindSum_78 : decode (yB Y_Mo_behindSum) 78 = .ok (.iload_n 2, 1) := by decide +kernel
theorem d_Mo_behindSum_79 : decode (yB Y_Mo_behindSum) 79 = .ok (.invokestatic 297, 3) := by decide +kernel
theorem d_Mo_behindSum_82 : decode (yB Y_Mo_behindSum) 82 = .ok (.invokevirtual 358, 3) := by decide +kernel
theorem d_Mo_behindSum_85 : decode (yB Y_Mo_behindSum) 85 = .ok (.aload_n 0, 1) := by decide +kernel
theorem d_Mo_behindSum_86 : decode (yB Y_Mo_behindSum) 86 = .ok (.iload_n 2, 1) := by decide +kernel
theorem d_Mo_behindSum_87 : decode (yB Y_Mo_behindSum) 87 = .ok (.iconst 0, 1) := by decide +kernel
theorem d_Mo_behindSum_88 : decode (yB Y_Mo_behindSum) 88 = .ok (.invokevirtual 319, 3) := by decide +kernel
theorem d_Mo_behindSum_91 : decode (yB Y_Mo_behindSum) 91 = .ok (.aload_n 0, 1) := by decide +kernel
theorem d_Mo_behindSum_92 : decode (yB Y_Mo_behindSum) 92 = .ok (.invokevirtual 260, 3) := by decide +kernel
theorem d_Mo_behindSum_95 : decode (yB Y_Mo_behindSum) 95 = .ok (.iconst 1, 1) := by decide +kernel
theorem d_Mo_behindSum_96 : decode (yB Y_Mo_behindSum) 96 = .ok (.ireturn, 1) := by decide +kernel
theorem d_Mo_behindSum_97 : decode (yB Y_Mo_behindSum) 97 = .ok (.aload_n 0, 1) := by decide +kernel
theorem d_Mo_behindSum_98 : decode (yB Y_Mo_behindSum) 98 = .ok (.invokevirtual 361, 3) := by decide +kernel
theorem d_Mo_behindSum_101 : decode (yB Y_Mo_behindSum) 101 = .ok (.istore_n 3, 1) := by decide +kernel
theorem d_Mo_behindSum_102 : decode (yB Y_Mo_behindSum) 102 = .ok (.iload_n 3, 1) := by decide +kernel
theorem d_Mo_behindSum_103 : decode (yB Y_Mo_behindSum) 103 = .ok (.bipush 32, 2) := by decide +kernel
theorem d_Mo_behindSum_105 : decode (yB Y_Mo_behindSum) 105 = .ok (.if_icmp .ne 47, 3) := by decide +kernel
theorem d_Mo_behindSum_108 : decode (yB Y_Mo_behindSum) 108 = .ok (.aload_n 0, 1) := by decide +kernel
theorem d_Mo_behindSum_109 : decode (yB Y_Mo_behindSum) 109 = .ok (.aload_n 0, 1) := by decide +kernel
theorem d_Mo_behindSum_110 : decode (yB Y_Mo_behindSum) 110 = .ok (.bipush 93, 2) := by decide +kernel
theorem d_Mo_behindSum_112 : decode (yB Y_Mo_behindSum) 112 = .ok (.invokevirtual 325, 3) := by decide +kernel
theorem d_Mo_behindSum_115 : decode (yB Y_Mo_behindSum) 115 = .ok (.invokevirtual 287, 3) := by decide +kernel
theorem d_Mo_behindSum_118 : decode (yB Y_Mo_behindSum) 118 = .ok (.aload_n 0, 1) := by decide +kernel
theorem d_Mo_behindSum_119 : decode (yB Y_Mo_behindSum) 119 = .ok (.getfield 256, 3) := by decide +kernel
theorem d_Mo_behindSum_122 : decode (yB Y_Mo_behindSum) 122 = .ok (.ifCond .ne 28, 3) := by decide +kernel
theorem d_Mo_behindSum_125 : decode (yB Y_Mo_behindSum) 125 = .ok (.aload_n 0, 1) := by decide +kernel
theorem d_Mo_behindSum_126 : decode (yB Y_Mo_behindSum) 126 = .ok (.iconst 5, 1) := by decide +kernel
theorem d_Mo_behindSum_127 : decode (yB Y_Mo_behindSum) 127 = .ok (.invokevirtual 358, 3) := by decide +kernel
theorem d_Mo_behindSum_130 : decode (yB Y_Mo_behindSum) 130 = .ok (.aload_n 0, 1) := by decide +kernel
theorem d_Mo_behindSum_131 : decode (yB Y_Mo_behindSum) 131 = .ok (.dup, 1) := by decide +kernel
theorem d_Mo_behindSum_132 : decode (yB Y_Mo_behindSum) 132 = .ok (.getfield 294, 3) := by decide +kernel
theorem d_Mo_behindSum_135 : decode (yB Y_Mo_behindSum) 135 = .ok (.iconst 1, 1) := by decide +kernel
theorem d_Mo_behindSum_136 : decode (yB Y_Mo_behindSum) 136 = .ok (.isub, 1) := by decide +kernel
theorem d_Mo_behindSum_137 : decode (yB Y_Mo_behindSum) 137 = .ok (.putfield 294, 3) := by decide +kernel
theorem d_Mo_behindSum_140 : decode (yB Y_Mo_behindSum) 140 = .ok (.aload_n 0, 1) := by decide +kernel
theorem d_Mo_behindSum_141 : decode (yB Y_Mo_behindSum) 141 = .ok (.dup, 1) := by decide +kernel
theorem d_Mo_behindSum_142 : decode (yB Y_Mo_behindSum) 142 = .ok (.getfield 316, 3) := by decide +kernel
theorem d_Mo_behindSum_145 : decode (yB Y_Mo_behindSum) 145 = .ok (.iconst 1, 1) := by decide +kernel
theorem d_Mo_behindSum_146 : decode (yB Y_Mo_behindSum) 146 = .ok (.isub, 1) := by decide +kernel
theorem d_Mo_behindSum_147 : decode (yB Y_Mo_behindSum) 147 = .ok (.putfield 316, 3) := by decide +kernel
theorem d_Mo_behindSum_150 : decode (yB Y_Mo_behindSum) 150 = .ok (.iconst 3, 1) := by decide +kernel
theorem d_Mo_behindSum_151 : decode (yB Y_Mo_behindSum) 151 = .ok (.ireturn, 1) := by decide +kernel
theorem d_Mo_behindSum_152 : decode (yB Y_Mo_behindSum) 152 = .ok (.iload_n 3, 1) := by decide +kernel
theorem d_Mo_behindSum_153 : decode (yB Y_Mo_behindSum) 153 = .ok (.iconst (-1), 1) := by decide +kernel
theorem d_Mo_behindSum_154 : decode (yB Y_Mo_behindSum) 154 = .ok (.if_icmp .ne 9, 3) := by decide +kernel
theorem d_Mo_behindSum_157 : decode (yB Y_Mo_behindSum) 157 = .ok (.iload_n 1, 1) := by decide +kernel
theorem d_Mo_behindSum_158 : decode (yB Y_Mo_behindSum) 158 = .ok (.ifCond .ne 5, 3) := by decide +kernel
theorem d_Mo_behindSum_161 : decode (yB Y_Mo_behindSum) 161 = .ok (.iconst 4, 1) := by decide +kernel
theorem d_Mo_behindSum_162 : decode (yB Y_Mo_behindSum) 162 = .ok (.ireturn, 1) := by decide +kernel
theorem d_Mo_behindSum_163 : decode (yB Y_Mo_behindSum) 163 = .ok (.aload_n 0, 1) := by decide +kernel
theorem d_Mo_behindSum_164 : decode (yB Y_Mo_behindSum) 164 = .ok (.invokevirtual 364, 3) := by decide +kernel
theorem d_Mo_behindSum_167 : decode (yB Y_Mo_behindSum) 167 = .ok (.ifCond .eq 5, 3) := by decide +kernel
theorem d_Mo_behindSum_170 : decode (yB Y_Mo_behindSum) 170 = .ok (.iconst 2, 1) := by decide +kernel
theorem d_Mo_behindSum_171 : decode (yB Y_Mo_behindSum) 171 = .ok (.ireturn, 1) := by decide +kernel
theorem d_Mo_behindSum_172 : decode (yB Y_Mo_behindSum) 172 = .ok (.aload_n 0, 1) := by decide +kernel
theorem d_Mo_behindSum_173 : decode (yB Y_Mo_behindSum) 173 = .ok (.bipush 60, 2) := by decide +kernel
theorem d_Mo_behindSum_175 : decode (yB Y_Mo_behindSum) 175 = .ok (.invokevirtual 325, 3) := by decide +kernel
theorem d_Mo_behindSum_178 : decode (yB Y_Mo_behindSum) 178 = .ok (.ifCond .eq 8, 3) := by decide +kernel
theorem d_Mo_behindSum_181 : decode (yB Y_Mo_behindSum) 181 = .ok (.bipush 25, 2) := by decide +kernel
theorem d_Mo_behindSum_183 : decode (yB Y_Mo_behindSum) 183 = .ok (.goto 19, 3) := by decide +kernel
theorem d_Mo_behindSum_186 : decode (yB Y_Mo_behindSum) 186 = .ok (.aload_n 0, 1) := by decide +kernel
theorem d_Mo_behindSum_187 : decode (yB Y_Mo_behindSum) 187 = .ok (.bipush 62, 2) := by decide +kernel
theorem d_Mo_behindSum_189 : decode (yB Y_Mo_behindSum) 189 = .ok (.invokevirtual 325, 3) := by decide +kernel
theorem d_Mo_behindSum_192 : decode (yB Y_Mo_behindSum) 192 = .ok (.ifCond .eq 8, 3) := by decide +kernel
theorem d_Mo_behindSum_195 : decode (yB Y_Mo_behindSum) 195 = .ok (.bipush 26, 2) := by decide +kernel
theorem d_Mo_behindSum_197 : decode (yB Y_Mo_behindSum) 197 = .ok (.goto 5, 3) := by decide +kernel
theorem d_Mo_behindSum_200 : decode (yB Y_Mo_behindSum) 200 = .ok (.bipush 27, 2) := by decide +kernel
theorem d_Mo_behindSum_202 : decode (yB Y_Mo_behindSum) 202 = .ok (.istore_n 2, 1) := by decide +kernel
theorem d_Mo_behindSum_203 : decode (yB Y_Mo_behindSum) 203 = .ok (.aload_n 0, 1) := by decide +kernel
theorem d_Mo_behindSum_204 : decode (yB Y_Mo_behindSum) 204 = .ok (.iload_n 2, 1) := by decide +kernel
theorem d_Mo_behindSum_205 : decode (yB Y_Mo_behindSum) 205 = .ok (.bipush 27, 2) := by decide +kernel
theorem d_Mo_behindSum_207 : decode (yB Y_Mo_behindSum) 207 = .ok (.if_icmp .ne 12, 3) := by decide +kernel
theorem d_Mo_behindSum_210 : decode (yB Y_Mo_behindSum) 210 = .ok (.aload_n 0, 1) := by decide +kernel
theorem d_Mo_behindSum_211 : decode (yB Y_Mo_behindSum) 211 = .ok (.bipush 61, 2) := by decide +kernel
theorem d_Mo_behindSum_213 : decode (yB Y_Mo_behindSum) 213 = .ok (.invokevirtual 325, 3) := by decide +kernel
theorem d_Mo_behindSum_216 : decode (yB Y_Mo_behindSum) 216 = .ok (.ifCond .eq 7, 3) := by decide +kernel
theorem d_Mo_behindSum_219 : decode (yB Y_Mo_behindSum) 219 = .ok (.iconst 1, 1) := by decide +kernel
theorem d_Mo_behindSum_220 : decode (yB Y_Mo_behindSum) 220 = .ok (.goto 4, 3) := by decide +kernel
theorem d_Mo_behindSum_223 : decode (yB Y_Mo_behindSum) 223 = .ok (.iconst 0, 1) := by decide +kernel
theorem d_Mo_behindSum_224 : decode (yB Y_Mo_behindSum) 224 = .ok (.invokevirtual 287, 3) := by decide +kernel
theorem d_Mo_behindSum_227 : decode (yB Y_Mo_behindSum) 227 = .ok (.aload_n 0, 1) := by decide +kernel
theorem d_Mo_behindSum_228 : decode (yB Y_Mo_behindSum) 228 = .ok (.getfield 256, 3) := by decide +kernel
theorem d_Mo_behindSum_231 : decode (yB Y_Mo_behindSum) 231 = .ok (.ifCond .ne 14, 3) := by decide +kernel
theorem d_Mo_behindSum_234 : decode (yB Y_Mo_behindSum) 234 = .ok (.aload_n 0, 1) := by decide +kernel
theorem d_Mo_behindSum_235 : decode (yB Y_Mo_behindSum) 235 = .ok (.iconst 5, 1) := by decide +kernel
theorem d_Mo_behindSum_236 : decode (yB Y_Mo_behindSum) 236 = .ok (.invokevirtual 358, 3) := by decide +kernel
theorem d_Mo_behindSum_239 : decode (yB Y_Mo_behindSum) 239 = .ok (.aload_n 0, 1) := by decide +kernel
theorem d_Mo_behindSum_240 : decode (yB Y_Mo_behindSum) 240 = .ok (.iload_n 2, 1) := by decide +kernel
theorem d_Mo_behindSum_241 : decode (yB Y_Mo_behindSum) 241 = .ok (.iconst 0, 1) := by decide +kernel
theorem d_Mo_behindSum_242 : decode (yB Y_Mo_behindSum) 242 = .ok (.invokevirtual 319, 3) := by decide +kernel
theorem d_Mo_behindSum_245 : decode (yB Y_Mo_behindSum) 245 = .ok (.iconst 1, 1) := by decide +kernel
theorem d_Mo_behindSum_246 : decode (yB Y_Mo_behindSum) 246 = .ok (.ireturn, 1) := by decide +kernel
def F_Mo_behindSum_b224 (n : Nat) (E : zE) (S : zS) (a0 : Nat) (x2 : Int32) (s0 : Int32) (u1 : Nat) (M : zH) : Option (Int32 × zH) :=
  (zck S u1 11).bind fun u_1 =>
  (F_Mo_must n E S u1 s0 M).bind fun q_2 =>
  (zgI S q_2 a0 11 19).bind fun v_3 =>
  if v_3 = 0 then
    (F_Mo_settle n E S a0 5 q_2).bind fun q_5 =>
    (F_Mo_push n E S a0 x2 0 q_5).bind fun q_6 =>
    some (1, q_6)
  else
    some (1, q_2)
def F_Mo_behindSum_b219 (n : Nat) (E : zE) (S : zS) (a0 : Nat) (x2 : Int32) (u0 : Nat) (M : zH) : Option (Int32 × zH) :=
  F_Mo_behindSum_b224 n E S a0 x2 1 u0 M
def F_Mo_behindSum_b202 (n : Nat) (E : zE) (S : zS) (a0 : Nat) (s0 : Int32) (M : zH) : Option (Int32 × zH) :=
  if s0 = 27 then
    (zck S a0 11).bind fun u_8 =>
    (F_Mo_isSign n E S a0 61 M).bind fun q_9 =>
    if q_9.1 = true then
      F_Mo_behindSum_b219 n E S a0 s0 a0 q_9.2
    else
      F_Mo_behindSum_b224 n E S a0 s0 0 a0 q_9.2
  else
    F_Mo_behindSum_b219 n E S a0 s0 a0 M
def F_Mo_behindSum_b163 (n : Nat) (E : zE) (S : zS) (a0 : Nat) (M : zH) : Option (Int32 × zH) :=
  (zck S a0 11).bind fun u_11 =>
  (F_Mo_isCompared n E S a0 M).bind fun q_12 =>
  if q_12.1 = true then
    some (2, q_12.2)
  else
    (F_Mo_isSign n E S a0 60 q_12.2).bind fun q_14 =>
    if q_14.1 = true then
      F_Mo_behindSum_b202 n E S a0 25 q_14.2
    else
      (F_Mo_isSign n E S a0 62 q_14.2).bind fun q_16 =>
      if q_16.1 = true then
        F_Mo_behindSum_b202 n E S a0 26 q_16.2
      else
        F_Mo_behindSum_b202 n E S a0 27 q_16.2
def F_Mo_behindSum_b71 (n : Nat) (E : zE) (S : zS) (a0 : Nat) (x1 : Int32) (s0 : Int32) (M : zH) : Option (Int32 × zH) :=
  if s0 = (-1) then
    (zck S a0 11).bind fun u_19 =>
    (F_Mo_inner n E S a0 M).bind fun q_20 =>
    if q_20.1 = 32 then
      (F_Mo_isSign n E S a0 93 q_20.2).bind fun q_22 =>
      (F_Mo_must n E S a0 (bI q_22.1) q_22.2).bind fun q_23 =>
      (zgI S q_23 a0 11 19).bind fun v_24 =>
      if v_24 = 0 then
        (F_Mo_settle n E S a0 5 q_23).bind fun q_26 =>
        (zgI S q_26 a0 11 29).bind fun v_27 =>
        (zpI S q_26 a0 11 29 (v_27 - 1)).bind fun m_28 =>
        (zgI S m_28 a0 11 30).bind fun v_29 =>
        (zpI S m_28 a0 11 30 (v_29 - 1)).bind fun m_30 =>
        some (3, m_30)
      else
        some (3, q_23)
    else
      if q_20.1 = (-1) then
        if x1 = 0 then
          some (4, q_20.2)
        else
          F_Mo_behindSum_b163 n E S a0 q_20.2
      else
        F_Mo_behindSum_b163 n E S a0 q_20.2
  else
    (F_Mo_binds n E S s0 M).bind fun q_33 =>
    (zck S a0 11).bind fun u_34 =>
    (F_Mo_settle n E S a0 q_33.1 q_33.2).bind fun q_35 =>
    (F_Mo_push n E S a0 s0 0 q_35).bind fun q_36 =>
    (F_Mo_next n E S a0 q_36).bind fun q_37 =>
    some (1, q_37)
def F_Mo_behindSum (n : Nat) (E : zE) (S : zS) (a0 : Nat) (x1 : Int32) (M : zH) : Option (Int32 × zH) :=
  (zck S a0 11).bind fun u_38 =>
  (F_Mo_isSign n E S a0 43 M).bind fun q_39 =>
  if q_39.1 = true then
    F_Mo_behindSum_b71 n E S a0 x1 20 q_39.2
  else
    (F_Mo_isSign n E S a0 45 q_39.2).bind fun q_41 =>
    if q_41.1 = true then
      F_Mo_behindSum_b71 n E S a0 x1 21 q_41.2
    else
      (F_Mo_isSign n E S a0 42 q_41.2).bind fun q_43 =>
      if q_43.1 = true then
        F_Mo_behindSum_b71 n E S a0 x1 22 q_43.2
      else
        (F_Mo_isSign n E S a0 47 q_43.2).bind fun q_45 =>
        if q_45.1 = true then
          F_Mo_behindSum_b71 n E S a0 x1 23 q_45.2
        else
          (F_Mo_isSign n E S a0 37 q_45.2).bind fun q_47 =>
          if q_47.1 = true then
            F_Mo_behindSum_b71 n E S a0 x1 24 q_47.2
          else
            F_Mo_behindSum_b71 n E S a0 x1 (-1) q_47.2
theorem K_Mo_behindSum_b224 (n : Nat) (E : zE) (S : zS) (a0 : Nat) (x2 : Int32) (s0 : Int32) (u1 : Nat) (M : zH) (r : Int32) (M' : zH)  (h : F_Mo_behindSum_b224 n E S a0 x2 s0 u1 M = some (r, M')) : zG E Y_Mo_behindSum (some (.int r), S, M') 224 [(0, .ref a0), (2, .int x2)] [.int s0, .ref u1] S M 0 0 := by
  unfold F_Mo_behindSum_b224 at h
  obtain ⟨u_1, eu_1, h⟩ := zbind h
  obtain ⟨q_2, eq_2, h⟩ := zbind h
  refine zo_virt (k' := 0) (n' := 0) 227 [.int s0] [] [] zkd_11 (zck_s eu_1) (C_Mo_must n E S u1 s0 M q_2 eq_2) d_Mo_behindSum_224 tw_1599 tw_1596 tw_1598 ts_59 tw_13 dd_Mo_must ⟨Nat.le_of_ble_eq_true rfl, Nat.le_of_ble_eq_true rfl, Nat.le_of_ble_eq_true rfl, Nat.le_of_ble_eq_true rfl⟩ (Nat.le_of_ble_eq_true rfl) rfl rfl rfl rfl ?_
  refine zi_aload_n 0 d_Mo_behindSum_227 rfl ?_
  obtain ⟨v_3, ev_3, h⟩ := zbind h
  refine zo_getI 231 zkd_11 19 d_Mo_behindSum_228 ev_3 rfl tw_1248 rfl ?_
  refine zi_if_ne (tgt := 245) d_Mo_behindSum_231 rfl (fun c_4 => ?_) (fun c_4 => ?_)
  · rw [if_neg c_4] at h
    refine zi_iconst 1 d_Mo_behindSum_245 rfl ?_
    cases h
    exact zo_ret d_Mo_behindSum_246 (Nat.le_of_ble_eq_true rfl) (Nat.le_of_ble_eq_true rfl) rfl
  · rw [if_pos c_4] at h
    refine zi_aload_n 0 d_Mo_behindSum_234 rfl ?_
    refine zi_iconst 5 d_Mo_behindSum_235 rfl ?_
    obtain ⟨q_5, eq_5, h⟩ := zbind h
    refine zo_virt (k' := 0) (n' := 0) 239 [.int 5] [] [] zkd_11 (zgI_s ev_3).1 (C_Mo_settle n E S a0 5 q_2 q_5 eq_5) d_Mo_behindSum_236 tw_1657 tw_1654 tw_1656 ts_72 tw_13 dd_Mo_settle ⟨Nat.le_of_ble_eq_true rfl, Nat.le_of_ble_eq_true rfl, Nat.le_of_ble_eq_true rfl, Nat.le_of_ble_eq_true rfl⟩ (Nat.le_of_ble_eq_true rfl) rfl rfl rfl rfl ?_
    refine zi_aload_n 0 d_Mo_behindSum_239 rfl ?_
    refine zi_iload_n 1 d_Mo_behindSum_240 rfl ?_
    refine zi_iconst 0 d_Mo_behindSum_241 rfl ?_
    obtain ⟨q_6, eq_6, h⟩ := zbind h
    refine zo_virt (k' := 0) (n' := 0) 245 [.int x2, .int 0] [] [] zkd_11 (zgI_s ev_3).1 (C_Mo_push n E S a0 x2 0 q_5 q_6 eq_6) d_Mo_behindSum_242 tw_1612 tw_1609 tw_1611 ts_62 tw_13 dd_Mo_push ⟨Nat.le_of_ble_eq_true rfl, Nat.le_of_ble_eq_true rfl, Nat.le_of_ble_eq_true rfl, Nat.le_of_ble_eq_true rfl⟩ (Nat.le_of_ble_eq_true rfl) rfl rfl rfl rfl ?_
    refine zi_iconst 1 d_Mo_behindSum_245 rfl ?_
    cases h
    exact zo_ret d_Mo_behindSum_246 (Nat.le_of_ble_eq_true rfl) (Nat.le_of_ble_eq_true rfl) rfl
theorem K_Mo_behindSum_b219 (n : Nat) (E : zE) (S : zS) (a0 : Nat) (x2 : Int32) (u0 : Nat) (M : zH) (r : Int32) (M' : zH)  (h : F_Mo_behindSum_b219 n E S a0 x2 u0 M = some (r, M')) : zG E Y_Mo_behindSum (some (.int r), S, M') 219 [(0, .ref a0), (2, .int x2)] [.ref u0] S M 0 0 := by
  unfold F_Mo_behindSum_b219 at h
  refine zi_iconst 1 d_Mo_behindSum_219 rfl ?_
  refine zi_goto (tgt := 224) d_Mo_behindSum_220 rfl ?_
  refine zi_lo [(0, .ref a0), (2, .int x2)] [0, 1] rfl ?_
  exact K_Mo_behindSum_b224 n E S a0 x2 1 u0 M r M'  h
theorem K_Mo_behindSum_b202 (n : Nat) (E : zE) (S : zS) (a0 : Nat) (s0 : Int32) (M : zH) (r : Int32) (M' : zH)  (h : F_Mo_behindSum_b202 n E S a0 s0 M = some (r, M')) : zG E Y_Mo_behindSum (some (.int r), S, M') 202 [(0, .ref a0)] [.int s0] S M 0 0 := by
  unfold F_Mo_behindSum_b202 at h
  refine zi_istore_n [(2, .int s0), (0, .ref a0)] d_Mo_behindSum_202 (by decide) rfl ?_
  refine zi_aload_n 1 d_Mo_behindSum_203 rfl ?_
  refine zi_iload_n 0 d_Mo_behindSum_204 rfl ?_
  refine zi_bipush 27 d_Mo_behindSum_205 rfl ?_
  refine zi_icmp_ne (tgt := 219) d_Mo_behindSum_207 rfl (fun c_7 => ?_) (fun c_7 => ?_)
  · rw [if_neg c_7] at h
    refine zi_lo [(0, .ref a0), (2, .int s0)] [1, 0] rfl ?_
    exact K_Mo_behindSum_b219 n E S a0 s0 a0 M r M'  h
  · rw [if_pos c_7] at h
    refine zi_aload_n 1 d_Mo_behindSum_210 rfl ?_
    refine zi_bipush 61 d_Mo_behindSum_211 rfl ?_
    obtain ⟨u_8, eu_8, h⟩ := zbind h
    obtain ⟨q_9, eq_9, h⟩ := zbind h
    refine zo_virt (k' := 0) (n' := 0) 216 [.int 61] [.ref a0] [.int (bI q_9.1), .ref a0] zkd_11 (zck_s eu_8) (C_Mo_isSign n E S a0 61 M q_9.1 q_9.2 eq_9) d_Mo_behindSum_213 tw_1616 tw_1613 tw_1615 ts_63 tw_13 dd_Mo_isSign ⟨Nat.le_of_ble_eq_true rfl, Nat.le_of_ble_eq_true rfl, Nat.le_of_ble_eq_true rfl, Nat.le_of_ble_eq_true rfl⟩ (Nat.le_of_ble_eq_true rfl) rfl rfl rfl rfl ?_
    refine zo_ifeqB d_Mo_behindSum_216 rfl 219 rfl (fun c_10 => ?_) (fun c_10 => ?_)
    · rw [if_neg c_10] at h
      refine zi_iconst 0 d_Mo_behindSum_223 rfl ?_
      refine zi_lo [(0, .ref a0), (2, .int s0)] [1, 0] rfl ?_
      exact K_Mo_behindSum_b224 n E S a0 s0 0 a0 q_9.2 r M'  h
    · rw [if_pos c_10] at h
      refine zi_lo [(0, .ref a0), (2, .int s0)] [1, 0] rfl ?_
      exact K_Mo_behindSum_b219 n E S a0 s0 a0 q_9.2 r M'  h
theorem K_Mo_behindSum_b163 (n : Nat) (E : zE) (S : zS) (a0 : Nat) (M : zH) (r : Int32) (M' : zH)  (h : F_Mo_behindSum_b163 n E S a0 M = some (r, M')) : zG E Y_Mo_behindSum (some (.int r), S, M') 163 [(0, .ref a0)] [] S M 0 0 := by
  unfold F_Mo_behindSum_b163 at h
  refine zi_aload_n 0 d_Mo_behindSum_163 rfl ?_
  obtain ⟨u_11, eu_11, h⟩ := zbind h
  obtain ⟨q_12, eq_12, h⟩ := zbind h
  refine zo_virt (k' := 0) (n' := 0) 167 [] [] [.int (bI q_12.1)] zkd_11 (zck_s eu_11) (C_Mo_isCompared n E S a0 M q_12.1 q_12.2 eq_12) d_Mo_behindSum_164 tw_1665 tw_1662 tw_1664 ts_74 tw_13 dd_Mo_isCompared ⟨Nat.le_of_ble_eq_true rfl, Nat.le_of_ble_eq_true rfl, Nat.le_of_ble_eq_true rfl, Nat.le_of_ble_eq_true rfl⟩ (Nat.le_of_ble_eq_true rfl) rfl rfl rfl rfl ?_
  refine zo_ifeqB d_Mo_behindSum_167 rfl 170 rfl (fun c_13 => ?_) (fun c_13 => ?_)
  · rw [if_neg c_13] at h
    refine zi_aload_n 0 d_Mo_behindSum_172 rfl ?_
    refine zi_bipush 60 d_Mo_behindSum_173 rfl ?_
    obtain ⟨q_14, eq_14, h⟩ := zbind h
    refine zo_virt (k' := 0) (n' := 0) 178 [.int 60] [] [.int (bI q_14.1)] zkd_11 (zck_s eu_11) (C_Mo_isSign n E S a0 60 q_12.2 q_14.1 q_14.2 eq_14) d_Mo_behindSum_175 tw_1616 tw_1613 tw_1615 ts_63 tw_13 dd_Mo_isSign ⟨Nat.le_of_ble_eq_true rfl, Nat.le_of_ble_eq_true rfl, Nat.le_of_ble_eq_true rfl, Nat.le_of_ble_eq_true rfl⟩ (Nat.le_of_ble_eq_true rfl) rfl rfl rfl rfl ?_
    refine zo_ifeqB d_Mo_behindSum_178 rfl 181 rfl (fun c_15 => ?_) (fun c_15 => ?_)
    · rw [if_neg c_15] at h
      refine zi_aload_n 0 d_Mo_behindSum_186 rfl ?_
      refine zi_bipush 62 d_Mo_behindSum_187 rfl ?_
      obtain ⟨q_16, eq_16, h⟩ := zbind h
      refine zo_virt (k' := 0) (n' := 0) 192 [.int 62] [] [.int (bI q_16.1)] zkd_11 (zck_s eu_11) (C_Mo_isSign n E S a0 62 q_14.2 q_16.1 q_16.2 eq_16) d_Mo_behindSum_189 tw_1616 tw_1613 tw_1615 ts_63 tw_13 dd_Mo_isSign ⟨Nat.le_of_ble_eq_true rfl, Nat.le_of_ble_eq_true rfl, Nat.le_of_ble_eq_true rfl, Nat.le_of_ble_eq_true rfl⟩ (Nat.le_of_ble_eq_true rfl) rfl rfl rfl rfl ?_
      refine zo_ifeqB d_Mo_behindSum_192 rfl 195 rfl (fun c_17 => ?_) (fun c_17 => ?_)
      · rw [if_neg c_17] at h
        refine zi_bipush 27 d_Mo_behindSum_200 rfl ?_
        refine zi_lo [(0, .ref a0)] [0] rfl ?_
        exact K_Mo_behindSum_b202 n E S a0 27 q_16.2 r M'  h
      · rw [if_pos c_17] at h
        refine zi_bipush 26 d_Mo_behindSum_195 rfl ?_
        refine zi_goto (tgt := 202) d_Mo_behindSum_197 rfl ?_
        refine zi_lo [(0, .ref a0)] [0] rfl ?_
        exact K_Mo_behindSum_b202 n E S a0 26 q_16.2 r M'  h
    · rw [if_pos c_15] at h
      refine zi_bipush 25 d_Mo_behindSum_181 rfl ?_
      refine zi_goto (tgt := 202) d_Mo_behindSum_183 rfl ?_
      refine zi_lo [(0, .ref a0)] [0] rfl ?_
      exact K_Mo_behindSum_b202 n E S a0 25 q_14.2 r M'  h
  · rw [if_pos c_13] at h
    refine zi_iconst 2 d_Mo_behindSum_170 rfl ?_
    cases h
    exact zo_ret d_Mo_behindSum_171 (Nat.le_of_ble_eq_true rfl) (Nat.le_of_ble_eq_true rfl) rfl
theorem K_Mo_behindSum_b71 (n : Nat) (E : zE) (S : zS) (a0 : Nat) (x1 : Int32) (s0 : Int32) (M : zH) (r : Int32) (M' : zH)  (h : F_Mo_behindSum_b71 n E S a0 x1 s0 M = some (r, M')) : zG E Y_Mo_behindSum (some (.int r), S, M') 71 [(0, .ref a0), (1, .int x1)] [.int s0] S M 0 0 := by
  unfold F_Mo_behindSum_b71 at h
  refine zi_istore_n [(2, .int s0), (0, .ref a0), (1, .int x1)] d_Mo_behindSum_71 (by decide) rfl ?_
  refine zi_iload_n 0 d_Mo_behindSum_72 rfl ?_
  refine zi_iconst (-1) d_Mo_behindSum_73 rfl ?_
  refine zi_icmp_eq (tgt := 97) d_Mo_behindSum_74 rfl (fun c_18 => ?_) (fun c_18 => ?_)
  · rw [if_pos c_18] at h
    refine zi_aload_n 1 d_Mo_behindSum_97 rfl ?_
    obtain ⟨u_19, eu_19, h⟩ := zbind h
    obtain ⟨q_20, eq_20, h⟩ := zbind h
    refine zo_virt (k' := 0) (n' := 0) 101 [] [] [.int q_20.1] zkd_11 (zck_s eu_19) (C_Mo_inner n E S a0 M q_20.1 q_20.2 eq_20) d_Mo_behindSum_98 tw_1661 tw_1658 tw_1660 ts_73 tw_13 dd_Mo_inner ⟨Nat.le_of_ble_eq_true rfl, Nat.le_of_ble_eq_true rfl, Nat.le_of_ble_eq_true rfl, Nat.le_of_ble_eq_true rfl⟩ (Nat.le_of_ble_eq_true rfl) rfl rfl rfl rfl ?_
    refine zi_istore_n [(3, .int q_20.1), (2, .int s0), (0, .ref a0), (1, .int x1)] d_Mo_behindSum_101 (by decide) rfl ?_
    refine zi_iload_n 0 d_Mo_behindSum_102 rfl ?_
    refine zi_bipush 32 d_Mo_behindSum_103 rfl ?_
    refine zi_icmp_ne (tgt := 152) d_Mo_behindSum_105 rfl (fun c_21 => ?_) (fun c_21 => ?_)
    · rw [if_neg c_21] at h
      refine zi_iload_n 0 d_Mo_behindSum_152 rfl ?_
      refine zi_iconst (-1) d_Mo_behindSum_153 rfl ?_
      refine zi_icmp_ne (tgt := 163) d_Mo_behindSum_154 rfl (fun c_31 => ?_) (fun c_31 => ?_)
      · rw [if_neg c_31] at h
        refine zi_lo [(0, .ref a0)] [2] rfl ?_
        exact K_Mo_behindSum_b163 n E S a0 q_20.2 r M'  h
      · rw [if_pos c_31] at h
        refine zi_iload_n 3 d_Mo_behindSum_157 rfl ?_
        refine zi_if_ne (tgt := 163) d_Mo_behindSum_158 rfl (fun c_32 => ?_) (fun c_32 => ?_)
        · rw [if_neg c_32] at h
          refine zi_lo [(0, .ref a0)] [2] rfl ?_
          exact K_Mo_behindSum_b163 n E S a0 q_20.2 r M'  h
        · rw [if_pos c_32] at h
          refine zi_iconst 4 d_Mo_behindSum_161 rfl ?_
          cases h
          exact zo_ret d_Mo_behindSum_162 (Nat.le_of_ble_eq_true rfl) (Nat.le_of_ble_eq_true rfl) rfl
    · rw [if_pos c_21] at h
      refine zi_aload_n 2 d_Mo_behindSum_108 rfl ?_
      refine zi_aload_n 2 d_Mo_behindSum_109 rfl ?_
      refine zi_bipush 93 d_Mo_behindSum_110 rfl ?_
      obtain ⟨q_22, eq_22, h⟩ := zbind h
      refine zo_virt (k' := 0) (n' := 0) 115 [.int 93] [.ref a0] [.int (bI q_22.1), .ref a0] zkd_11 (zck_s eu_19) (C_Mo_isSign n E S a0 93 q_20.2 q_22.1 q_22.2 eq_22) d_Mo_behindSum_112 tw_1616 tw_1613 tw_1615 ts_63 tw_13 dd_Mo_isSign ⟨Nat.le_of_ble_eq_true rfl, Nat.le_of_ble_eq_true rfl, Nat.le_of_ble_eq_true rfl, Nat.le_of_ble_eq_true rfl⟩ (Nat.le_of_ble_eq_true rfl) rfl rfl rfl rfl ?_
      obtain ⟨q_23, eq_23, h⟩ := zbind h
      refine zo_virt (k' := 0) (n' := 0) 118 [.int (bI q_22.1)] [] [] zkd_11 (zck_s eu_19) (C_Mo_must n E S a0 (bI q_22.1) q_22.2 q_23 eq_23) d_Mo_behindSum_115 tw_1599 tw_1596 tw_1598 ts_59 tw_13 dd_Mo_must ⟨Nat.le_of_ble_eq_true rfl, Nat.le_of_ble_eq_true rfl, Nat.le_of_ble_eq_true rfl, Nat.le_of_ble_eq_true rfl⟩ (Nat.le_of_ble_eq_true rfl) rfl rfl rfl rfl ?_
      refine zi_aload_n 2 d_Mo_behindSum_118 rfl ?_
      obtain ⟨v_24, ev_24, h⟩ := zbind h
      refine zo_getI 122 zkd_11 19 d_Mo_behindSum_119 ev_24 rfl tw_1248 rfl ?_
      refine zi_if_ne (tgt := 150) d_Mo_behindSum_122 rfl (fun c_25 => ?_) (fun c_25 => ?_)
      · rw [if_neg c_25] at h
        refine zi_iconst 3 d_Mo_behindSum_150 rfl ?_
        cases h
        exact zo_ret d_Mo_behindSum_151 (Nat.le_of_ble_eq_true rfl) (Nat.le_of_ble_eq_true rfl) rfl
      · rw [if_pos c_25] at h
        refine zi_aload_n 2 d_Mo_behindSum_125 rfl ?_
        refine zi_iconst 5 d_Mo_behindSum_126 rfl ?_
        obtain ⟨q_26, eq_26, h⟩ := zbind h
        refine zo_virt (k' := 0) (n' := 0) 130 [.int 5] [] [] zkd_11 (zck_s eu_19) (C_Mo_settle n E S a0 5 q_23 q_26 eq_26) d_Mo_behindSum_127 tw_1657 tw_1654 tw_1656 ts_72 tw_13 dd_Mo_settle ⟨Nat.le_of_ble_eq_true rfl, Nat.le_of_ble_eq_true rfl, Nat.le_of_ble_eq_true rfl, Nat.le_of_ble_eq_true rfl⟩ (Nat.le_of_ble_eq_true rfl) rfl rfl rfl rfl ?_
        refine zi_aload_n 2 d_Mo_behindSum_130 rfl ?_
        refine zi_dup d_Mo_behindSum_131 rfl ?_
        obtain ⟨v_27, ev_27, h⟩ := zbind h
        refine zo_getI 135 zkd_11 29 d_Mo_behindSum_132 ev_27 rfl tw_1258 rfl ?_
        refine zi_iconst 1 d_Mo_behindSum_135 rfl ?_
        refine zi_isub d_Mo_behindSum_136 ?_
        obtain ⟨m_28, em_28, h⟩ := zbind h
        refine zo_putI 140 zkd_11 29 d_Mo_behindSum_137 em_28 rfl rfl rfl tw_1258 rfl ?_
        refine zi_aload_n 2 d_Mo_behindSum_140 rfl ?_
        refine zi_dup d_Mo_behindSum_141 rfl ?_
        obtain ⟨v_29, ev_29, h⟩ := zbind h
        refine zo_getI 145 zkd_11 30 d_Mo_behindSum_142 ev_29 rfl tw_1259 rfl ?_
        refine zi_iconst 1 d_Mo_behindSum_145 rfl ?_
        refine zi_isub d_Mo_behindSum_146 ?_
        obtain ⟨m_30, em_30, h⟩ := zbind h
        refine zo_putI 150 zkd_11 30 d_Mo_behindSum_147 em_30 rfl rfl rfl tw_1259 rfl ?_
        refine zi_iconst 3 d_Mo_behindSum_150 rfl ?_
        cases h
        exact zo_ret d_Mo_behindSum_151 (Nat.le_of_ble_eq_true rfl) (Nat.le_of_ble_eq_true rfl) rfl
  · rw [if_neg c_18] at h
    refine zi_aload_n 1 d_Mo_behindSum_77 rfl ?_
    refine zi_iload_n 0 d_Mo_behindSum_78 rfl ?_
    obtain ⟨q_33, eq_33, h⟩ := zbind h
    refine zo_stat (k' := 0) (n' := 0) 82 [.int s0] [.ref a0] [.int q_33.1, .ref a0] (C_Mo_binds n E S s0 M q_33.1 q_33.2 eq_33) d_Mo_behindSum_79 tw_1653 tw_1651 tw_1652 tw_13 dd_Mo_binds ⟨Nat.le_of_ble_eq_true rfl, Nat.le_of_ble_eq_true rfl, Nat.le_of_ble_eq_true rfl, Nat.le_of_ble_eq_true rfl⟩ (Nat.le_of_ble_eq_true rfl) rfl rfl rfl rfl ?_
    obtain ⟨u_34, eu_34, h⟩ := zbind h
    obtain ⟨q_35, eq_35, h⟩ := zbind h
    refine zo_virt (k' := 0) (n' := 0) 85 [.int q_33.1] [] [] zkd_11 (zck_s eu_34) (C_Mo_settle n E S a0 q_33.1 q_33.2 q_35 eq_35) d_Mo_behindSum_82 tw_1657 tw_1654 tw_1656 ts_72 tw_13 dd_Mo_settle ⟨Nat.le_of_ble_eq_true rfl, Nat.le_of_ble_eq_true rfl, Nat.le_of_ble_eq_true rfl, Nat.le_of_ble_eq_true rfl⟩ (Nat.le_of_ble_eq_true rfl) rfl rfl rfl rfl ?_
    refine zi_aload_n 1 d_Mo_behindSum_85 rfl ?_
    refine zi_iload_n 0 d_Mo_behindSum_86 rfl ?_
    refine zi_iconst 0 d_Mo_behindSum_87 rfl ?_
    obtain ⟨q_36, eq_36, h⟩ := zbind h
    refine zo_virt (k' := 0) (n' := 0) 91 [.int s0, .int 0] [] [] zkd_11 (zck_s eu_34) (C_Mo_push n E S a0 s0 0 q_35 q_36 eq_36) d_Mo_behindSum_88 tw_1612 tw_1609 tw_1611 ts_62 tw_13 dd_Mo_push ⟨Nat.le_of_ble_eq_true rfl, Nat.le_of_ble_eq_true rfl, Nat.le_of_ble_eq_true rfl, Nat.le_of_ble_eq_true rfl⟩ (Nat.le_of_ble_eq_true rfl) rfl rfl rfl rfl ?_
    refine zi_aload_n 1 d_Mo_behindSum_91 rfl ?_
    obtain ⟨q_37, eq_37, h⟩ := zbind h
    refine zo_virt (k' := 0) (n' := 0) 95 [] [] [] zkd_11 (zck_s eu_34) (C_Mo_next n E S a0 q_36 q_37 eq_37) d_Mo_behindSum_92 tw_1577 tw_1574 tw_1576 ts_56 tw_13 dd_Mo_next ⟨Nat.le_of_ble_eq_true rfl, Nat.le_of_ble_eq_true rfl, Nat.le_of_ble_eq_true rfl, Nat.le_of_ble_eq_true rfl⟩ (Nat.le_of_ble_eq_true rfl) rfl rfl rfl rfl ?_
    refine zi_iconst 1 d_Mo_behindSum_95 rfl ?_
    cases h
    exact zo_ret d_Mo_behindSum_96 (Nat.le_of_ble_eq_true rfl) (Nat.le_of_ble_eq_true rfl) rfl
theorem K_Mo_behindSum (n : Nat) (E : zE) (S : zS) (a0 : Nat) (x1 : Int32) (M : zH) (r : Int32) (M' : zH)  (h : F_Mo_behindSum n E S a0 x1 M = some (r, M')) : zG E Y_Mo_behindSum (some (.int r), S, M') 0 [(0, .ref a0), (1, .int x1)] [] S M 0 0 := by
  unfold F_Mo_behindSum at h
  refine zi_aload_n 0 d_Mo_behindSum_0 rfl ?_
  refine zi_bipush 43 d_Mo_behindSum_1 rfl ?_
  obtain ⟨u_38, eu_38, h⟩ := zbind h
  obtain ⟨q_39, eq_39, h⟩ := zbind h
  refine zo_virt (k' := 0) (n' := 0) 6 [.int 43] [] [.int (bI q_39.1)] zkd_11 (zck_s eu_38) (C_Mo_isSign n E S a0 43 M q_39.1 q_39.2 eq_39) d_Mo_behindSum_3 tw_1616 tw_1613 tw_1615 ts_63 tw_13 dd_Mo_isSign ⟨Nat.le_of_ble_eq_true rfl, Nat.le_of_ble_eq_true rfl, Nat.le_of_ble_eq_true rfl, Nat.le_of_ble_eq_true rfl⟩ (Nat.le_of_ble_eq_true rfl) rfl rfl rfl rfl ?_
  refine zo_ifeqB d_Mo_behindSum_6 rfl 9 rfl (fun c_40 => ?_) (fun c_40 => ?_)
  · rw [if_neg c_40] at h
    refine zi_aload_n 0 d_Mo_behindSum_14 rfl ?_
    refine zi_bipush 45 d_Mo_behindSum_15 rfl ?_
    obtain ⟨q_41, eq_41, h⟩ := zbind h
    refine zo_virt (k' := 0) (n' := 0) 20 [.int 45] [] [.int (bI q_41.1)] zkd_11 (zck_s eu_38) (C_Mo_isSign n E S a0 45 q_39.2 q_41.1 q_41.2 eq_41) d_Mo_behindSum_17 tw_1616 tw_1613 tw_1615 ts_63 tw_13 dd_Mo_isSign ⟨Nat.le_of_ble_eq_true rfl, Nat.le_of_ble_eq_true rfl, Nat.le_of_ble_eq_true rfl, Nat.le_of_ble_eq_true rfl⟩ (Nat.le_of_ble_eq_true rfl) rfl rfl rfl rfl ?_
    refine zo_ifeqB d_Mo_behindSum_20 rfl 23 rfl (fun c_42 => ?_) (fun c_42 => ?_)
    · rw [if_neg c_42] at h
      refine zi_aload_n 0 d_Mo_behindSum_28 rfl ?_
      refine zi_bipush 42 d_Mo_behindSum_29 rfl ?_
      obtain ⟨q_43, eq_43, h⟩ := zbind h
      refine zo_virt (k' := 0) (n' := 0) 34 [.int 42] [] [.int (bI q_43.1)] zkd_11 (zck_s eu_38) (C_Mo_isSign n E S a0 42 q_41.2 q_43.1 q_43.2 eq_43) d_Mo_behindSum_31 tw_1616 tw_1613 tw_1615 ts_63 tw_13 dd_Mo_isSign ⟨Nat.le_of_ble_eq_true rfl, Nat.le_of_ble_eq_true rfl, Nat.le_of_ble_eq_true rfl, Nat.le_of_ble_eq_true rfl⟩ (Nat.le_of_ble_eq_true rfl) rfl rfl rfl rfl ?_
      refine zo_ifeqB d_Mo_behindSum_34 rfl 37 rfl (fun c_44 => ?_) (fun c_44 => ?_)
      · rw [if_neg c_44] at h
        refine zi_aload_n 0 d_Mo_behindSum_42 rfl ?_
        refine zi_bipush 47 d_Mo_behindSum_43 rfl ?_
        obtain ⟨q_45, eq_45, h⟩ := zbind h
        refine zo_virt (k' := 0) (n' := 0) 48 [.int 47] [] [.int (bI q_45.1)] zkd_11 (zck_s eu_38) (C_Mo_isSign n E S a0 47 q_43.2 q_45.1 q_45.2 eq_45) d_Mo_behindSum_45 tw_1616 tw_1613 tw_1615 ts_63 tw_13 dd_Mo_isSign ⟨Nat.le_of_ble_eq_true rfl, Nat.le_of_ble_eq_true rfl, Nat.le_of_ble_eq_true rfl, Nat.le_of_ble_eq_true rfl⟩ (Nat.le_of_ble_eq_true rfl) rfl rfl rfl rfl ?_
        refine zo_ifeqB d_Mo_behindSum_48 rfl 51 rfl (fun c_46 => ?_) (fun c_46 => ?_)
        · rw [if_neg c_46] at h
          refine zi_aload_n 0 d_Mo_behindSum_56 rfl ?_
          refine zi_bipush 37 d_Mo_behindSum_57 rfl ?_
          obtain ⟨q_47, eq_47, h⟩ := zbind h
          refine zo_virt (k' := 0) (n' := 0) 62 [.int 37] [] [.int (bI q_47.1)] zkd_11 (zck_s eu_38) (C_Mo_isSign n E S a0 37 q_45.2 q_47.1 q_47.2 eq_47) d_Mo_behindSum_59 tw_1616 tw_1613 tw_1615 ts_63 tw_13 dd_Mo_isSign ⟨Nat.le_of_ble_eq_true rfl, Nat.le_of_ble_eq_true rfl, Nat.le_of_ble_eq_true rfl, Nat.le_of_ble_eq_true rfl⟩ (Nat.le_of_ble_eq_true rfl) rfl rfl rfl rfl ?_
          refine zo_ifeqB d_Mo_behindSum_62 rfl 65 rfl (fun c_48 => ?_) (fun c_48 => ?_)
          · rw [if_neg c_48] at h
            refine zi_iconst (-1) d_Mo_behindSum_70 rfl ?_
            refine zi_lo [(0, .ref a0), (1, .int x1)] [0, 1] rfl ?_
            exact K_Mo_behindSum_b71 n E S a0 x1 (-1) q_47.2 r M'  h
          · rw [if_pos c_48] at h
            refine zi_bipush 24 d_Mo_behindSum_65 rfl ?_
            refine zi_goto (tgt := 71) d_Mo_behindSum_67 rfl ?_
            refine zi_lo [(0, .ref a0), (1, .int x1)] [0, 1] rfl ?_
            exact K_Mo_behindSum_b71 n E S a0 x1 24 q_47.2 r M'  h
        · rw [if_pos c_46] at h
          refine zi_bipush 23 d_Mo_behindSum_51 rfl ?_
          refine zi_goto (tgt := 71) d_Mo_behindSum_53 rfl ?_
          refine zi_lo [(0, .ref a0), (1, .int x1)] [0, 1] rfl ?_
          exact K_Mo_behindSum_b71 n E S a0 x1 23 q_45.2 r M'  h
      · rw [if_pos c_44] at h
        refine zi_bipush 22 d_Mo_behindSum_37 rfl ?_
        refine zi_goto (tgt := 71) d_Mo_behindSum_39 rfl ?_
        refine zi_lo [(0, .ref a0), (1, .int x1)] [0, 1] rfl ?_
        exact K_Mo_behindSum_b71 n E S a0 x1 22 q_43.2 r M'  h
    · rw [if_pos c_42] at h
      refine zi_bipush 21 d_Mo_behindSum_23 rfl ?_
      refine zi_goto (tgt := 71) d_Mo_behindSum_25 rfl ?_
      refine zi_lo [(0, .ref a0), (1, .int x1)] [0, 1] rfl ?_
      exact K_Mo_behindSum_b71 n E S a0 x1 21 q_41.2 r M'  h
  · rw [if_pos c_40] at h
    refine zi_bipush 20 d_Mo_behindSum_9 rfl ?_
    refine zi_goto (tgt := 71) d_Mo_behindSum_11 rfl ?_
    refine zi_lo [(0, .ref a0), (1, .int x1)] [0, 1] rfl ?_
    exact K_Mo_behindSum_b71 n E S a0 x1 20 q_39.2 r M'  h
theorem C_Mo_behindSum (n : Nat) (E : zE) (S : zS) (a0 : Nat) (x1 : Int32) (M : zH) (r : Int32) (M' : zH) (h : F_Mo_behindSum n E S a0 x1 M = some (r, M')) : zC E Y_Mo_behindSum [.ref a0, .int x1] S M (some (.int r), S, M') :=
  zC.of (Or.inl (show plainName "NightColanderModel" = true by decide)) (Nat.le_of_ble_eq_true rfl) (trivial) (K_Mo_behindSum n E S a0 x1 M r M' h)
theorem d_Mo_behindTest_0 : decode (yB Y_Mo_behindTest) 0 = .ok (.aload_n 0, 1) := by decide +kernel
theorem d_Mo_behindTest_1 : decode (yB Y_Mo_behindTest) 1 = .ok (.ldc2_w 368, 3) := by decide +kernel
theorem d_Mo_behindTest_4 : decode (yB Y_Mo_behindTest) 4 = .ok (.invokevirtual 312, 3) := by decide +kernel
theorem d_Mo_behindTest_7 : decode (yB Y_Mo_behindTest) 7 = .ok (.istore_n 1, 1) := by decide +kernel
theorem d_Mo_behindTest_8 : decode (yB Y_Mo_behindTest) 8 = .ok (.iload_n 1, 1) := by decide +kernel
theorem d_Mo_behindTest_9 : decode (yB Y_Mo_behindTest) 9 = .ok (.ifCond .ne 13, 3) := by decide +kernel
theorem d_Mo_behindTest_12 : decode (yB Y_Mo_behindTest) 12 = .ok (.aload_n 0, 1) := by decide +kernel
theorem d_Mo_behindTest_13 : decode (yB Y_Mo_behindTest) 13 = .ok (.ldc2_w 370, 3) := by decide +kernel
theorem d_Mo_behindTest_16 : decode (yB Y_Mo_behindTest) 16 = .ok (.invokevirtual 312, 3) := by decide +kernel
theorem d_Mo_behindTest_19 : decode (yB Y_Mo_behindTest) 19 = .ok (.ifCond .eq 57, 3) := by decide +kernel
theorem d_Mo_behindTest_22 : decode (yB Y_Mo_behindTest) 22 = .ok (.aload_n 0, 1) := by decide +kernel
theorem d_Mo_behindTest_23 : decode (yB Y_Mo_behindTest) 23 = .ok (.iload_n 1, 1) := by decide +kernel
theorem d_Mo_behindTest_24 : decode (yB Y_Mo_behindTest) 24 = .ok (.ifCond .eq 7, 3) := by decide +kernel
theorem d_Mo_behindTest_27 : decode (yB Y_Mo_behindTest) 27 = .ok (.iconst 2, 1) := by decide +kernel
theorem d_Mo_behindTest_28 : decode (yB Y_Mo_behindTest) 28 = .ok (.goto 4, 3) := by decide +kernel
theorem d_Mo_behindTest_31 : decode (yB Y_Mo_behindTest) 31 = .ok (.iconst 1, 1) := by decide +kernel
theorem d_Mo_behindTest_32 : decode (yB Y_Mo_behindTest) 32 = .ok (.invokevirtual 358, 3) := by decide +kernel
theorem d_Mo_behindTest_35 : decode (yB Y_Mo_behindTest) 35 = .ok (.aload_n 0, 1) := by decide +kernel
theorem d_Mo_behindTest_36 : decode (yB Y_Mo_behindTest) 36 = .ok (.iload_n 1, 1) := by decide +kernel
theorem d_Mo_behindTest_37 : decode (yB Y_Mo_behindTest) 37 = .ok (.ifCond .eq 8, 3) := by decide +kernel
theorem d_Mo_behindTest_40 : decode (yB Y_Mo_behindTest) 40 = .ok (.bipush 29, 2) := by decide +kernel
theorem d_Mo_behindTest_42 : decode (yB Y_Mo_behindTest) 42 = .ok (.goto 5, 3) := by decide +kernel
theorem d_Mo_behindTest_45 : decode (yB Y_Mo_behindTest) 45 = .ok (.bipush 30, 2) := by decide +kernel
theorem d_Mo_behindTest_47 : decode (yB Y_Mo_behindTest) 47 = .ok (.aload_n 0, 1) := by decide +kernel
theorem d_Mo_behindTest_48 : decode (yB Y_Mo_behindTest) 48 = .ok (.getfield 291, 3) := by decide +kernel
theorem d_Mo_behindTest_51 : decode (yB Y_Mo_behindTest) 51 = .ok (.invokevirtual 319, 3) := by decide +kernel
theorem d_Mo_behindTest_54 : decode (yB Y_Mo_behindTest) 54 = .ok (.aload_n 0, 1) := by decide +kernel
theorem d_Mo_behindTest_55 : decode (yB Y_Mo_behindTest) 55 = .ok (.iload_n 1, 1) := by decide +kernel
theorem d_Mo_behindTest_56 : decode (yB Y_Mo_behindTest) 56 = .ok (.ifCond .eq 8, 3) := by decide +kernel
theorem d_Mo_behindTest_59 : decode (yB Y_Mo_behindTest) 59 = .ok (.bipush 29, 2) := by decide +kernel
theorem d_Mo_behindTest_61 : decode (yB Y_Mo_behindTest) 61 = .ok (.goto 5, 3) := by decide +kernel
theorem d_Mo_behindTest_64 : decode (yB Y_Mo_behindTest) 64 = .ok (.bipush 30, 2) := by decide +kernel
theorem d_Mo_behindTest_66 : decode (yB Y_Mo_behindTest) 66 = .ok (.iconst 0, 1) := by decide +kernel
theorem d_Mo_behindTest_67 : decode (yB Y_Mo_behindTest) 67 = .ok (.invokevirtual 300, 3) := by decide +kernel
theorem d_Mo_behindTest_70 : decode (yB Y_Mo_behindTest) 70 = .ok (.aload_n 0, 1) := by decide +kernel
theorem d_Mo_behindTest_71 : decode (yB Y_Mo_behindTest) 71 = .ok (.invokevirtual 260, 3) := by decide +kernel
theorem d_Mo_behindTest_74 : decode (yB Y_Mo_behindTest) 74 = .ok (.iconst 0, 1) := by decide +kernel
theorem d_Mo_behindTest_75 : decode (yB Y_Mo_behindTest) 75 = .ok (.ireturn, 1) := by decide +kernel
theorem d_Mo_behindTest_76 : decode (yB Y_Mo_behindTest) 76 = .ok (.aload_n 0, 1) := by decide +kernel
theorem d_Mo_behindTest_77 : decode (yB Y_Mo_behindTest) 77 = .ok (.invokevirtual 361, 3) := by decide +kernel
theorem d_Mo_behindTest_80 : decode (yB Y_Mo_behindTest) 80 = .ok (.iconst (-1), 1) := by decide +kernel
theorem d_Mo_behindTest_81 : decode (yB Y_Mo_behindTest) 81 = .ok (.if_icmp .ne 5, 3) := by decide +kernel
theorem d_Mo_behindTest_84 : decode (yB Y_Mo_behindTest) 84 = .ok (.iconst 4, 1) := by decide +kernel
theorem d_Mo_behindTest_85 : decode (yB Y_Mo_behindTest) 85 = .ok (.ireturn, 1) := by decide +kernel
theorem d_Mo_behindTest_86 : decode (yB Y_Mo_behindTest) 86 = .ok (.aload_n 0, 1) := by decide +kernel
theorem d_Mo_behindTest_87 : decode (yB Y_Mo_behindTest) 87 = .ok (.aload_n 0, 1) := by decide +kernel
theorem d_Mo_behindTest_88 : decode (yB Y_Mo_behindTest) 88 = .ok (.bipush 41, 2) := by decide +kernel
theorem d_Mo_behindTest_90 : decode (yB Y_Mo_behindTest) 90 = .ok (.invokevirtual 325, 3) := by decide +kernel
theorem d_Mo_behindTest_93 : decode (yB Y_Mo_behindTest) 93 = .ok (.invokevirtual 287, 3) := by decide +kernel
theorem d_Mo_behindTest_96 : decode (yB Y_Mo_behindTest) 96 = .ok (.aload_n 0, 1) := by decide +kernel
theorem d_Mo_behindTest_97 : decode (yB Y_Mo_behindTest) 97 = .ok (.getfield 256, 3) := by decide +kernel
theorem d_Mo_behindTest_100 : decode (yB Y_Mo_behindTest) 100 = .ok (.ifCond .ne 28, 3) := by decide +kernel
theorem d_Mo_behindTest_103 : decode (yB Y_Mo_behindTest) 103 = .ok (.aload_n 0, 1) := by decide +kernel
theorem d_Mo_behindTest_104 : decode (yB Y_Mo_behindTest) 104 = .ok (.iconst 1, 1) := by decide +kernel
theorem d_Mo_behindTest_105 : decode (yB Y_Mo_behindTest) 105 = .ok (.invokevirtual 358, 3) := by decide +kernel
theorem d_Mo_behindTest_108 : decode (yB Y_Mo_behindTest) 108 = .ok (.aload_n 0, 1) := by decide +kernel
theorem d_Mo_behindTest_109 : decode (yB Y_Mo_behindTest) 109 = .ok (.dup, 1) := by decide +kernel
theorem d_Mo_behindTest_110 : decode (yB Y_Mo_behindTest) 110 = .ok (.getfield 294, 3) := by decide +kernel
theorem d_Mo_behindTest_113 : decode (yB Y_Mo_behindTest) 113 = .ok (.iconst 1, 1) := by decide +kernel
theorem d_Mo_behindTest_114 : decode (yB Y_Mo_behindTest) 114 = .ok (.isub, 1) := by decide +kernel
theorem d_Mo_behindTest_115 : decode (yB Y_Mo_behindTest) 115 = .ok (.putfield 294, 3) := by decide +kernel
theorem d_Mo_behindTest_118 : decode (yB Y_Mo_behindTest) 118 = .ok (.aload_n 0, 1) := by decide +kernel
theorem d_Mo_behindTest_119 : decode (yB Y_Mo_behindTest) 119 = .ok (.dup, 1) := by decide +kernel
theorem d_Mo_behindTest_120 : decode (yB Y_Mo_behindTest) 120 = .ok (.getfield 316, 3) := by decide +kernel
theorem d_Mo_behindTest_123 : decode (yB Y_Mo_behindTest) 123 = .ok (.iconst 1, 1) := by decide +kernel
theorem d_Mo_behindTest_124 : decode (yB Y_Mo_behindTest) 124 = .ok (.isub, 1) := by decide +kernel
theorem d_Mo_behindTest_125 : decode (yB Y_Mo_behindTest) 125 = .ok (.putfield 316, 3) := by decide +kernel
theorem d_Mo_behindTest_128 : decode (yB Y_Mo_behindTest) 128 = .ok (.iconst 2, 1) := by decide +kernel
theorem d_Mo_behindTest_129 : decode (yB Y_Mo_behindTest) 129 = .ok (.ireturn, 1) := by decide +kernel
def F_Mo_behindTest_b66 (n : Nat) (E : zE) (S : zS) (a0 : Nat) (s0 : Int32) (u1 : Nat) (M : zH) : Option (Int32 × zH) :=
  (zck S u1 11).bind fun u_1 =>
  (F_Mo_emit n E S u1 s0 0 M).bind fun q_2 =>
  (zck S a0 11).bind fun u_3 =>
  (F_Mo_next n E S a0 q_2).bind fun q_4 =>
  some (0, q_4)
def F_Mo_behindTest_b47 (n : Nat) (E : zE) (S : zS) (a0 : Nat) (x1 : Int32) (s0 : Int32) (u1 : Nat) (M : zH) : Option (Int32 × zH) :=
  (zgI S M a0 11 23).bind fun v_5 =>
  (zck S u1 11).bind fun u_6 =>
  (F_Mo_push n E S u1 s0 v_5 M).bind fun q_7 =>
  if x1 = 0 then
    F_Mo_behindTest_b66 n E S a0 30 a0 q_7
  else
    F_Mo_behindTest_b66 n E S a0 29 a0 q_7
def F_Mo_behindTest_b32 (n : Nat) (E : zE) (S : zS) (a0 : Nat) (x1 : Int32) (s0 : Int32) (u1 : Nat) (M : zH) : Option (Int32 × zH) :=
  (zck S u1 11).bind fun u_9 =>
  (F_Mo_settle n E S u1 s0 M).bind fun q_10 =>
  if x1 = 0 then
    F_Mo_behindTest_b47 n E S a0 x1 30 a0 q_10
  else
    F_Mo_behindTest_b47 n E S a0 x1 29 a0 q_10
def F_Mo_behindTest_b22 (n : Nat) (E : zE) (S : zS) (a0 : Nat) (x1 : Int32) (M : zH) : Option (Int32 × zH) :=
  if x1 = 0 then
    F_Mo_behindTest_b32 n E S a0 x1 1 a0 M
  else
    F_Mo_behindTest_b32 n E S a0 x1 2 a0 M
def F_Mo_behindTest (n : Nat) (E : zE) (S : zS) (a0 : Nat) (M : zH) : Option (Int32 × zH) :=
  (zck S a0 11).bind fun u_13 =>
  (F_Mo_isWord n E S a0 1476 M).bind fun q_14 =>
  if (bI q_14.1) = 0 then
    (F_Mo_isWord n E S a0 498 q_14.2).bind fun q_16 =>
    if q_16.1 = true then
      F_Mo_behindTest_b22 n E S a0 (bI q_14.1) q_16.2
    else
      (F_Mo_inner n E S a0 q_16.2).bind fun q_18 =>
      if q_18.1 = (-1) then
        some (4, q_18.2)
      else
        (F_Mo_isSign n E S a0 41 q_18.2).bind fun q_20 =>
        (F_Mo_must n E S a0 (bI q_20.1) q_20.2).bind fun q_21 =>
        (zgI S q_21 a0 11 19).bind fun v_22 =>
        if v_22 = 0 then
          (F_Mo_settle n E S a0 1 q_21).bind fun q_24 =>
          (zgI S q_24 a0 11 29).bind fun v_25 =>
          (zpI S q_24 a0 11 29 (v_25 - 1)).bind fun m_26 =>
          (zgI S m_26 a0 11 30).bind fun v_27 =>
          (zpI S m_26 a0 11 30 (v_27 - 1)).bind fun m_28 =>
          some (2, m_28)
        else
          some (2, q_21)
  else
    F_Mo_behindTest_b22 n E S a0 (bI q_14.1) q_14.2
theorem K_Mo_behindTest_b66 (n : Nat) (E : zE) (S : zS) (a0 : Nat) (s0 : Int32) (u1 : Nat) (M : zH) (r : Int32) (M' : zH)  (h : F_Mo_behindTest_b66 n E S a0 s0 u1 M = some (r, M')) : zG E Y_Mo_behindTest (some (.int r), S, M') 66 [(0, .ref a0)] [.int s0, .ref u1] S M 0 0 := by
  unfold F_Mo_behindTest_b66 at h
  refine zi_iconst 0 d_Mo_behindTest_66 rfl ?_
  obtain ⟨u_1, eu_1, h⟩ := zbind h
  obtain ⟨q_2, eq_2, h⟩ := zbind h
  refine zo_virt (k' := 0) (n' := 0) 70 [.int s0, .int 0] [] [] zkd_11 (zck_s eu_1) (C_Mo_emit n E S u1 s0 0 M q_2 eq_2) d_Mo_behindTest_67 tw_1641 tw_1638 tw_1640 ts_69 tw_13 dd_Mo_emit ⟨Nat.le_of_ble_eq_true rfl, Nat.le_of_ble_eq_true rfl, Nat.le_of_ble_eq_true rfl, Nat.le_of_ble_eq_true rfl⟩ (Nat.le_of_ble_eq_true rfl) rfl rfl rfl rfl ?_
  refine zi_aload_n 0 d_Mo_behindTest_70 rfl ?_
  obtain ⟨u_3, eu_3, h⟩ := zbind h
  obtain ⟨q_4, eq_4, h⟩ := zbind h
  refine zo_virt (k' := 0) (n' := 0) 74 [] [] [] zkd_11 (zck_s eu_3) (C_Mo_next n E S a0 q_2 q_4 eq_4) d_Mo_behindTest_71 tw_1577 tw_1574 tw_1576 ts_56 tw_13 dd_Mo_next ⟨Nat.le_of_ble_eq_true rfl, Nat.le_of_ble_eq_true rfl, Nat.le_of_ble_eq_true rfl, Nat.le_of_ble_eq_true rfl⟩ (Nat.le_of_ble_eq_true rfl) rfl rfl rfl rfl ?_
  refine zi_iconst 0 d_Mo_behindTest_74 rfl ?_
  cases h
  exact zo_ret d_Mo_behindTest_75 (Nat.le_of_ble_eq_true rfl) (Nat.le_of_ble_eq_true rfl) rfl
theorem K_Mo_behindTest_b47 (n : Nat) (E : zE) (S : zS) (a0 : Nat) (x1 : Int32) (s0 : Int32) (u1 : Nat) (M : zH) (r : Int32) (M' : zH)  (h : F_Mo_behindTest_b47 n E S a0 x1 s0 u1 M = some (r, M')) : zG E Y_Mo_behindTest (some (.int r), S, M') 47 [(0, .ref a0), (1, .int x1)] [.int s0, .ref u1] S M 0 0 := by
  unfold F_Mo_behindTest_b47 at h
  refine zi_aload_n 0 d_Mo_behindTest_47 rfl ?_
  obtain ⟨v_5, ev_5, h⟩ := zbind h
  refine zo_getI 51 zkd_11 23 d_Mo_behindTest_48 ev_5 rfl tw_1252 rfl ?_
  obtain ⟨u_6, eu_6, h⟩ := zbind h
  obtain ⟨q_7, eq_7, h⟩ := zbind h
  refine zo_virt (k' := 0) (n' := 0) 54 [.int s0, .int v_5] [] [] zkd_11 (zck_s eu_6) (C_Mo_push n E S u1 s0 v_5 M q_7 eq_7) d_Mo_behindTest_51 tw_1612 tw_1609 tw_1611 ts_62 tw_13 dd_Mo_push ⟨Nat.le_of_ble_eq_true rfl, Nat.le_of_ble_eq_true rfl, Nat.le_of_ble_eq_true rfl, Nat.le_of_ble_eq_true rfl⟩ (Nat.le_of_ble_eq_true rfl) rfl rfl rfl rfl ?_
  refine zi_aload_n 0 d_Mo_behindTest_54 rfl ?_
  refine zi_iload_n 1 d_Mo_behindTest_55 rfl ?_
  refine zi_if_eq (tgt := 64) d_Mo_behindTest_56 rfl (fun c_8 => ?_) (fun c_8 => ?_)
  · rw [if_pos c_8] at h
    refine zi_bipush 30 d_Mo_behindTest_64 rfl ?_
    refine zi_lo [(0, .ref a0)] [0] rfl ?_
    exact K_Mo_behindTest_b66 n E S a0 30 a0 q_7 r M'  h
  · rw [if_neg c_8] at h
    refine zi_bipush 29 d_Mo_behindTest_59 rfl ?_
    refine zi_goto (tgt := 66) d_Mo_behindTest_61 rfl ?_
    refine zi_lo [(0, .ref a0)] [0] rfl ?_
    exact K_Mo_behindTest_b66 n E S a0 29 a0 q_7 r M'  h
theorem K_Mo_behindTest_b32 (n : Nat) (E : zE) (S : zS) (a0 : Nat) (x1 : Int32) (s0 : Int32) (u1 : Nat) (M : zH) (r : Int32) (M' : zH)  (h : F_Mo_behindTest_b32 n E S a0 x1 s0 u1 M = some (r, M')) : zG E Y_Mo_behindTest (some (.int r), S, M') 32 [(0, .ref a0), (1, .int x1)] [.int s0, .ref u1] S M 0 0 := by
  unfold F_Mo_behindTest_b32 at h
  obtain ⟨u_9, eu_9, h⟩ := zbind h
  obtain ⟨q_10, eq_10, h⟩ := zbind h
  refine zo_virt (k' := 0) (n' := 0) 35 [.int s0] [] [] zkd_11 (zck_s eu_9) (C_Mo_settle n E S u1 s0 M q_10 eq_10) d_Mo_behindTest_32 tw_1657 tw_1654 tw_1656 ts_72 tw_13 dd_Mo_settle ⟨Nat.le_of_ble_eq_true rfl, Nat.le_of_ble_eq_true rfl, Nat.le_of_ble_eq_true rfl, Nat.le_of_ble_eq_true rfl⟩ (Nat.le_of_ble_eq_true rfl) rfl rfl rfl rfl ?_
  refine zi_aload_n 0 d_Mo_behindTest_35 rfl ?_
  refine zi_iload_n 1 d_Mo_behindTest_36 rfl ?_
  refine zi_if_eq (tgt := 45) d_Mo_behindTest_37 rfl (fun c_11 => ?_) (fun c_11 => ?_)
  · rw [if_pos c_11] at h
    refine zi_bipush 30 d_Mo_behindTest_45 rfl ?_
    refine zi_lo [(0, .ref a0), (1, .int x1)] [0, 1] rfl ?_
    exact K_Mo_behindTest_b47 n E S a0 x1 30 a0 q_10 r M'  h
  · rw [if_neg c_11] at h
    refine zi_bipush 29 d_Mo_behindTest_40 rfl ?_
    refine zi_goto (tgt := 47) d_Mo_behindTest_42 rfl ?_
    refine zi_lo [(0, .ref a0), (1, .int x1)] [0, 1] rfl ?_
    exact K_Mo_behindTest_b47 n E S a0 x1 29 a0 q_10 r M'  h
theorem K_Mo_behindTest_b22 (n : Nat) (E : zE) (S : zS) (a0 : Nat) (x1 : Int32) (M : zH) (r : Int32) (M' : zH)  (h : F_Mo_behindTest_b22 n E S a0 x1 M = some (r, M')) : zG E Y_Mo_behindTest (some (.int r), S, M') 22 [(0, .ref a0), (1, .int x1)] [] S M 0 0 := by
  unfold F_Mo_behindTest_b22 at h
  refine zi_aload_n 0 d_Mo_behindTest_22 rfl ?_
  refine zi_iload_n 1 d_Mo_behindTest_23 rfl ?_
  refine zi_if_eq (tgt := 31) d_Mo_behindTest_24 rfl (fun c_12 => ?_) (fun c_12 => ?_)
  · rw [if_pos c_12] at h
    refine zi_iconst 1 d_Mo_behindTest_31 rfl ?_
    refine zi_lo [(0, .ref a0), (1, .int x1)] [0, 1] rfl ?_
    exact K_Mo_behindTest_b32 n E S a0 x1 1 a0 M r M'  h
  · rw [if_neg c_12] at h
    refine zi_iconst 2 d_Mo_behindTest_27 rfl ?_
    refine zi_goto (tgt := 32) d_Mo_behindTest_28 rfl ?_
    refine zi_lo [(0, .ref a0), (1, .int x1)] [0, 1] rfl ?_
    exact K_Mo_behindTest_b32 n E S a0 x1 2 a0 M r M'  h
theorem K_Mo_behindTest (n : Nat) (E : zE) (S : zS) (a0 : Nat) (M : zH) (r : Int32) (M' : zH)  (h : F_Mo_behindTest n E S a0 M = some (r, M')) : zG E Y_Mo_behindTest (some (.int r), S, M') 0 [(0, .ref a0)] [] S M 0 0 := by
  unfold F_Mo_behindTest at h
  refine zi_aload_n 0 d_Mo_behindTest_0 rfl ?_
  refine zi_ldc2 d_Mo_behindTest_1 tw_1674 ?_
  obtain ⟨u_13, eu_13, h⟩ := zbind h
  obtain ⟨q_14, eq_14, h⟩ := zbind h
  refine zo_virt (k' := 0) (n' := 0) 7 [.long 1476] [] [.int (bI q_14.1)] zkd_11 (zck_s eu_13) (C_Mo_isWord n E S a0 1476 M q_14.1 q_14.2 eq_14) d_Mo_behindTest_4 tw_1595 tw_1592 tw_1594 ts_58 tw_13 dd_Mo_isWord ⟨Nat.le_of_ble_eq_true rfl, Nat.le_of_ble_eq_true rfl, Nat.le_of_ble_eq_true rfl, Nat.le_of_ble_eq_true rfl⟩ (Nat.le_of_ble_eq_true rfl) rfl rfl rfl rfl ?_
  refine zi_istore_n [(1, .int (bI q_14.1)), (0, .ref a0)] d_Mo_behindTest_7 (by decide) rfl ?_
  refine zi_iload_n 0 d_Mo_behindTest_8 rfl ?_
  refine zi_if_ne (tgt := 22) d_Mo_behindTest_9 rfl (fun c_15 => ?_) (fun c_15 => ?_)
  · rw [if_neg c_15] at h
    refine zi_lo [(0, .ref a0), (1, .int (bI q_14.1))] [1, 0] rfl ?_
    exact K_Mo_behindTest_b22 n E S a0 (bI q_14.1) q_14.2 r M'  h
  · rw [if_pos c_15] at h
    refine zi_aload_n 1 d_Mo_behindTest_12 rfl ?_
    refine zi_ldc2 d_Mo_behindTest_13 tw_1675 ?_
    obtain ⟨q_16, eq_16, h⟩ := zbind h
    refine zo_virt (k' := 0) (n' := 0) 19 [.long 498] [] [.int (bI q_16.1)] zkd_11 (zck_s eu_13) (C_Mo_isWord n E S a0 498 q_14.2 q_16.1 q_16.2 eq_16) d_Mo_behindTest_16 tw_1595 tw_1592 tw_1594 ts_58 tw_13 dd_Mo_isWord ⟨Nat.le_of_ble_eq_true rfl, Nat.le_of_ble_eq_true rfl, Nat.le_of_ble_eq_true rfl, Nat.le_of_ble_eq_true rfl⟩ (Nat.le_of_ble_eq_true rfl) rfl rfl rfl rfl ?_
    refine zo_ifeqB d_Mo_behindTest_19 rfl 22 rfl (fun c_17 => ?_) (fun c_17 => ?_)
    · rw [if_neg c_17] at h
      refine zi_aload_n 1 d_Mo_behindTest_76 rfl ?_
      obtain ⟨q_18, eq_18, h⟩ := zbind h
      refine zo_virt (k' := 0) (n' := 0) 80 [] [] [.int q_18.1] zkd_11 (zck_s eu_13) (C_Mo_inner n E S a0 q_16.2 q_18.1 q_18.2 eq_18) d_Mo_behindTest_77 tw_1661 tw_1658 tw_1660 ts_73 tw_13 dd_Mo_inner ⟨Nat.le_of_ble_eq_true rfl, Nat.le_of_ble_eq_true rfl, Nat.le_of_ble_eq_true rfl, Nat.le_of_ble_eq_true rfl⟩ (Nat.le_of_ble_eq_true rfl) rfl rfl rfl rfl ?_
      refine zi_iconst (-1) d_Mo_behindTest_80 rfl ?_
      refine zi_icmp_ne (tgt := 86) d_Mo_behindTest_81 rfl (fun c_19 => ?_) (fun c_19 => ?_)
      · rw [if_neg c_19] at h
        refine zi_aload_n 1 d_Mo_behindTest_86 rfl ?_
        refine zi_aload_n 1 d_Mo_behindTest_87 rfl ?_
        refine zi_bipush 41 d_Mo_behindTest_88 rfl ?_
        obtain ⟨q_20, eq_20, h⟩ := zbind h
        refine zo_virt (k' := 0) (n' := 0) 93 [.int 41] [.ref a0] [.int (bI q_20.1), .ref a0] zkd_11 (zck_s eu_13) (C_Mo_isSign n E S a0 41 q_18.2 q_20.1 q_20.2 eq_20) d_Mo_behindTest_90 tw_1616 tw_1613 tw_1615 ts_63 tw_13 dd_Mo_isSign ⟨Nat.le_of_ble_eq_true rfl, Nat.le_of_ble_eq_true rfl, Nat.le_of_ble_eq_true rfl, Nat.le_of_ble_eq_true rfl⟩ (Nat.le_of_ble_eq_true rfl) rfl rfl rfl rfl ?_
        obtain ⟨q_21, eq_21, h⟩ := zbind h
        refine zo_virt (k' := 0) (n' := 0) 96 [.int (bI q_20.1)] [] [] zkd_11 (zck_s eu_13) (C_Mo_must n E S a0 (bI q_20.1) q_20.2 q_21 eq_21) d_Mo_behindTest_93 tw_1599 tw_1596 tw_1598 ts_59 tw_13 dd_Mo_must ⟨Nat.le_of_ble_eq_true rfl, Nat.le_of_ble_eq_true rfl, Nat.le_of_ble_eq_true rfl, Nat.le_of_ble_eq_true rfl⟩ (Nat.le_of_ble_eq_true rfl) rfl rfl rfl rfl ?_
        refine zi_aload_n 1 d_Mo_behindTest_96 rfl ?_
        obtain ⟨v_22, ev_22, h⟩ := zbind h
        refine zo_getI 100 zkd_11 19 d_Mo_behindTest_97 ev_22 rfl tw_1248 rfl ?_
        refine zi_if_ne (tgt := 128) d_Mo_behindTest_100 rfl (fun c_23 => ?_) (fun c_23 => ?_)
        · rw [if_neg c_23] at h
          refine zi_iconst 2 d_Mo_behindTest_128 rfl ?_
          cases h
          exact zo_ret d_Mo_behindTest_129 (Nat.le_of_ble_eq_true rfl) (Nat.le_of_ble_eq_true rfl) rfl
        · rw [if_pos c_23] at h
          refine zi_aload_n 1 d_Mo_behindTest_103 rfl ?_
          refine zi_iconst 1 d_Mo_behindTest_104 rfl ?_
          obtain ⟨q_24, eq_24, h⟩ := zbind h
          refine zo_virt (k' := 0) (n' := 0) 108 [.int 1] [] [] zkd_11 (zck_s eu_13) (C_Mo_settle n E S a0 1 q_21 q_24 eq_24) d_Mo_behindTest_105 tw_1657 tw_1654 tw_1656 ts_72 tw_13 dd_Mo_settle ⟨Nat.le_of_ble_eq_true rfl, Nat.le_of_ble_eq_true rfl, Nat.le_of_ble_eq_true rfl, Nat.le_of_ble_eq_true rfl⟩ (Nat.le_of_ble_eq_true rfl) rfl rfl rfl rfl ?_
          refine zi_aload_n 1 d_Mo_behindTest_108 rfl ?_
          refine zi_dup d_Mo_behindTest_109 rfl ?_
          obtain ⟨v_25, ev_25, h⟩ := zbind h
          refine zo_getI 113 zkd_11 29 d_Mo_behindTest_110 ev_25 rfl tw_1258 rfl ?_
          refine zi_iconst 1 d_Mo_behindTest_113 rfl ?_
          refine zi_isub d_Mo_behindTest_114 ?_
          obtain ⟨m_26, em_26, h⟩ := zbind h
          refine zo_putI 118 zkd_11 29 d_Mo_behindTest_115 em_26 rfl rfl rfl tw_1258 rfl ?_
          refine zi_aload_n 1 d_Mo_behindTest_118 rfl ?_
          refine zi_dup d_Mo_behindTest_119 rfl ?_
          obtain ⟨v_27, ev_27, h⟩ := zbind h
          refine zo_getI 123 zkd_11 30 d_Mo_behindTest_120 ev_27 rfl tw_1259 rfl ?_
          refine zi_iconst 1 d_Mo_behindTest_123 rfl ?_
          refine zi_isub d_Mo_behindTest_124 ?_
          obtain ⟨m_28, em_28, h⟩ := zbind h
          refine zo_putI 128 zkd_11 30 d_Mo_behindTest_125 em_28 rfl rfl rfl tw_1259 rfl ?_
          refine zi_iconst 2 d_Mo_behindTest_128 rfl ?_
          cases h
          exact zo_ret d_Mo_behindTest_129 (Nat.le_of_ble_eq_true rfl) (Nat.le_of_ble_eq_true rfl) rfl
      · rw [if_pos c_19] at h
        refine zi_iconst 4 d_Mo_behindTest_84 rfl ?_
        cases h
        exact zo_ret d_Mo_behindTest_85 (Nat.le_of_ble_eq_true rfl) (Nat.le_of_ble_eq_true rfl) rfl
    · rw [if_pos c_17] at h
      refine zi_lo [(0, .ref a0), (1, .int (bI q_14.1))] [1, 0] rfl ?_
      exact K_Mo_behindTest_b22 n E S a0 (bI q_14.1) q_16.2 r M'  h
theorem C_Mo_behindTest (n : Nat) (E : zE) (S : zS) (a0 : Nat) (M : zH) (r : Int32) (M' : zH) (h : F_Mo_behindTest n E S a0 M = some (r, M')) : zC E Y_Mo_behindTest [.ref a0] S M (some (.int r), S, M') :=
  zC.of (Or.inl (show plainName "NightColanderModel" = true by decide)) (Nat.le_of_ble_eq_true rfl) (trivial) (K_Mo_behindTest n E S a0 M r M' h)
theorem d_Mo_leaf_0 : decode (yB Y_Mo_leaf) 0 = .ok (.aload_n 0, 1) := by decide +kernel
theorem d_Mo_leaf_1 : decode (yB Y_Mo_leaf) 1 = .ok (.iload_n 1, 1) := by decide +kernel
theorem d_Mo_leaf_2 : decode (yB Y_Mo_leaf) 2 = .ok (.ifCond .eq 16, 3) := by decide +kernel
theorem d_Mo_leaf_5 : decode (yB Y_Mo_leaf) 5 = .ok (.aload_n 0, 1) := by decide +kernel
theorem d_Mo_leaf_6 : decode (yB Y_Mo_leaf) 6 = .ok (.getfield 322, 3) := by decide +kernel
theorem d_Mo_leaf_9 : decode (yB Y_Mo_leaf) 9 = .ok (.bipush 50, 2) := by decide +kernel
theorem d_Mo_leaf_11 : decode (yB Y_Mo_leaf) 11 = .ok (.if_icmp .ge 7, 3) := by decide +kernel
theorem d_Mo_leaf_14 : decode (yB Y_Mo_leaf) 14 = .ok (.iconst 1, 1) := by decide +kernel
theorem d_Mo_leaf_15 : decode (yB Y_Mo_leaf) 15 = .ok (.goto 4, 3) := by decide +kernel
theorem d_Mo_leaf_18 : decode (yB Y_Mo_leaf) 18 = .ok (.iconst 0, 1) := by decide +kernel
theorem d_Mo_leaf_19 : decode (yB Y_Mo_leaf) 19 = .ok (.invokevirtual 287, 3) := by decide +kernel
theorem d_Mo_leaf_22 : decode (yB Y_Mo_leaf) 22 = .ok (.aload_n 0, 1) := by decide +kernel
theorem d_Mo_leaf_23 : decode (yB Y_Mo_leaf) 23 = .ok (.getfield 256, 3) := by decide +kernel
theorem d_Mo_leaf_26 : decode (yB Y_Mo_leaf) 26 = .ok (.ifCond .ne 19, 3) := by decide +kernel
theorem d_Mo_leaf_29 : decode (yB Y_Mo_leaf) 29 = .ok (.aload_n 0, 1) := by decide +kernel
theorem d_Mo_leaf_30 : decode (yB Y_Mo_leaf) 30 = .ok (.iload_n 2, 1) := by decide +kernel
theorem d_Mo_leaf_31 : decode (yB Y_Mo_leaf) 31 = .ok (.iload_n 3, 1) := by decide +kernel
theorem d_Mo_leaf_32 : decode (yB Y_Mo_leaf) 32 = .ok (.invokevirtual 300, 3) := by decide +kernel
theorem d_Mo_leaf_35 : decode (yB Y_Mo_leaf) 35 = .ok (.aload_n 0, 1) := by decide +kernel
theorem d_Mo_leaf_36 : decode (yB Y_Mo_leaf) 36 = .ok (.dup, 1) := by decide +kernel
theorem d_Mo_leaf_37 : decode (yB Y_Mo_leaf) 37 = .ok (.getfield 322, 3) := by decide +kernel
theorem d_Mo_leaf_40 : decode (yB Y_Mo_leaf) 40 = .ok (.iconst 1, 1) := by decide +kernel
theorem d_Mo_leaf_41 : decode (yB Y_Mo_leaf) 41 = .ok (.iadd, 1) := by decide +kernel
theorem d_Mo_leaf_42 : decode (yB Y_Mo_leaf) 42 = .ok (.putfield 322, 3) := by decide +kernel
theorem d_Mo_leaf_45 : decode (yB Y_Mo_leaf) 45 = .ok (.return_, 1) := by decide +kernel
def F_Mo_leaf_b19 (n : Nat) (E : zE) (S : zS) (a0 : Nat) (x2 : Int32) (x3 : Int32) (s0 : Int32) (u1 : Nat) (M : zH) : Option (zH) :=
  (zck S u1 11).bind fun u_1 =>
  (F_Mo_must n E S u1 s0 M).bind fun q_2 =>
  (zgI S q_2 a0 11 19).bind fun v_3 =>
  if v_3 = 0 then
    (F_Mo_emit n E S a0 x2 x3 q_2).bind fun q_5 =>
    (zgI S q_5 a0 11 26).bind fun v_6 =>
    (zpI S q_5 a0 11 26 (v_6 + 1)).bind fun m_7 =>
    some (m_7)
  else
    some (q_2)
def F_Mo_leaf_b18 (n : Nat) (E : zE) (S : zS) (a0 : Nat) (x2 : Int32) (x3 : Int32) (u0 : Nat) (M : zH) : Option (zH) :=
  F_Mo_leaf_b19 n E S a0 x2 x3 0 u0 M
def F_Mo_leaf (n : Nat) (E : zE) (S : zS) (a0 : Nat) (x1 : Int32) (x2 : Int32) (x3 : Int32) (M : zH) : Option (zH) :=
  if x1 = 0 then
    F_Mo_leaf_b18 n E S a0 x2 x3 a0 M
  else
    (zgI S M a0 11 26).bind fun v_9 =>
    if 50 ≤ v_9 then
      F_Mo_leaf_b18 n E S a0 x2 x3 a0 M
    else
      F_Mo_leaf_b19 n E S a0 x2 x3 1 a0 M
theorem K_Mo_leaf_b19 (n : Nat) (E : zE) (S : zS) (a0 : Nat) (x2 : Int32) (x3 : Int32) (s0 : Int32) (u1 : Nat) (M : zH) (M' : zH)  (h : F_Mo_leaf_b19 n E S a0 x2 x3 s0 u1 M = some M') : zG E Y_Mo_leaf (none, S, M') 19 [(0, .ref a0), (2, .int x2), (3, .int x3)] [.int s0, .ref u1] S M 0 0 := by
  unfold F_Mo_leaf_b19 at h
  obtain ⟨u_1, eu_1, h⟩ := zbind h
  obtain ⟨q_2, eq_2, h⟩ := zbind h
  refine zo_virt (k' := 0) (n' := 0) 22 [.int s0] [] [] zkd_11 (zck_s eu_1) (C_Mo_must n E S u1 s0 M q_2 eq_2) d_Mo_leaf_19 tw_1599 tw_1596 tw_1598 ts_59 tw_13 dd_Mo_must ⟨Nat.le_of_ble_eq_true rfl, Nat.le_of_ble_eq_true rfl, Nat.le_of_ble_eq_true rfl, Nat.le_of_ble_eq_true rfl⟩ (Nat.le_of_ble_eq_true rfl) rfl rfl rfl rfl ?_
  refine zi_aload_n 0 d_Mo_leaf_22 rfl ?_
  obtain ⟨v_3, ev_3, h⟩ := zbind h
  refine zo_getI 26 zkd_11 19 d_Mo_leaf_23 ev_3 rfl tw_1248 rfl ?_
  refine zi_if_ne (tgt := 45) d_Mo_leaf_26 rfl (fun c_4 => ?_) (fun c_4 => ?_)
  · rw [if_neg c_4] at h
    cases h
    exact zo_ret d_Mo_leaf_45 (Nat.le_of_ble_eq_true rfl) (Nat.le_of_ble_eq_true rfl) rfl
  · rw [if_pos c_4] at h
    refine zi_aload_n 0 d_Mo_leaf_29 rfl ?_
    refine zi_iload_n 1 d_Mo_leaf_30 rfl ?_
    refine zi_iload_n 2 d_Mo_leaf_31 rfl ?_
    obtain ⟨q_5, eq_5, h⟩ := zbind h
    refine zo_virt (k' := 0) (n' := 0) 35 [.int x2, .int x3] [] [] zkd_11 (zgI_s ev_3).1 (C_Mo_emit n E S a0 x2 x3 q_2 q_5 eq_5) d_Mo_leaf_32 tw_1641 tw_1638 tw_1640 ts_69 tw_13 dd_Mo_emit ⟨Nat.le_of_ble_eq_true rfl, Nat.le_of_ble_eq_true rfl, Nat.le_of_ble_eq_true rfl, Nat.le_of_ble_eq_true rfl⟩ (Nat.le_of_ble_eq_true rfl) rfl rfl rfl rfl ?_
    refine zi_aload_n 0 d_Mo_leaf_35 rfl ?_
    refine zi_dup d_Mo_leaf_36 rfl ?_
    obtain ⟨v_6, ev_6, h⟩ := zbind h
    refine zo_getI 40 zkd_11 26 d_Mo_leaf_37 ev_6 rfl tw_1255 rfl ?_
    refine zi_iconst 1 d_Mo_leaf_40 rfl ?_
    refine zi_iadd d_Mo_leaf_41 ?_
    obtain ⟨m_7, em_7, h⟩ := zbind h
    refine zo_putI 45 zkd_11 26 d_Mo_leaf_42 em_7 rfl rfl rfl tw_1255 rfl ?_
    cases h
    exact zo_ret d_Mo_leaf_45 (Nat.le_of_ble_eq_true rfl) (Nat.le_of_ble_eq_true rfl) rfl
theorem K_Mo_leaf_b18 (n : Nat) (E : zE) (S : zS) (a0 : Nat) (x2 : Int32) (x3 : Int32) (u0 : Nat) (M : zH) (M' : zH)  (h : F_Mo_leaf_b18 n E S a0 x2 x3 u0 M = some M') : zG E Y_Mo_leaf (none, S, M') 18 [(0, .ref a0), (2, .int x2), (3, .int x3)] [.ref u0] S M 0 0 := by
  unfold F_Mo_leaf_b18 at h
  refine zi_iconst 0 d_Mo_leaf_18 rfl ?_
  refine zi_lo [(0, .ref a0), (2, .int x2), (3, .int x3)] [0, 1, 2] rfl ?_
  exact K_Mo_leaf_b19 n E S a0 x2 x3 0 u0 M M'  h
theorem K_Mo_leaf (n : Nat) (E : zE) (S : zS) (a0 : Nat) (x1 : Int32) (x2 : Int32) (x3 : Int32) (M : zH) (M' : zH)  (h : F_Mo_leaf n E S a0 x1 x2 x3 M = some M') : zG E Y_Mo_leaf (none, S, M') 0 [(0, .ref a0), (1, .int x1), (2, .int x2), (3, .int x3)] [] S M 0 0 := by
  unfold F_Mo_leaf at h
  refine zi_aload_n 0 d_Mo_leaf_0 rfl ?_
  refine zi_iload_n 1 d_Mo_leaf_1 rfl ?_
  refine zi_if_eq (tgt := 18) d_Mo_leaf_2 rfl (fun c_8 => ?_) (fun c_8 => ?_)
  · rw [if_pos c_8] at h
    refine zi_lo [(0, .ref a0), (2, .int x2), (3, .int x3)] [0, 2, 3] rfl ?_
    exact K_Mo_leaf_b18 n E S a0 x2 x3 a0 M M'  h
  · rw [if_neg c_8] at h
    refine zi_aload_n 0 d_Mo_leaf_5 rfl ?_
    obtain ⟨v_9, ev_9, h⟩ := zbind h
    refine zo_getI 9 zkd_11 26 d_Mo_leaf_6 ev_9 rfl tw_1255 rfl ?_
    refine zi_bipush 50 d_Mo_leaf_9 rfl ?_
    refine zi_icmp_ge (tgt := 18) d_Mo_leaf_11 rfl (fun c_10 => ?_) (fun c_10 => ?_)
    · rw [if_pos c_10] at h
      refine zi_lo [(0, .ref a0), (2, .int x2), (3, .int x3)] [0, 2, 3] rfl ?_
      exact K_Mo_leaf_b18 n E S a0 x2 x3 a0 M M'  h
    · rw [if_neg c_10] at h
      refine zi_iconst 1 d_Mo_leaf_14 rfl ?_
      refine zi_goto (tgt := 19) d_Mo_leaf_15 rfl ?_
      refine zi_lo [(0, .ref a0), (2, .int x2), (3, .int x3)] [0, 2, 3] rfl ?_
      exact K_Mo_leaf_b19 n E S a0 x2 x3 1 a0 M M'  h
theorem C_Mo_leaf (n : Nat) (E : zE) (S : zS) (a0 : Nat) (x1 : Int32) (x2 : Int32) (x3 : Int32) (M : zH) (M' : zH) (h : F_Mo_leaf n E S a0 x1 x2 x3 M = some M') : zC E Y_Mo_leaf [.ref a0, .int x1, .int x2, .int x3] S M (none, S, M') :=
  zC.of (Or.inl (show plainName "NightColanderModel" = true by decide)) (Nat.le_of_ble_eq_true rfl) (trivial) (K_Mo_leaf n E S a0 x1 x2 x3 M M' h)
theorem d_Mo_number_0 : decode (yB Y_Mo_number) 0 = .ok (.aload_n 0, 1) := by decide +kernel
theorem d_Mo_number_1 : decode (yB Y_Mo_number) 1 = .ok (.getfield 266, 3) := by decide +kernel
theorem d_Mo_number_4 : decode (yB Y_Mo_number) 4 = .ok (.l2i, 1) := by decide +kernel
theorem d_Mo_number_5 : decode (yB Y_Mo_number) 5 = .ok (.istore 5, 2) := by decide +kernel
theorem d_Mo_number_7 : decode (yB Y_Mo_number) 7 = .ok (.aload_n 0, 1) := by decide +kernel
theorem d_Mo_number_8 : decode (yB Y_Mo_number) 8 = .ok (.aload_n 0, 1) := by decide +kernel
theorem d_Mo_number_9 : decode (yB Y_Mo_number) 9 = .ok (.getfield 276, 3) := by decide +kernel
theorem d_Mo_number_12 : decode (yB Y_Mo_number) 12 = .ok (.iconst 2, 1) := by decide +kernel
theorem d_Mo_number_13 : decode (yB Y_Mo_number) 13 = .ok (.if_icmp .ne 19, 3) := by decide +kernel
theorem d_Mo_number_16 : decode (yB Y_Mo_number) 16 = .ok (.aload_n 0, 1) := by decide +kernel
theorem d_Mo_number_17 : decode (yB Y_Mo_number) 17 = .ok (.getfield 266, 3) := by decide +kernel
theorem d_Mo_number_20 : decode (yB Y_Mo_number) 20 = .ok (.lload_n 1, 1) := by decide +kernel
theorem d_Mo_number_21 : decode (yB Y_Mo_number) 21 = .ok (.lload_n 3, 1) := by decide +kernel
theorem d_Mo_number_22 : decode (yB Y_Mo_number) 22 = .ok (.invokestatic 176, 3) := by decide +kernel
theorem d_Mo_number_25 : decode (yB Y_Mo_number) 25 = .ok (.ifCond .eq 7, 3) := by decide +kernel
theorem d_Mo_number_28 : decode (yB Y_Mo_number) 28 = .ok (.iconst 1, 1) := by decide +kernel
theorem d_Mo_number_29 : decode (yB Y_Mo_number) 29 = .ok (.goto 4, 3) := by decide +kernel
theorem d_Mo_number_32 : decode (yB Y_Mo_number) 32 = .ok (.iconst 0, 1) := by decide +kernel
theorem d_Mo_number_33 : decode (yB Y_Mo_number) 33 = .ok (.invokevirtual 287, 3) := by decide +kernel
theorem d_Mo_number_36 : decode (yB Y_Mo_number) 36 = .ok (.iload 5, 2) := by decide +kernel
theorem d_Mo_number_38 : decode (yB Y_Mo_number) 38 = .ok (.ireturn, 1) := by decide +kernel
def F_Mo_number_b33 (n : Nat) (E : zE) (S : zS) (x5 : Int32) (s0 : Int32) (u1 : Nat) (M : zH) : Option (Int32 × zH) :=
  (zck S u1 11).bind fun u_1 =>
  (F_Mo_must n E S u1 s0 M).bind fun q_2 =>
  some (x5, q_2)
def F_Mo_number_b32 (n : Nat) (E : zE) (S : zS) (x5 : Int32) (u0 : Nat) (M : zH) : Option (Int32 × zH) :=
  F_Mo_number_b33 n E S x5 0 u0 M
def F_Mo_number (n : Nat) (E : zE) (S : zS) (a0 : Nat) (y1 : Int64) (y3 : Int64) (M : zH) : Option (Int32 × zH) :=
  (zgJ S M a0 11 17).bind fun v_3 =>
  (zgI S M a0 11 16).bind fun v_4 =>
  if v_4 = 2 then
    (zgJ S M a0 11 17).bind fun v_6 =>
    (F_Mo_in n E S v_6 y1 y3 M).bind fun q_7 =>
    if q_7.1 = true then
      F_Mo_number_b33 n E S v_3.toInt32 1 a0 q_7.2
    else
      F_Mo_number_b32 n E S v_3.toInt32 a0 q_7.2
  else
    F_Mo_number_b32 n E S v_3.toInt32 a0 M
theorem K_Mo_number_b33 (n : Nat) (E : zE) (S : zS) (x5 : Int32) (s0 : Int32) (u1 : Nat) (M : zH) (r : Int32) (M' : zH)  (h : F_Mo_number_b33 n E S x5 s0 u1 M = some (r, M')) : zG E Y_Mo_number (some (.int r), S, M') 33 [(5, .int x5)] [.int s0, .ref u1] S M 0 0 := by
  unfold F_Mo_number_b33 at h
  obtain ⟨u_1, eu_1, h⟩ := zbind h
  obtain ⟨q_2, eq_2, h⟩ := zbind h
  refine zo_virt (k' := 0) (n' := 0) 36 [.int s0] [] [] zkd_11 (zck_s eu_1) (C_Mo_must n E S u1 s0 M q_2 eq_2) d_Mo_number_33 tw_1599 tw_1596 tw_1598 ts_59 tw_13 dd_Mo_must ⟨Nat.le_of_ble_eq_true rfl, Nat.le_of_ble_eq_true rfl, Nat.le_of_ble_eq_true rfl, Nat.le_of_ble_eq_true rfl⟩ (Nat.le_of_ble_eq_true rfl) rfl rfl rfl rfl ?_
  refine zi_iload 0 d_Mo_number_36 rfl ?_
  cases h
  exact zo_ret d_Mo_number_38 (Nat.le_of_ble_eq_true rfl) (Nat.le_of_ble_eq_true rfl) rfl
theorem K_Mo_number_b32 (n : Nat) (E : zE) (S : zS) (x5 : Int32) (u0 : Nat) (M : zH) (r : Int32) (M' : zH)  (h : F_Mo_number_b32 n E S x5 u0 M = some (r, M')) : zG E Y_Mo_number (some (.int r), S, M') 32 [(5, .int x5)] [.ref u0] S M 0 0 := by
  unfold F_Mo_number_b32 at h
  refine zi_iconst 0 d_Mo_number_32 rfl ?_
  refine zi_lo [(5, .int x5)] [0] rfl ?_
  exact K_Mo_number_b33 n E S x5 0 u0 M r M'  h
theorem K_Mo_number (n : Nat) (E : zE) (S : zS) (a0 : Nat) (y1 : Int64) (y3 : Int64) (M : zH) (r : Int32) (M' : zH)  (h : F_Mo_number n E S a0 y1 y3 M = some (r, M')) : zG E Y_Mo_number (some (.int r), S, M') 0 [(0, .ref a0), (1, .long y1), (3, .long y3)] [] S M 0 0 := by
  unfold F_Mo_number at h
  refine zi_aload_n 0 d_Mo_number_0 rfl ?_
  obtain ⟨v_3, ev_3, h⟩ := zbind h
  refine zo_getJ 4 zkd_11 17 d_Mo_number_1 ev_3 rfl tw_1246 rfl ?_
  refine zi_l2i d_Mo_number_4 ?_
  refine zi_istore [(5, .int v_3.toInt32), (0, .ref a0), (1, .long y1), (3, .long y3)] d_Mo_number_5 (by decide) rfl ?_
  refine zi_aload_n 1 d_Mo_number_7 rfl ?_
  refine zi_aload_n 1 d_Mo_number_8 rfl ?_
  obtain ⟨v_4, ev_4, h⟩ := zbind h
  refine zo_getI 12 zkd_11 16 d_Mo_number_9 ev_4 rfl tw_1245 rfl ?_
  refine zi_iconst 2 d_Mo_number_12 rfl ?_
  refine zi_icmp_ne (tgt := 32) d_Mo_number_13 rfl (fun c_5 => ?_) (fun c_5 => ?_)
  · rw [if_neg c_5] at h
    refine zi_lo [(5, .int v_3.toInt32)] [0] rfl ?_
    exact K_Mo_number_b32 n E S v_3.toInt32 a0 M r M'  h
  · rw [if_pos c_5] at h
    refine zi_aload_n 1 d_Mo_number_16 rfl ?_
    obtain ⟨v_6, ev_6, h⟩ := zbind h
    refine zo_getJ 20 zkd_11 17 d_Mo_number_17 ev_6 rfl tw_1246 rfl ?_
    refine zi_lload_n 2 d_Mo_number_20 rfl ?_
    refine zi_lload_n 3 d_Mo_number_21 rfl ?_
    obtain ⟨q_7, eq_7, h⟩ := zbind h
    refine zo_stat (k' := 0) (n' := 0) 25 [.long v_6, .long y1, .long y3] [.ref a0] [.int (bI q_7.1), .ref a0] (C_Mo_in n E S v_6 y1 y3 M q_7.1 q_7.2 eq_7) d_Mo_number_22 tw_1419 tw_1417 tw_1418 tw_13 dd_Mo_in ⟨Nat.le_of_ble_eq_true rfl, Nat.le_of_ble_eq_true rfl, Nat.le_of_ble_eq_true rfl, Nat.le_of_ble_eq_true rfl⟩ (Nat.le_of_ble_eq_true rfl) rfl rfl rfl rfl ?_
    refine zo_ifeqB d_Mo_number_25 rfl 28 rfl (fun c_8 => ?_) (fun c_8 => ?_)
    · rw [if_neg c_8] at h
      refine zi_lo [(5, .int v_3.toInt32)] [0] rfl ?_
      exact K_Mo_number_b32 n E S v_3.toInt32 a0 q_7.2 r M'  h
    · rw [if_pos c_8] at h
      refine zi_iconst 1 d_Mo_number_28 rfl ?_
      refine zi_goto (tgt := 33) d_Mo_number_29 rfl ?_
      refine zi_lo [(5, .int v_3.toInt32)] [0] rfl ?_
      exact K_Mo_number_b33 n E S v_3.toInt32 1 a0 q_7.2 r M'  h
theorem C_Mo_number (n : Nat) (E : zE) (S : zS) (a0 : Nat) (y1 : Int64) (y3 : Int64) (M : zH) (r : Int32) (M' : zH) (h : F_Mo_number n E S a0 y1 y3 M = some (r, M')) : zC E Y_Mo_number [.ref a0, .long y1, .long y3] S M (some (.int r), S, M') :=
  zC.of (Or.inl (show plainName "NightColanderModel" = true by decide)) (Nat.le_of_ble_eq_true rfl) (trivial) (K_Mo_number n E S a0 y1 y3 M r M' h)
theorem d_Mo_openBracket_0 : decode (yB Y_Mo_openBracket) 0 = .ok (.aload_n 0, 1) := by decide +kernel
theorem d_Mo_openBracket_1 : decode (yB Y_Mo_openBracket) 1 = .ok (.aload_n 0, 1) := by decide +kernel
theorem d_Mo_openBracket_2 : decode (yB Y_Mo_openBracket) 2 = .ok (.getfield 316, 3) := by decide +kernel
theorem d_Mo_openBracket_5 : decode (yB Y_Mo_openBracket) 5 = .ok (.bipush 8, 2) := by decide +kernel
theorem d_Mo_openBracket_7 : decode (yB Y_Mo_openBracket) 7 = .ok (.if_icmp .ge 7, 3) := by decide +kernel
theorem d_Mo_openBracket_10 : decode (yB Y_Mo_openBracket) 10 = .ok (.iconst 1, 1) := by decide +kernel
theorem d_Mo_openBracket_11 : decode (yB Y_Mo_openBracket) 11 = .ok (.goto 4, 3) := by decide +kernel
theorem d_Mo_openBracket_14 : decode (yB Y_Mo_openBracket) 14 = .ok (.iconst 0, 1) := by decide +kernel
theorem d_Mo_openBracket_15 : decode (yB Y_Mo_openBracket) 15 = .ok (.invokevirtual 287, 3) := by decide +kernel
theorem d_Mo_openBracket_18 : decode (yB Y_Mo_openBracket) 18 = .ok (.aload_n 0, 1) := by decide +kernel
theorem d_Mo_openBracket_19 : decode (yB Y_Mo_openBracket) 19 = .ok (.getfield 256, 3) := by decide +kernel
theorem d_Mo_openBracket_22 : decode (yB Y_Mo_openBracket) 22 = .ok (.ifCond .ne 19, 3) := by decide +kernel
theorem d_Mo_openBracket_25 : decode (yB Y_Mo_openBracket) 25 = .ok (.aload_n 0, 1) := by decide +kernel
theorem d_Mo_openBracket_26 : decode (yB Y_Mo_openBracket) 26 = .ok (.dup, 1) := by decide +kernel
theorem d_Mo_openBracket_27 : decode (yB Y_Mo_openBracket) 27 = .ok (.getfield 316, 3) := by decide +kernel
theorem d_Mo_openBracket_30 : decode (yB Y_Mo_openBracket) 30 = .ok (.iconst 1, 1) := by decide +kernel
theorem d_Mo_openBracket_31 : decode (yB Y_Mo_openBracket) 31 = .ok (.iadd, 1) := by decide +kernel
theorem d_Mo_openBracket_32 : decode (yB Y_Mo_openBracket) 32 = .ok (.putfield 316, 3) := by decide +kernel
theorem d_Mo_openBracket_35 : decode (yB Y_Mo_openBracket) 35 = .ok (.aload_n 0, 1) := by decide +kernel
theorem d_Mo_openBracket_36 : decode (yB Y_Mo_openBracket) 36 = .ok (.iload_n 1, 1) := by decide +kernel
theorem d_Mo_openBracket_37 : decode (yB Y_Mo_openBracket) 37 = .ok (.iconst 0, 1) := by decide +kernel
theorem d_Mo_openBracket_38 : decode (yB Y_Mo_openBracket) 38 = .ok (.invokevirtual 319, 3) := by decide +kernel
theorem d_Mo_openBracket_41 : decode (yB Y_Mo_openBracket) 41 = .ok (.return_, 1) := by decide +kernel
def F_Mo_openBracket_b15 (n : Nat) (E : zE) (S : zS) (a0 : Nat) (x1 : Int32) (s0 : Int32) (u1 : Nat) (M : zH) : Option (zH) :=
  (zck S u1 11).bind fun u_1 =>
  (F_Mo_must n E S u1 s0 M).bind fun q_2 =>
  (zgI S q_2 a0 11 19).bind fun v_3 =>
  if v_3 = 0 then
    (zgI S q_2 a0 11 30).bind fun v_5 =>
    (zpI S q_2 a0 11 30 (v_5 + 1)).bind fun m_6 =>
    (F_Mo_push n E S a0 x1 0 m_6).bind fun q_7 =>
    some (q_7)
  else
    some (q_2)
def F_Mo_openBracket (n : Nat) (E : zE) (S : zS) (a0 : Nat) (x1 : Int32) (M : zH) : Option (zH) :=
  (zgI S M a0 11 30).bind fun v_8 =>
  if 8 ≤ v_8 then
    F_Mo_openBracket_b15 n E S a0 x1 0 a0 M
  else
    F_Mo_openBracket_b15 n E S a0 x1 1 a0 M
theorem K_Mo_openBracket_b15 (n : Nat) (E : zE) (S : zS) (a0 : Nat) (x1 : Int32) (s0 : Int32) (u1 : Nat) (M : zH) (M' : zH)  (h : F_Mo_openBracket_b15 n E S a0 x1 s0 u1 M = some M') : zG E Y_Mo_openBracket (none, S, M') 15 [(0, .ref a0), (1, .int x1)] [.int s0, .ref u1] S M 0 0 := by
  unfold F_Mo_openBracket_b15 at h
  obtain ⟨u_1, eu_1, h⟩ := zbind h
  obtain ⟨q_2, eq_2, h⟩ := zbind h
  refine zo_virt (k' := 0) (n' := 0) 18 [.int s0] [] [] zkd_11 (zck_s eu_1) (C_Mo_must n E S u1 s0 M q_2 eq_2) d_Mo_openBracket_15 tw_1599 tw_1596 tw_1598 ts_59 tw_13 dd_Mo_must ⟨Nat.le_of_ble_eq_true rfl, Nat.le_of_ble_eq_true rfl, Nat.le_of_ble_eq_true rfl, Nat.le_of_ble_eq_true rfl⟩ (Nat.le_of_ble_eq_true rfl) rfl rfl rfl rfl ?_
  refine zi_aload_n 0 d_Mo_openBracket_18 rfl ?_
  obtain ⟨v_3, ev_3, h⟩ := zbind h
  refine zo_getI 22 zkd_11 19 d_Mo_openBracket_19 ev_3 rfl tw_1248 rfl ?_
  refine zi_if_ne (tgt := 41) d_Mo_openBracket_22 rfl (fun c_4 => ?_) (fun c_4 => ?_)
  · rw [if_neg c_4] at h
    cases h
    exact zo_ret d_Mo_openBracket_41 (Nat.le_of_ble_eq_true rfl) (Nat.le_of_ble_eq_true rfl) rfl
  · rw [if_pos c_4] at h
    refine zi_aload_n 0 d_Mo_openBracket_25 rfl ?_
    refine zi_dup d_Mo_openBracket_26 rfl ?_
    obtain ⟨v_5, ev_5, h⟩ := zbind h
    refine zo_getI 30 zkd_11 30 d_Mo_openBracket_27 ev_5 rfl tw_1259 rfl ?_
    refine zi_iconst 1 d_Mo_openBracket_30 rfl ?_
    refine zi_iadd d_Mo_openBracket_31 ?_
    obtain ⟨m_6, em_6, h⟩ := zbind h
    refine zo_putI 35 zkd_11 30 d_Mo_openBracket_32 em_6 rfl rfl rfl tw_1259 rfl ?_
    refine zi_aload_n 0 d_Mo_openBracket_35 rfl ?_
    refine zi_iload_n 1 d_Mo_openBracket_36 rfl ?_
    refine zi_iconst 0 d_Mo_openBracket_37 rfl ?_
    obtain ⟨q_7, eq_7, h⟩ := zbind h
    refine zo_virt (k' := 0) (n' := 0) 41 [.int x1, .int 0] [] [] zkd_11 (zgI_s ev_3).1 (C_Mo_push n E S a0 x1 0 m_6 q_7 eq_7) d_Mo_openBracket_38 tw_1612 tw_1609 tw_1611 ts_62 tw_13 dd_Mo_push ⟨Nat.le_of_ble_eq_true rfl, Nat.le_of_ble_eq_true rfl, Nat.le_of_ble_eq_true rfl, Nat.le_of_ble_eq_true rfl⟩ (Nat.le_of_ble_eq_true rfl) rfl rfl rfl rfl ?_
    cases h
    exact zo_ret d_Mo_openBracket_41 (Nat.le_of_ble_eq_true rfl) (Nat.le_of_ble_eq_true rfl) rfl
theorem K_Mo_openBracket (n : Nat) (E : zE) (S : zS) (a0 : Nat) (x1 : Int32) (M : zH) (M' : zH)  (h : F_Mo_openBracket n E S a0 x1 M = some M') : zG E Y_Mo_openBracket (none, S, M') 0 [(0, .ref a0), (1, .int x1)] [] S M 0 0 := by
  unfold F_Mo_openBracket at h
  refine zi_aload_n 0 d_Mo_openBracket_0 rfl ?_
  refine zi_aload_n 0 d_Mo_openBracket_1 rfl ?_
  obtain ⟨v_8, ev_8, h⟩ := zbind h
  refine zo_getI 5 zkd_11 30 d_Mo_openBracket_2 ev_8 rfl tw_1259 rfl ?_
  refine zi_bipush 8 d_Mo_openBracket_5 rfl ?_
  refine zi_icmp_ge (tgt := 14) d_Mo_openBracket_7 rfl (fun c_9 => ?_) (fun c_9 => ?_)
  · rw [if_pos c_9] at h
    refine zi_iconst 0 d_Mo_openBracket_14 rfl ?_
    refine zi_lo [(0, .ref a0), (1, .int x1)] [0, 1] rfl ?_
    exact K_Mo_openBracket_b15 n E S a0 x1 0 a0 M M'  h
  · rw [if_neg c_9] at h
    refine zi_iconst 1 d_Mo_openBracket_10 rfl ?_
    refine zi_goto (tgt := 15) d_Mo_openBracket_11 rfl ?_
    refine zi_lo [(0, .ref a0), (1, .int x1)] [0, 1] rfl ?_
    exact K_Mo_openBracket_b15 n E S a0 x1 1 a0 M M'  h
theorem C_Mo_openBracket (n : Nat) (E : zE) (S : zS) (a0 : Nat) (x1 : Int32) (M : zH) (M' : zH) (h : F_Mo_openBracket n E S a0 x1 M = some M') : zC E Y_Mo_openBracket [.ref a0, .int x1] S M (none, S, M') :=
  zC.of (Or.inl (show plainName "NightColanderModel" = true by decide)) (Nat.le_of_ble_eq_true rfl) (trivial) (K_Mo_openBracket n E S a0 x1 M M' h)
theorem d_Mo_orderPartAt_0 : decode (yB Y_Mo_orderPartAt) 0 = .ok (.iconst (-1), 1) := by decide +kernel
theorem d_Mo_orderPartAt_1 : decode (yB Y_Mo_orderPartAt) 1 = .ok (.istore_n 1, 1) := by decide +kernel
theorem d_Mo_orderPartAt_2 : decode (yB Y_Mo_orderPartAt) 2 = .ok (.iconst 0, 1) := by decide +kernel
theorem d_Mo_orderPartAt_3 : decode (yB Y_Mo_orderPartAt) 3 = .ok (.istore_n 2, 1) := by decide +kernel
theorem d_Mo_orderPartAt_4 : decode (yB Y_Mo_orderPartAt) 4 = .ok (.iload_n 2, 1) := by decide +kernel
theorem d_Mo_orderPartAt_5 : decode (yB Y_Mo_orderPartAt) 5 = .ok (.bipush 7, 2) := by decide +kernel
theorem d_Mo_orderPartAt_7 : decode (yB Y_Mo_orderPartAt) 7 = .ok (.if_icmp .ge 30, 3) := by decide +kernel
theorem d_Mo_orderPartAt_10 : decode (yB Y_Mo_orderPartAt) 10 = .ok (.aload_n 0, 1) := by decide +kernel
theorem d_Mo_orderPartAt_11 : decode (yB Y_Mo_orderPartAt) 11 = .ok (.aload_n 0, 1) := by decide +kernel
theorem d_Mo_orderPartAt_12 : decode (yB Y_Mo_orderPartAt) 12 = .ok (.getfield 89, 3) := by decide +kernel
theorem d_Mo_orderPartAt_15 : decode (yB Y_Mo_orderPartAt) 15 = .ok (.iload_n 2, 1) := by decide +kernel
theorem d_Mo_orderPartAt_16 : decode (yB Y_Mo_orderPartAt) 16 = .ok (.laload, 1) := by decide +kernel
theorem d_Mo_orderPartAt_17 : decode (yB Y_Mo_orderPartAt) 17 = .ok (.invokevirtual 312, 3) := by decide +kernel
theorem d_Mo_orderPartAt_20 : decode (yB Y_Mo_orderPartAt) 20 = .ok (.ifCond .eq 9, 3) := by decide +kernel
theorem d_Mo_orderPartAt_23 : decode (yB Y_Mo_orderPartAt) 23 = .ok (.iload_n 2, 1) := by decide +kernel
theorem d_Mo_orderPartAt_24 : decode (yB Y_Mo_orderPartAt) 24 = .ok (.iconst 1, 1) := by decide +kernel
theorem d_Mo_orderPartAt_25 : decode (yB Y_Mo_orderPartAt) 25 = .ok (.iadd, 1) := by decide +kernel
theorem d_Mo_orderPartAt_26 : decode (yB Y_Mo_orderPartAt) 26 = .ok (.goto 4, 3) := by decide +kernel
theorem d_Mo_orderPartAt_29 : decode (yB Y_Mo_orderPartAt) 29 = .ok (.iload_n 1, 1) := by decide +kernel
theorem d_Mo_orderPartAt_30 : decode (yB Y_Mo_orderPartAt) 30 = .ok (.istore_n 1, 1) := by decide +kernel
theorem d_Mo_orderPartAt_31 : decode (yB Y_Mo_orderPartAt) 31 = .ok (.iinc 2 1, 3) := by decide +kernel
theorem d_Mo_orderPartAt_34 : decode (yB Y_Mo_orderPartAt) 34 = .ok (.goto (-30), 3) := by decide +kernel
theorem d_Mo_orderPartAt_37 : decode (yB Y_Mo_orderPartAt) 37 = .ok (.iload_n 1, 1) := by decide +kernel
theorem d_Mo_orderPartAt_38 : decode (yB Y_Mo_orderPartAt) 38 = .ok (.ireturn, 1) := by decide +kernel
def F_Mo_orderPartAt_b30 (n : Nat) (E : zE) (S : zS) (r4 : Nat × Int32 × Int32 × zH → Option (Int32 × zH)) (a0 : Nat) (x2 : Int32) (s0 : Int32) (M : zH) : Option (Int32 × zH) :=
  r4 (a0, s0, x2 + 1, M)
def F_Mo_orderPartAt_L4 (n : Nat) (E : zE) (S : zS) (r4 : Nat × Int32 × Int32 × zH → Option (Int32 × zH)) (a0 : Nat) (x1 : Int32) (x2 : Int32) (M : zH) : Option (Int32 × zH) :=
  if 7 ≤ x2 then
    some (x1, M)
  else
    (zgR S a0 11 32).bind fun b_2 =>
    (zldJ S M b_2 x2).bind fun v_3 =>
    (F_Mo_isWord n E S a0 v_3 M).bind fun q_4 =>
    if q_4.1 = true then
      F_Mo_orderPartAt_b30 n E S r4 a0 x2 (x2 + 1) q_4.2
    else
      F_Mo_orderPartAt_b30 n E S r4 a0 x2 x1 q_4.2
def F_Mo_orderPartAt_b4 (n : Nat) (E : zE) (S : zS) : Nat × Int32 × Int32 × zH → Option (Int32 × zH) := zfix (fun r4 s => F_Mo_orderPartAt_L4 n E S r4 s.1 s.2.1 s.2.2.1 s.2.2.2) n
def F_Mo_orderPartAt (n : Nat) (E : zE) (S : zS) (a0 : Nat) (M : zH) : Option (Int32 × zH) :=
  F_Mo_orderPartAt_b4 n E S (a0, (-1), 0, M)
theorem K_Mo_orderPartAt_b30 (n : Nat) (E : zE) (S : zS) (r4 : Nat × Int32 × Int32 × zH → Option (Int32 × zH)) (a0 : Nat) (x2 : Int32) (s0 : Int32) (M : zH) (r : Int32) (M' : zH) (hr4 : ∀ (a0 : Nat) (x1 : Int32) (x2 : Int32) (M : zH), r4 (a0, x1, x2, M) = some (r, M') → zG E Y_Mo_orderPartAt (some (.int r), S, M') 4 [(0, .ref a0), (1, .int x1), (2, .int x2)] [] S M 0 0) (h : F_Mo_orderPartAt_b30 n E S r4 a0 x2 s0 M = some (r, M')) : zG E Y_Mo_orderPartAt (some (.int r), S, M') 30 [(0, .ref a0), (2, .int x2)] [.int s0] S M 0 0 := by
  unfold F_Mo_orderPartAt_b30 at h
  refine zi_istore_n [(1, .int s0), (0, .ref a0), (2, .int x2)] d_Mo_orderPartAt_30 (by decide) rfl ?_
  refine zi_iinc 2 (x2 + 1) [(2, .int (x2 + 1)), (1, .int s0), (0, .ref a0)] d_Mo_orderPartAt_31 rfl rfl (by decide) rfl ?_
  refine zi_goto (tgt := 4) d_Mo_orderPartAt_34 rfl ?_
  refine zi_lo [(0, .ref a0), (1, .int s0), (2, .int (x2 + 1))] [2, 1, 0] rfl ?_
  exact hr4 a0 s0 (x2 + 1) M h
theorem K_Mo_orderPartAt_L4 (n : Nat) (E : zE) (S : zS) (r4 : Nat × Int32 × Int32 × zH → Option (Int32 × zH)) (a0 : Nat) (x1 : Int32) (x2 : Int32) (M : zH) (r : Int32) (M' : zH) (hr4 : ∀ (a0 : Nat) (x1 : Int32) (x2 : Int32) (M : zH), r4 (a0, x1, x2, M) = some (r, M') → zG E Y_Mo_orderPartAt (some (.int r), S, M') 4 [(0, .ref a0), (1, .int x1), (2, .int x2)] [] S M 0 0) (h : F_Mo_orderPartAt_L4 n E S r4 a0 x1 x2 M = some (r, M')) : zG E Y_Mo_orderPartAt (some (.int r), S, M') 4 [(0, .ref a0), (1, .int x1), (2, .int x2)] [] S M 0 0 := by
  unfold F_Mo_orderPartAt_L4 at h
  refine zi_iload_n 2 d_Mo_orderPartAt_4 rfl ?_
  refine zi_bipush 7 d_Mo_orderPartAt_5 rfl ?_
  refine zi_icmp_ge (tgt := 37) d_Mo_orderPartAt_7 rfl (fun c_1 => ?_) (fun c_1 => ?_)
  · rw [if_pos c_1] at h
    refine zi_iload_n 1 d_Mo_orderPartAt_37 rfl ?_
    cases h
    exact zo_ret d_Mo_orderPartAt_38 (Nat.le_of_ble_eq_true rfl) (Nat.le_of_ble_eq_true rfl) rfl
  · rw [if_neg c_1] at h
    refine zi_aload_n 0 d_Mo_orderPartAt_10 rfl ?_
    refine zi_aload_n 0 d_Mo_orderPartAt_11 rfl ?_
    obtain ⟨b_2, eb_2, h⟩ := zbind h
    refine zo_getR 15 zkd_11 32 d_Mo_orderPartAt_12 eb_2 rfl tw_1261 rfl ?_
    refine zi_iload_n 2 d_Mo_orderPartAt_15 rfl ?_
    obtain ⟨v_3, ev_3, h⟩ := zbind h
    refine zo_lald 17 d_Mo_orderPartAt_16 ev_3 rfl ?_
    obtain ⟨q_4, eq_4, h⟩ := zbind h
    refine zo_virt (k' := 0) (n' := 0) 20 [.long v_3] [] [.int (bI q_4.1)] zkd_11 (zgR_s eb_2).1 (C_Mo_isWord n E S a0 v_3 M q_4.1 q_4.2 eq_4) d_Mo_orderPartAt_17 tw_1595 tw_1592 tw_1594 ts_58 tw_13 dd_Mo_isWord ⟨Nat.le_of_ble_eq_true rfl, Nat.le_of_ble_eq_true rfl, Nat.le_of_ble_eq_true rfl, Nat.le_of_ble_eq_true rfl⟩ (Nat.le_of_ble_eq_true rfl) rfl rfl rfl rfl ?_
    refine zo_ifeqB d_Mo_orderPartAt_20 rfl 23 rfl (fun c_5 => ?_) (fun c_5 => ?_)
    · rw [if_neg c_5] at h
      refine zi_iload_n 1 d_Mo_orderPartAt_29 rfl ?_
      refine zi_lo [(0, .ref a0), (2, .int x2)] [0, 2] rfl ?_
      exact K_Mo_orderPartAt_b30 n E S r4 a0 x2 x1 q_4.2 r M' hr4 h
    · rw [if_pos c_5] at h
      refine zi_iload_n 2 d_Mo_orderPartAt_23 rfl ?_
      refine zi_iconst 1 d_Mo_orderPartAt_24 rfl ?_
      refine zi_iadd d_Mo_orderPartAt_25 ?_
      refine zi_goto (tgt := 30) d_Mo_orderPartAt_26 rfl ?_
      refine zi_lo [(0, .ref a0), (2, .int x2)] [0, 2] rfl ?_
      exact K_Mo_orderPartAt_b30 n E S r4 a0 x2 (x2 + 1) q_4.2 r M' hr4 h
theorem K_Mo_orderPartAt_b4 (n : Nat) (E : zE) (S : zS) (a0 : Nat) (x1 : Int32) (x2 : Int32) (M : zH) (r : Int32) (M' : zH)  (h : F_Mo_orderPartAt_b4 n E S (a0, x1, x2, M) = some (r, M')) : zG E Y_Mo_orderPartAt (some (.int r), S, M') 4 [(0, .ref a0), (1, .int x1), (2, .int x2)] [] S M 0 0 := by
  have key : ∀ (k : Nat) (a0 : Nat) (x1 : Int32) (x2 : Int32) (M : zH), zfix (fun r4 s => F_Mo_orderPartAt_L4 n E S r4 s.1 s.2.1 s.2.2.1 s.2.2.2) k (a0, x1, x2, M) = some (r, M') → zG E Y_Mo_orderPartAt (some (.int r), S, M') 4 [(0, .ref a0), (1, .int x1), (2, .int x2)] [] S M 0 0 := by
    intro k
    induction k with
    | zero => intro a0 x1 x2 M h; cases h
    | succ k ih => intro a0 x1 x2 M h; exact K_Mo_orderPartAt_L4 n E S _ a0 x1 x2 M r M'  (fun a0 x1 x2 M h => ih a0 x1 x2 M h) h
  exact key n a0 x1 x2 M h
theorem K_Mo_orderPartAt (n : Nat) (E : zE) (S : zS) (a0 : Nat) (M : zH) (r : Int32) (M' : zH)  (h : F_Mo_orderPartAt n E S a0 M = some (r, M')) : zG E Y_Mo_orderPartAt (some (.int r), S, M') 0 [(0, .ref a0)] [] S M 0 0 := by
  unfold F_Mo_orderPartAt at h
  refine zi_iconst (-1) d_Mo_orderPartAt_0 rfl ?_
  refine zi_istore_n [(1, .int (-1)), (0, .ref a0)] d_Mo_orderPartAt_1 (by decide) rfl ?_
  refine zi_iconst 0 d_Mo_orderPartAt_2 rfl ?_
  refine zi_istore_n [(2, .int 0), (1, .int (-1)), (0, .ref a0)] d_Mo_orderPartAt_3 (by decide) rfl ?_
  refine zi_lo [(0, .ref a0), (1, .int (-1)), (2, .int 0)] [2, 1, 0] rfl ?_
  exact K_Mo_orderPartAt_b4 n E S a0 (-1) 0 M r M'  h
theorem C_Mo_orderPartAt (n : Nat) (E : zE) (S : zS) (a0 : Nat) (M : zH) (r : Int32) (M' : zH) (h : F_Mo_orderPartAt n E S a0 M = some (r, M')) : zC E Y_Mo_orderPartAt [.ref a0] S M (some (.int r), S, M') :=
  zC.of (Or.inl (show plainName "NightColanderModel" = true by decide)) (Nat.le_of_ble_eq_true rfl) (trivial) (K_Mo_orderPartAt n E S a0 M r M' h)
theorem d_Mo_partAt_0 : decode (yB Y_Mo_partAt) 0 = .ok (.iconst (-1), 1) := by decide +kernel
theorem d_Mo_partAt_1 : decode (yB Y_Mo_partAt) 1 = .ok (.istore_n 1, 1) := by decide +kernel
theorem d_Mo_partAt_2 : decode (yB Y_Mo_partAt) 2 = .ok (.iconst 0, 1) := by decide +kernel
theorem d_Mo_partAt_3 : decode (yB Y_Mo_partAt) 3 = .ok (.istore_n 2, 1) := by decide +kernel
theorem d_Mo_partAt_4 : decode (yB Y_Mo_partAt) 4 = .ok (.iload_n 2, 1) := by decide +kernel
theorem d_Mo_partAt_5 : decode (yB Y_Mo_partAt) 5 = .ok (.bipush 9, 2) := by decide +kernel
theorem d_Mo_partAt_7 : decode (yB Y_Mo_partAt) 7 = .ok (.if_icmp .ge 30, 3) := by decide +kernel
theorem d_Mo_partAt_10 : decode (yB Y_Mo_partAt) 10 = .ok (.aload_n 0, 1) := by decide +kernel
theorem d_Mo_partAt_11 : decode (yB Y_Mo_partAt) 11 = .ok (.aload_n 0, 1) := by decide +kernel
theorem d_Mo_partAt_12 : decode (yB Y_Mo_partAt) 12 = .ok (.getfield 75, 3) := by decide +kernel
theorem d_Mo_partAt_15 : decode (yB Y_Mo_partAt) 15 = .ok (.iload_n 2, 1) := by decide +kernel
theorem d_Mo_partAt_16 : decode (yB Y_Mo_partAt) 16 = .ok (.laload, 1) := by decide +kernel
theorem d_Mo_partAt_17 : decode (yB Y_Mo_partAt) 17 = .ok (.invokevirtual 312, 3) := by decide +kernel
theorem d_Mo_partAt_20 : decode (yB Y_Mo_partAt) 20 = .ok (.ifCond .eq 9, 3) := by decide +kernel
theorem d_Mo_partAt_23 : decode (yB Y_Mo_partAt) 23 = .ok (.iload_n 2, 1) := by decide +kernel
theorem d_Mo_partAt_24 : decode (yB Y_Mo_partAt) 24 = .ok (.iconst 1, 1) := by decide +kernel
theorem d_Mo_partAt_25 : decode (yB Y_Mo_partAt) 25 = .ok (.iadd, 1) := by decide +kernel
theorem d_Mo_partAt_26 : decode (yB Y_Mo_partAt) 26 = .ok (.goto 4, 3) := by decide +kernel
theorem d_Mo_partAt_29 : decode (yB Y_Mo_partAt) 29 = .ok (.iload_n 1, 1) := by decide +kernel
theorem d_Mo_partAt_30 : decode (yB Y_Mo_partAt) 30 = .ok (.istore_n 1, 1) := by decide +kernel
theorem d_Mo_partAt_31 : decode (yB Y_Mo_partAt) 31 = .ok (.iinc 2 1, 3) := by decide +kernel
theorem d_Mo_partAt_34 : decode (yB Y_Mo_partAt) 34 = .ok (.goto (-30), 3) := by decide +kernel
theorem d_Mo_partAt_37 : decode (yB Y_Mo_partAt) 37 = .ok (.iload_n 1, 1) := by decide +kernel
theorem d_Mo_partAt_38 : decode (yB Y_Mo_partAt) 38 = .ok (.ireturn, 1) := by decide +kernel
def F_Mo_partAt_b30 (n : Nat) (E : zE) (S : zS) (r4 : Nat × Int32 × Int32 × zH → Option (Int32 × zH)) (a0 : Nat) (x2 : Int32) (s0 : Int32) (M : zH) : Option (Int32 × zH) :=
  r4 (a0, s0, x2 + 1, M)
def F_Mo_partAt_L4 (n : Nat) (E : zE) (S : zS) (r4 : Nat × Int32 × Int32 × zH → Option (Int32 × zH)) (a0 : Nat) (x1 : Int32) (x2 : Int32) (M : zH) : Option (Int32 × zH) :=
  if 9 ≤ x2 then
    some (x1, M)
  else
    (zgR S a0 11 31).bind fun b_2 =>
    (zldJ S M b_2 x2).bind fun v_3 =>
    (F_Mo_isWord n E S a0 v_3 M).bind fun q_4 =>
    if q_4.1 = true then
      F_Mo_partAt_b30 n E S r4 a0 x2 (x2 + 1) q_4.2
    else
      F_Mo_partAt_b30 n E S r4 a0 x2 x1 q_4.2
def F_Mo_partAt_b4 (n : Nat) (E : zE) (S : zS) : Nat × Int32 × Int32 × zH → Option (Int32 × zH) := zfix (fun r4 s => F_Mo_partAt_L4 n E S r4 s.1 s.2.1 s.2.2.1 s.2.2.2) n
def F_Mo_partAt (n : Nat) (E : zE) (S : zS) (a0 : Nat) (M : zH) : Option (Int32 × zH) :=
  F_Mo_partAt_b4 n E S (a0, (-1), 0, M)
theorem K_Mo_partAt_b30 (n : Nat) (E : zE) (S : zS) (r4 : Nat × Int32 × Int32 × zH → Option (Int32 × zH)) (a0 : Nat) (x2 : Int32) (s0 : Int32) (M : zH) (r : Int32) (M' : zH) (hr4 : ∀ (a0 : Nat) (x1 : Int32) (x2 : Int32) (M : zH), r4 (a0, x1, x2, M) = some (r, M') → zG E Y_Mo_partAt (some (.int r), S, M') 4 [(0, .ref a0), (1, .int x1), (2, .int x2)] [] S M 0 0) (h : F_Mo_partAt_b30 n E S r4 a0 x2 s0 M = some (r, M')) : zG E Y_Mo_partAt (some (.int r), S, M') 30 [(0, .ref a0), (2, .int x2)] [.int s0] S M 0 0 := by
  unfold F_Mo_partAt_b30 at h
  refine zi_istore_n [(1, .int s0), (0, .ref a0), (2, .int x2)] d_Mo_partAt_30 (by decide) rfl ?_
  refine zi_iinc 2 (x2 + 1) [(2, .int (x2 + 1)), (1, .int s0), (0, .ref a0)] d_Mo_partAt_31 rfl rfl (by decide) rfl ?_
  refine zi_goto (tgt := 4) d_Mo_partAt_34 rfl ?_
  refine zi_lo [(0, .ref a0), (1, .int s0), (2, .int (x2 + 1))] [2, 1, 0] rfl ?_
  exact hr4 a0 s0 (x2 + 1) M h
theorem K_Mo_partAt_L4 (n : Nat) (E : zE) (S : zS) (r4 : Nat × Int32 × Int32 × zH → Option (Int32 × zH)) (a0 : Nat) (x1 : Int32) (x2 : Int32) (M : zH) (r : Int32) (M' : zH) (hr4 : ∀ (a0 : Nat) (x1 : Int32) (x2 : Int32) (M : zH), r4 (a0, x1, x2, M) = some (r, M') → zG E Y_Mo_partAt (some (.int r), S, M') 4 [(0, .ref a0), (1, .int x1), (2, .int x2)] [] S M 0 0) (h : F_Mo_partAt_L4 n E S r4 a0 x1 x2 M = some (r, M')) : zG E Y_Mo_partAt (some (.int r), S, M') 4 [(0, .ref a0), (1, .int x1), (2, .int x2)] [] S M 0 0 := by
  unfold F_Mo_partAt_L4 at h
  refine zi_iload_n 2 d_Mo_partAt_4 rfl ?_
  refine zi_bipush 9 d_Mo_partAt_5 rfl ?_
  refine zi_icmp_ge (tgt := 37) d_Mo_partAt_7 rfl (fun c_1 => ?_) (fun c_1 => ?_)
  · rw [if_pos c_1] at h
    refine zi_iload_n 1 d_Mo_partAt_37 rfl ?_
    cases h
    exact zo_ret d_Mo_partAt_38 (Nat.le_of_ble_eq_true rfl) (Nat.le_of_ble_eq_true rfl) rfl
  · rw [if_neg c_1] at h
    refine zi_aload_n 0 d_Mo_partAt_10 rfl ?_
    refine zi_aload_n 0 d_Mo_partAt_11 rfl ?_
    obtain ⟨b_2, eb_2, h⟩ := zbind h
    refine zo_getR 15 zkd_11 31 d_Mo_partAt_12 eb_2 rfl tw_1260 rfl ?_
    refine zi_iload_n 2 d_Mo_partAt_15 rfl ?_
    obtain ⟨v_3, ev_3, h⟩ := zbind h
    refine zo_lald 17 d_Mo_partAt_16 ev_3 rfl ?_
    obtain ⟨q_4, eq_4, h⟩ := zbind h
    refine zo_virt (k' := 0) (n' := 0) 20 [.long v_3] [] [.int (bI q_4.1)] zkd_11 (zgR_s eb_2).1 (C_Mo_isWord n E S a0 v_3 M q_4.1 q_4.2 eq_4) d_Mo_partAt_17 tw_1595 tw_1592 tw_1594 ts_58 tw_13 dd_Mo_isWord ⟨Nat.le_of_ble_eq_true rfl, Nat.le_of_ble_eq_true rfl, Nat.le_of_ble_eq_true rfl, Nat.le_of_ble_eq_true rfl⟩ (Nat.le_of_ble_eq_true rfl) rfl rfl rfl rfl ?_
    refine zo_ifeqB d_Mo_partAt_20 rfl 23 rfl (fun c_5 => ?_) (fun c_5 => ?_)
    · rw [if_neg c_5] at h
      refine zi_iload_n 1 d_Mo_partAt_29 rfl ?_
      refine zi_lo [(0, .ref a0), (2, .int x2)] [0, 2] rfl ?_
      exact K_Mo_partAt_b30 n E S r4 a0 x2 x1 q_4.2 r M' hr4 h
    · rw [if_pos c_5] at h
      refine zi_iload_n 2 d_Mo_partAt_23 rfl ?_
      refine zi_iconst 1 d_Mo_partAt_24 rfl ?_
      refine zi_iadd d_Mo_partAt_25 ?_
      refine zi_goto (tgt := 30) d_Mo_partAt_26 rfl ?_
      refine zi_lo [(0, .ref a0), (2, .int x2)] [0, 2] rfl ?_
      exact K_Mo_partAt_b30 n E S r4 a0 x2 (x2 + 1) q_4.2 r M' hr4 h
theorem K_Mo_partAt_b4 (n : Nat) (E : zE) (S : zS) (a0 : Nat) (x1 : Int32) (x2 : Int32) (M : zH) (r : Int32) (M' : zH)  (h : F_Mo_partAt_b4 n E S (a0, x1, x2, M) = some (r, M')) : zG E Y_Mo_partAt (some (.int r), S, M') 4 [(0, .ref a0), (1, .int x1), (2, .int x2)] [] S M 0 0 := by
  have key : ∀ (k : Nat) (a0 : Nat) (x1 : Int32) (x2 : Int32) (M : zH), zfix (fun r4 s => F_Mo_partAt_L4 n E S r4 s.1 s.2.1 s.2.2.1 s.2.2.2) k (a0, x1, x2, M) = some (r, M') → zG E Y_Mo_partAt (some (.int r), S, M') 4 [(0, .ref a0), (1, .int x1), (2, .int x2)] [] S M 0 0 := by
    intro k
    induction k with
    | zero => intro a0 x1 x2 M h; cases h
    | succ k ih => intro a0 x1 x2 M h; exact K_Mo_partAt_L4 n E S _ a0 x1 x2 M r M'  (fun a0 x1 x2 M h => ih a0 x1 x2 M h) h
  exact key n a0 x1 x2 M h
theorem K_Mo_partAt (n : Nat) (E : zE) (S : zS) (a0 : Nat) (M : zH) (r : Int32) (M' : zH)  (h : F_Mo_partAt n E S a0 M = some (r, M')) : zG E Y_Mo_partAt (some (.int r), S, M') 0 [(0, .ref a0)] [] S M 0 0 := by
  unfold F_Mo_partAt at h
  refine zi_iconst (-1) d_Mo_partAt_0 rfl ?_
  refine zi_istore_n [(1, .int (-1)), (0, .ref a0)] d_Mo_partAt_1 (by decide) rfl ?_
  refine zi_iconst 0 d_Mo_partAt_2 rfl ?_
  refine zi_istore_n [(2, .int 0), (1, .int (-1)), (0, .ref a0)] d_Mo_partAt_3 (by decide) rfl ?_
  refine zi_lo [(0, .ref a0), (1, .int (-1)), (2, .int 0)] [2, 1, 0] rfl ?_
  exact K_Mo_partAt_b4 n E S a0 (-1) 0 M r M'  h
theorem C_Mo_partAt (n : Nat) (E : zE) (S : zS) (a0 : Nat) (M : zH) (r : Int32) (M' : zH) (h : F_Mo_partAt n E S a0 M = some (r, M')) : zC E Y_Mo_partAt [.ref a0] S M (some (.int r), S, M') :=
  zC.of (Or.inl (show plainName "NightColanderModel" = true by decide)) (Nat.le_of_ble_eq_true rfl) (trivial) (K_Mo_partAt n E S a0 M r M' h)
theorem d_Mo_readPart_0 : decode (yB Y_Mo_readPart) 0 = .ok (.aload_n 0, 1) := by decide +kernel
theorem d_Mo_readPart_1 : decode (yB Y_Mo_readPart) 1 = .ok (.bipush 91, 2) := by decide +kernel
theorem d_Mo_readPart_3 : decode (yB Y_Mo_readPart) 3 = .ok (.invokevirtual 325, 3) := by decide +kernel
theorem d_Mo_readPart_6 : decode (yB Y_Mo_readPart) 6 = .ok (.ifCond .eq 11, 3) := by decide +kernel
theorem d_Mo_readPart_9 : decode (yB Y_Mo_readPart) 9 = .ok (.aload_n 0, 1) := by decide +kernel
theorem d_Mo_readPart_10 : decode (yB Y_Mo_readPart) 10 = .ok (.bipush 32, 2) := by decide +kernel
theorem d_Mo_readPart_12 : decode (yB Y_Mo_readPart) 12 = .ok (.invokevirtual 328, 3) := by decide +kernel
theorem d_Mo_readPart_15 : decode (yB Y_Mo_readPart) 15 = .ok (.iconst 1, 1) := by decide +kernel
theorem d_Mo_readPart_16 : decode (yB Y_Mo_readPart) 16 = .ok (.ireturn, 1) := by decide +kernel
theorem d_Mo_readPart_17 : decode (yB Y_Mo_readPart) 17 = .ok (.aload_n 0, 1) := by decide +kernel
theorem d_Mo_readPart_18 : decode (yB Y_Mo_readPart) 18 = .ok (.getfield 331, 3) := by decide +kernel
theorem d_Mo_readPart_21 : decode (yB Y_Mo_readPart) 21 = .ok (.ifCond .eq 10, 3) := by decide +kernel
theorem d_Mo_readPart_24 : decode (yB Y_Mo_readPart) 24 = .ok (.aload_n 0, 1) := by decide +kernel
theorem d_Mo_readPart_25 : decode (yB Y_Mo_readPart) 25 = .ok (.invokevirtual 334, 3) := by decide +kernel
theorem d_Mo_readPart_28 : decode (yB Y_Mo_readPart) 28 = .ok (.goto 7, 3) := by decide +kernel
theorem d_Mo_readPart_31 : decode (yB Y_Mo_readPart) 31 = .ok (.aload_n 0, 1) := by decide +kernel
theorem d_Mo_readPart_32 : decode (yB Y_Mo_readPart) 32 = .ok (.invokevirtual 338, 3) := by decide +kernel
theorem d_Mo_readPart_35 : decode (yB Y_Mo_readPart) 35 = .ok (.istore_n 1, 1) := by decide +kernel
theorem d_Mo_readPart_36 : decode (yB Y_Mo_readPart) 36 = .ok (.aload_n 0, 1) := by decide +kernel
theorem d_Mo_readPart_37 : decode (yB Y_Mo_readPart) 37 = .ok (.getfield 276, 3) := by decide +kernel
theorem d_Mo_readPart_40 : decode (yB Y_Mo_readPart) 40 = .ok (.iconst 2, 1) := by decide +kernel
theorem d_Mo_readPart_41 : decode (yB Y_Mo_readPart) 41 = .ok (.if_icmp .ne 18, 3) := by decide +kernel
theorem d_Mo_readPart_44 : decode (yB Y_Mo_readPart) 44 = .ok (.aload_n 0, 1) := by decide +kernel
theorem d_Mo_readPart_45 : decode (yB Y_Mo_readPart) 45 = .ok (.getfield 266, 3) := by decide +kernel
theorem d_Mo_readPart_48 : decode (yB Y_Mo_readPart) 48 = .ok (.ldc2_w 341, 3) := by decide +kernel
theorem d_Mo_readPart_51 : decode (yB Y_Mo_readPart) 51 = .ok (.lcmp, 1) := by decide +kernel
theorem d_Mo_readPart_52 : decode (yB Y_Mo_readPart) 52 = .ok (.ifCond .gt 7, 3) := by decide +kernel
theorem d_Mo_readPart_55 : decode (yB Y_Mo_readPart) 55 = .ok (.iconst 1, 1) := by decide +kernel
theorem d_Mo_readPart_56 : decode (yB Y_Mo_readPart) 56 = .ok (.goto 4, 3) := by decide +kernel
theorem d_Mo_readPart_59 : decode (yB Y_Mo_readPart) 59 = .ok (.iconst 0, 1) := by decide +kernel
theorem d_Mo_readPart_60 : decode (yB Y_Mo_readPart) 60 = .ok (.istore_n 2, 1) := by decide +kernel
theorem d_Mo_readPart_61 : decode (yB Y_Mo_readPart) 61 = .ok (.aload_n 0, 1) := by decide +kernel
theorem d_Mo_readPart_62 : decode (yB Y_Mo_readPart) 62 = .ok (.iload_n 1, 1) := by decide +kernel
theorem d_Mo_readPart_63 : decode (yB Y_Mo_readPart) 63 = .ok (.iconst (-1), 1) := by decide +kernel
theorem d_Mo_readPart_64 : decode (yB Y_Mo_readPart) 64 = .ok (.if_icmp .ne 7, 3) := by decide +kernel
theorem d_Mo_readPart_67 : decode (yB Y_Mo_readPart) 67 = .ok (.iload_n 2, 1) := by decide +kernel
theorem d_Mo_readPart_68 : decode (yB Y_Mo_readPart) 68 = .ok (.ifCond .eq 7, 3) := by decide +kernel
theorem d_Mo_readPart_71 : decode (yB Y_Mo_readPart) 71 = .ok (.iconst 1, 1) := by decide +kernel
theorem d_Mo_readPart_72 : decode (yB Y_Mo_readPart) 72 = .ok (.goto 4, 3) := by decide +kernel
theorem d_Mo_readPart_75 : decode (yB Y_Mo_readPart) 75 = .ok (.iconst 0, 1) := by decide +kernel
theorem d_Mo_readPart_76 : decode (yB Y_Mo_readPart) 76 = .ok (.iload_n 1, 1) := by decide +kernel
theorem d_Mo_readPart_77 : decode (yB Y_Mo_readPart) 77 = .ok (.iconst (-1), 1) := by decide +kernel
theorem d_Mo_readPart_78 : decode (yB Y_Mo_readPart) 78 = .ok (.if_icmp .ne 7, 3) := by decide +kernel
theorem d_Mo_readPart_81 : decode (yB Y_Mo_readPart) 81 = .ok (.iconst 0, 1) := by decide +kernel
theorem d_Mo_readPart_82 : decode (yB Y_Mo_readPart) 82 = .ok (.goto 4, 3) := by decide +kernel
theorem d_Mo_readPart_85 : decode (yB Y_Mo_readPart) 85 = .ok (.iload_n 1, 1) := by decide +kernel
theorem d_Mo_readPart_86 : decode (yB Y_Mo_readPart) 86 = .ok (.iload_n 2, 1) := by decide +kernel
theorem d_Mo_readPart_87 : decode (yB Y_Mo_readPart) 87 = .ok (.ifCond .eq 11, 3) := by decide +kernel
theorem d_Mo_readPart_90 : decode (yB Y_Mo_readPart) 90 = .ok (.aload_n 0, 1) := by decide +kernel
theorem d_Mo_readPart_91 : decode (yB Y_Mo_readPart) 91 = .ok (.getfield 266, 3) := by decide +kernel
theorem d_Mo_readPart_94 : decode (yB Y_Mo_readPart) 94 = .ok (.l2i, 1) := by decide +kernel
theorem d_Mo_readPart_95 : decode (yB Y_Mo_readPart) 95 = .ok (.goto 4, 3) := by decide +kernel
theorem d_Mo_readPart_98 : decode (yB Y_Mo_readPart) 98 = .ok (.iconst 0, 1) := by decide +kernel
theorem d_Mo_readPart_99 : decode (yB Y_Mo_readPart) 99 = .ok (.invokevirtual 343, 3) := by decide +kernel
theorem d_Mo_readPart_102 : decode (yB Y_Mo_readPart) 102 = .ok (.aload_n 0, 1) := by decide +kernel
theorem d_Mo_readPart_103 : decode (yB Y_Mo_readPart) 103 = .ok (.getfield 331, 3) := by decide +kernel
theorem d_Mo_readPart_106 : decode (yB Y_Mo_readPart) 106 = .ok (.ifCond .eq 59, 3) := by decide +kernel
theorem d_Mo_readPart_109 : decode (yB Y_Mo_readPart) 109 = .ok (.iload_n 1, 1) := by decide +kernel
theorem d_Mo_readPart_110 : decode (yB Y_Mo_readPart) 110 = .ok (.iconst 5, 1) := by decide +kernel
theorem d_Mo_readPart_111 : decode (yB Y_Mo_readPart) 111 = .ok (.if_icmp .lt 54, 3) := by decide +kernel
theorem d_Mo_readPart_114 : decode (yB Y_Mo_readPart) 114 = .ok (.aload_n 0, 1) := by decide +kernel
theorem d_Mo_readPart_115 : decode (yB Y_Mo_readPart) 115 = .ok (.getfield 256, 3) := by decide +kernel
theorem d_Mo_readPart_118 : decode (yB Y_Mo_readPart) 118 = .ok (.ifCond .ne 47, 3) := by decide +kernel
theorem d_Mo_readPart_121 : decode (yB Y_Mo_readPart) 121 = .ok (.aload_n 0, 1) := by decide +kernel
theorem d_Mo_readPart_122 : decode (yB Y_Mo_readPart) 122 = .ok (.getfield 291, 3) := by decide +kernel
theorem d_Mo_readPart_125 : decode (yB Y_Mo_readPart) 125 = .ok (.iconst 1, 1) := by decide +kernel
theorem d_Mo_readPart_126 : decode (yB Y_Mo_readPart) 126 = .ok (.isub, 1) := by decide +kernel
theorem d_Mo_readPart_127 : decode (yB Y_Mo_readPart) 127 = .ok (.istore_n 3, 1) := by decide +kernel
theorem d_Mo_readPart_128 : decode (yB Y_Mo_readPart) 128 = .ok (.aload_n 0, 1) := by decide +kernel
theorem d_Mo_readPart_129 : decode (yB Y_Mo_readPart) 129 = .ok (.getfield 48, 3) := by decide +kernel
theorem d_Mo_readPart_132 : decode (yB Y_Mo_readPart) 132 = .ok (.iload_n 3, 1) := by decide +kernel
theorem d_Mo_readPart_133 : decode (yB Y_Mo_readPart) 133 = .ok (.aload_n 0, 1) := by decide +kernel
theorem d_Mo_readPart_134 : decode (yB Y_Mo_readPart) 134 = .ok (.lconst 0, 1) := by decide +kernel
theorem d_Mo_readPart_135 : decode (yB Y_Mo_readPart) 135 = .ok (.iload_n 1, 1) := by decide +kernel
theorem d_Mo_readPart_136 : decode (yB Y_Mo_readPart) 136 = .ok (.iconst 5, 1) := by decide +kernel
theorem d_Mo_readPart_137 : decode (yB Y_Mo_readPart) 137 = .ok (.if_icmp .ne 9, 3) := by decide +kernel
theorem d_Mo_readPart_140 : decode (yB Y_Mo_readPart) 140 = .ok (.ldc2_w 183, 3) := by decide +kernel
theorem d_Mo_readPart_143 : decode (yB Y_Mo_readPart) 143 = .ok (.goto 18, 3) := by decide +kernel
theorem d_Mo_readPart_146 : decode (yB Y_Mo_readPart) 146 = .ok (.iload_n 1, 1) := by decide +kernel
theorem d_Mo_readPart_147 : decode (yB Y_Mo_readPart) 147 = .ok (.bipush 6, 2) := by decide +kernel
theorem d_Mo_readPart_149 : decode (yB Y_Mo_readPart) 149 = .ok (.if_icmp .ne 9, 3) := by decide +kernel
theorem d_Mo_readPart_152 : decode (yB Y_Mo_readPart) 152 = .ok (.ldc2_w 347, 3) := by decide +kernel
theorem d_Mo_readPart_155 : decode (yB Y_Mo_readPart) 155 = .ok (.goto 6, 3) := by decide +kernel
theorem d_Mo_readPart_158 : decode (yB Y_Mo_readPart) 158 = .ok (.ldc2_w 185, 3) := by decide +kernel
theorem d_Mo_readPart_161 : decode (yB Y_Mo_readPart) 161 = .ok (.invokevirtual 349, 3) := by decide +kernel
theorem d_Mo_readPart_164 : decode (yB Y_Mo_readPart) 164 = .ok (.iastore, 1) := by decide +kernel
theorem d_Mo_readPart_165 : decode (yB Y_Mo_readPart) 165 = .ok (.iconst 3, 1) := by decide +kernel
theorem d_Mo_readPart_166 : decode (yB Y_Mo_readPart) 166 = .ok (.ireturn, 1) := by decide +kernel
def F_Mo_readPart_b161 (n : Nat) (E : zE) (S : zS) (t0 : Int64) (t1 : Int64) (u2 : Nat) (s3 : Int32) (u4 : Nat) (M : zH) : Option (Int32 × zH) :=
  (zck S u2 11).bind fun u_1 =>
  (F_Mo_number n E S u2 t1 t0 M).bind fun q_2 =>
  (zstI S q_2.2 u4 s3 q_2.1).bind fun m_3 =>
  some (3, m_3)
def F_Mo_readPart_b99 (n : Nat) (E : zE) (S : zS) (a0 : Nat) (x1 : Int32) (s0 : Int32) (s1 : Int32) (s2 : Int32) (u3 : Nat) (M : zH) : Option (Int32 × zH) :=
  (zck S u3 11).bind fun u_4 =>
  (F_Mo_leaf n E S u3 s2 s1 s0 M).bind fun q_5 =>
  (zgI S q_5 a0 11 20).bind fun v_6 =>
  if v_6 = 0 then
    some (3, q_5)
  else
    if x1 < 5 then
      some (3, q_5)
    else
      (zgI S q_5 a0 11 19).bind fun v_9 =>
      if v_9 = 0 then
        (zgI S q_5 a0 11 23).bind fun v_11 =>
        (zgR S a0 11 25).bind fun b_12 =>
        if x1 = 5 then
          F_Mo_readPart_b161 n E S 3 0 a0 (v_11 - 1) b_12 q_5
        else
          if x1 = 6 then
            F_Mo_readPart_b161 n E S 2 0 a0 (v_11 - 1) b_12 q_5
          else
            F_Mo_readPart_b161 n E S 7 0 a0 (v_11 - 1) b_12 q_5
      else
        some (3, q_5)
def F_Mo_readPart_b86 (n : Nat) (E : zE) (S : zS) (a0 : Nat) (x1 : Int32) (x2 : Int32) (s0 : Int32) (s1 : Int32) (u2 : Nat) (M : zH) : Option (Int32 × zH) :=
  if x2 = 0 then
    F_Mo_readPart_b99 n E S a0 x1 0 s0 s1 u2 M
  else
    (zgJ S M a0 11 17).bind fun v_16 =>
    F_Mo_readPart_b99 n E S a0 x1 v_16.toInt32 s0 s1 u2 M
def F_Mo_readPart_b76 (n : Nat) (E : zE) (S : zS) (a0 : Nat) (x1 : Int32) (x2 : Int32) (s0 : Int32) (u1 : Nat) (M : zH) : Option (Int32 × zH) :=
  if x1 = (-1) then
    F_Mo_readPart_b86 n E S a0 x1 x2 0 s0 u1 M
  else
    F_Mo_readPart_b86 n E S a0 x1 x2 x1 s0 u1 M
def F_Mo_readPart_b71 (n : Nat) (E : zE) (S : zS) (a0 : Nat) (x1 : Int32) (x2 : Int32) (u0 : Nat) (M : zH) : Option (Int32 × zH) :=
  F_Mo_readPart_b76 n E S a0 x1 x2 1 u0 M
def F_Mo_readPart_b60 (n : Nat) (E : zE) (S : zS) (a0 : Nat) (x1 : Int32) (s0 : Int32) (M : zH) : Option (Int32 × zH) :=
  if x1 = (-1) then
    if s0 = 0 then
      F_Mo_readPart_b76 n E S a0 x1 s0 0 a0 M
    else
      F_Mo_readPart_b71 n E S a0 x1 s0 a0 M
  else
    F_Mo_readPart_b71 n E S a0 x1 s0 a0 M
def F_Mo_readPart_b59 (n : Nat) (E : zE) (S : zS) (a0 : Nat) (x1 : Int32) (M : zH) : Option (Int32 × zH) :=
  F_Mo_readPart_b60 n E S a0 x1 0 M
def F_Mo_readPart_b35 (n : Nat) (E : zE) (S : zS) (a0 : Nat) (s0 : Int32) (M : zH) : Option (Int32 × zH) :=
  (zgI S M a0 11 16).bind fun v_20 =>
  if v_20 = 2 then
    (zgJ S M a0 11 17).bind fun v_22 =>
    if 1000 < v_22 then
      F_Mo_readPart_b59 n E S a0 s0 M
    else
      F_Mo_readPart_b60 n E S a0 s0 1 M
  else
    F_Mo_readPart_b59 n E S a0 s0 M
def F_Mo_readPart (n : Nat) (E : zE) (S : zS) (a0 : Nat) (M : zH) : Option (Int32 × zH) :=
  (zck S a0 11).bind fun u_24 =>
  (F_Mo_isSign n E S a0 91 M).bind fun q_25 =>
  if q_25.1 = true then
    (F_Mo_openBracket n E S a0 32 q_25.2).bind fun q_27 =>
    some (1, q_27)
  else
    (zgI S q_25.2 a0 11 20).bind fun v_28 =>
    if v_28 = 0 then
      (F_Mo_partAt n E S a0 q_25.2).bind fun q_30 =>
      F_Mo_readPart_b35 n E S a0 q_30.1 q_30.2
    else
      (F_Mo_orderPartAt n E S a0 q_25.2).bind fun q_31 =>
      F_Mo_readPart_b35 n E S a0 q_31.1 q_31.2
theorem K_Mo_readPart_b161 (n : Nat) (E : zE) (S : zS) (t0 : Int64) (t1 : Int64) (u2 : Nat) (s3 : Int32) (u4 : Nat) (M : zH) (r : Int32) (M' : zH)  (h : F_Mo_readPart_b161 n E S t0 t1 u2 s3 u4 M = some (r, M')) : zG E Y_Mo_readPart (some (.int r), S, M') 161 [] [.long t0, .long t1, .ref u2, .int s3, .ref u4] S M 0 0 := by
  unfold F_Mo_readPart_b161 at h
  obtain ⟨u_1, eu_1, h⟩ := zbind h
  obtain ⟨q_2, eq_2, h⟩ := zbind h
  refine zo_virt (k' := 0) (n' := 0) 164 [.long t1, .long t0] [.int s3, .ref u4] [.int q_2.1, .int s3, .ref u4] zkd_11 (zck_s eu_1) (C_Mo_number n E S u2 t1 t0 M q_2.1 q_2.2 eq_2) d_Mo_readPart_161 tw_1646 tw_1643 tw_1645 ts_70 tw_13 dd_Mo_number ⟨Nat.le_of_ble_eq_true rfl, Nat.le_of_ble_eq_true rfl, Nat.le_of_ble_eq_true rfl, Nat.le_of_ble_eq_true rfl⟩ (Nat.le_of_ble_eq_true rfl) rfl rfl rfl rfl ?_
  obtain ⟨m_3, em_3, h⟩ := zbind h
  refine zo_iast 165 d_Mo_readPart_164 em_3 rfl ?_
  refine zi_iconst 3 d_Mo_readPart_165 rfl ?_
  cases h
  exact zo_ret d_Mo_readPart_166 (Nat.le_of_ble_eq_true rfl) (Nat.le_of_ble_eq_true rfl) rfl
theorem K_Mo_readPart_b99 (n : Nat) (E : zE) (S : zS) (a0 : Nat) (x1 : Int32) (s0 : Int32) (s1 : Int32) (s2 : Int32) (u3 : Nat) (M : zH) (r : Int32) (M' : zH)  (h : F_Mo_readPart_b99 n E S a0 x1 s0 s1 s2 u3 M = some (r, M')) : zG E Y_Mo_readPart (some (.int r), S, M') 99 [(0, .ref a0), (1, .int x1)] [.int s0, .int s1, .int s2, .ref u3] S M 0 0 := by
  unfold F_Mo_readPart_b99 at h
  obtain ⟨u_4, eu_4, h⟩ := zbind h
  obtain ⟨q_5, eq_5, h⟩ := zbind h
  refine zo_virt (k' := 0) (n' := 0) 102 [.int s2, .int s1, .int s0] [] [] zkd_11 (zck_s eu_4) (C_Mo_leaf n E S u3 s2 s1 s0 M q_5 eq_5) d_Mo_readPart_99 tw_1637 tw_1634 tw_1636 ts_68 tw_13 dd_Mo_leaf ⟨Nat.le_of_ble_eq_true rfl, Nat.le_of_ble_eq_true rfl, Nat.le_of_ble_eq_true rfl, Nat.le_of_ble_eq_true rfl⟩ (Nat.le_of_ble_eq_true rfl) rfl rfl rfl rfl ?_
  refine zi_aload_n 0 d_Mo_readPart_102 rfl ?_
  obtain ⟨v_6, ev_6, h⟩ := zbind h
  refine zo_getI 106 zkd_11 20 d_Mo_readPart_103 ev_6 rfl tw_1249 rfl ?_
  refine zi_if_eq (tgt := 165) d_Mo_readPart_106 rfl (fun c_7 => ?_) (fun c_7 => ?_)
  · rw [if_pos c_7] at h
    refine zi_iconst 3 d_Mo_readPart_165 rfl ?_
    cases h
    exact zo_ret d_Mo_readPart_166 (Nat.le_of_ble_eq_true rfl) (Nat.le_of_ble_eq_true rfl) rfl
  · rw [if_neg c_7] at h
    refine zi_iload_n 1 d_Mo_readPart_109 rfl ?_
    refine zi_iconst 5 d_Mo_readPart_110 rfl ?_
    refine zi_icmp_lt (tgt := 165) d_Mo_readPart_111 rfl (fun c_8 => ?_) (fun c_8 => ?_)
    · rw [if_pos c_8] at h
      refine zi_iconst 3 d_Mo_readPart_165 rfl ?_
      cases h
      exact zo_ret d_Mo_readPart_166 (Nat.le_of_ble_eq_true rfl) (Nat.le_of_ble_eq_true rfl) rfl
    · rw [if_neg c_8] at h
      refine zi_aload_n 0 d_Mo_readPart_114 rfl ?_
      obtain ⟨v_9, ev_9, h⟩ := zbind h
      refine zo_getI 118 zkd_11 19 d_Mo_readPart_115 ev_9 rfl tw_1248 rfl ?_
      refine zi_if_ne (tgt := 165) d_Mo_readPart_118 rfl (fun c_10 => ?_) (fun c_10 => ?_)
      · rw [if_neg c_10] at h
        refine zi_iconst 3 d_Mo_readPart_165 rfl ?_
        cases h
        exact zo_ret d_Mo_readPart_166 (Nat.le_of_ble_eq_true rfl) (Nat.le_of_ble_eq_true rfl) rfl
      · rw [if_pos c_10] at h
        refine zi_aload_n 0 d_Mo_readPart_121 rfl ?_
        obtain ⟨v_11, ev_11, h⟩ := zbind h
        refine zo_getI 125 zkd_11 23 d_Mo_readPart_122 ev_11 rfl tw_1252 rfl ?_
        refine zi_iconst 1 d_Mo_readPart_125 rfl ?_
        refine zi_isub d_Mo_readPart_126 ?_
        refine zi_istore_n [(3, .int (v_11 - 1)), (0, .ref a0), (1, .int x1)] d_Mo_readPart_127 (by decide) rfl ?_
        refine zi_aload_n 1 d_Mo_readPart_128 rfl ?_
        obtain ⟨b_12, eb_12, h⟩ := zbind h
        refine zo_getR 132 zkd_11 25 d_Mo_readPart_129 eb_12 rfl tw_1254 rfl ?_
        refine zi_iload_n 0 d_Mo_readPart_132 rfl ?_
        refine zi_aload_n 1 d_Mo_readPart_133 rfl ?_
        refine zi_lconst 0 d_Mo_readPart_134 rfl ?_
        refine zi_iload_n 2 d_Mo_readPart_135 rfl ?_
        refine zi_iconst 5 d_Mo_readPart_136 rfl ?_
        refine zi_icmp_ne (tgt := 146) d_Mo_readPart_137 rfl (fun c_13 => ?_) (fun c_13 => ?_)
        · rw [if_neg c_13] at h
          refine zi_iload_n 2 d_Mo_readPart_146 rfl ?_
          refine zi_bipush 6 d_Mo_readPart_147 rfl ?_
          refine zi_icmp_ne (tgt := 158) d_Mo_readPart_149 rfl (fun c_14 => ?_) (fun c_14 => ?_)
          · rw [if_neg c_14] at h
            refine zi_ldc2 d_Mo_readPart_158 tw_1439 ?_
            refine zi_lo [] [] rfl ?_
            exact K_Mo_readPart_b161 n E S 7 0 a0 (v_11 - 1) b_12 q_5 r M'  h
          · rw [if_pos c_14] at h
            refine zi_ldc2 d_Mo_readPart_152 tw_1642 ?_
            refine zi_goto (tgt := 161) d_Mo_readPart_155 rfl ?_
            refine zi_lo [] [] rfl ?_
            exact K_Mo_readPart_b161 n E S 2 0 a0 (v_11 - 1) b_12 q_5 r M'  h
        · rw [if_pos c_13] at h
          refine zi_ldc2 d_Mo_readPart_140 tw_1435 ?_
          refine zi_goto (tgt := 161) d_Mo_readPart_143 rfl ?_
          refine zi_lo [] [] rfl ?_
          exact K_Mo_readPart_b161 n E S 3 0 a0 (v_11 - 1) b_12 q_5 r M'  h
theorem K_Mo_readPart_b86 (n : Nat) (E : zE) (S : zS) (a0 : Nat) (x1 : Int32) (x2 : Int32) (s0 : Int32) (s1 : Int32) (u2 : Nat) (M : zH) (r : Int32) (M' : zH)  (h : F_Mo_readPart_b86 n E S a0 x1 x2 s0 s1 u2 M = some (r, M')) : zG E Y_Mo_readPart (some (.int r), S, M') 86 [(0, .ref a0), (1, .int x1), (2, .int x2)] [.int s0, .int s1, .ref u2] S M 0 0 := by
  unfold F_Mo_readPart_b86 at h
  refine zi_iload_n 2 d_Mo_readPart_86 rfl ?_
  refine zi_if_eq (tgt := 98) d_Mo_readPart_87 rfl (fun c_15 => ?_) (fun c_15 => ?_)
  · rw [if_pos c_15] at h
    refine zi_iconst 0 d_Mo_readPart_98 rfl ?_
    refine zi_lo [(0, .ref a0), (1, .int x1)] [0, 1] rfl ?_
    exact K_Mo_readPart_b99 n E S a0 x1 0 s0 s1 u2 M r M'  h
  · rw [if_neg c_15] at h
    refine zi_aload_n 0 d_Mo_readPart_90 rfl ?_
    obtain ⟨v_16, ev_16, h⟩ := zbind h
    refine zo_getJ 94 zkd_11 17 d_Mo_readPart_91 ev_16 rfl tw_1246 rfl ?_
    refine zi_l2i d_Mo_readPart_94 ?_
    refine zi_goto (tgt := 99) d_Mo_readPart_95 rfl ?_
    refine zi_lo [(0, .ref a0), (1, .int x1)] [0, 1] rfl ?_
    exact K_Mo_readPart_b99 n E S a0 x1 v_16.toInt32 s0 s1 u2 M r M'  h
theorem K_Mo_readPart_b76 (n : Nat) (E : zE) (S : zS) (a0 : Nat) (x1 : Int32) (x2 : Int32) (s0 : Int32) (u1 : Nat) (M : zH) (r : Int32) (M' : zH)  (h : F_Mo_readPart_b76 n E S a0 x1 x2 s0 u1 M = some (r, M')) : zG E Y_Mo_readPart (some (.int r), S, M') 76 [(0, .ref a0), (1, .int x1), (2, .int x2)] [.int s0, .ref u1] S M 0 0 := by
  unfold F_Mo_readPart_b76 at h
  refine zi_iload_n 1 d_Mo_readPart_76 rfl ?_
  refine zi_iconst (-1) d_Mo_readPart_77 rfl ?_
  refine zi_icmp_ne (tgt := 85) d_Mo_readPart_78 rfl (fun c_17 => ?_) (fun c_17 => ?_)
  · rw [if_neg c_17] at h
    refine zi_iload_n 1 d_Mo_readPart_85 rfl ?_
    refine zi_lo [(0, .ref a0), (1, .int x1), (2, .int x2)] [0, 1, 2] rfl ?_
    exact K_Mo_readPart_b86 n E S a0 x1 x2 x1 s0 u1 M r M'  h
  · rw [if_pos c_17] at h
    refine zi_iconst 0 d_Mo_readPart_81 rfl ?_
    refine zi_goto (tgt := 86) d_Mo_readPart_82 rfl ?_
    refine zi_lo [(0, .ref a0), (1, .int x1), (2, .int x2)] [0, 1, 2] rfl ?_
    exact K_Mo_readPart_b86 n E S a0 x1 x2 0 s0 u1 M r M'  h
theorem K_Mo_readPart_b71 (n : Nat) (E : zE) (S : zS) (a0 : Nat) (x1 : Int32) (x2 : Int32) (u0 : Nat) (M : zH) (r : Int32) (M' : zH)  (h : F_Mo_readPart_b71 n E S a0 x1 x2 u0 M = some (r, M')) : zG E Y_Mo_readPart (some (.int r), S, M') 71 [(0, .ref a0), (1, .int x1), (2, .int x2)] [.ref u0] S M 0 0 := by
  unfold F_Mo_readPart_b71 at h
  refine zi_iconst 1 d_Mo_readPart_71 rfl ?_
  refine zi_goto (tgt := 76) d_Mo_readPart_72 rfl ?_
  refine zi_lo [(0, .ref a0), (1, .int x1), (2, .int x2)] [0, 1, 2] rfl ?_
  exact K_Mo_readPart_b76 n E S a0 x1 x2 1 u0 M r M'  h
theorem K_Mo_readPart_b60 (n : Nat) (E : zE) (S : zS) (a0 : Nat) (x1 : Int32) (s0 : Int32) (M : zH) (r : Int32) (M' : zH)  (h : F_Mo_readPart_b60 n E S a0 x1 s0 M = some (r, M')) : zG E Y_Mo_readPart (some (.int r), S, M') 60 [(0, .ref a0), (1, .int x1)] [.int s0] S M 0 0 := by
  unfold F_Mo_readPart_b60 at h
  refine zi_istore_n [(2, .int s0), (0, .ref a0), (1, .int x1)] d_Mo_readPart_60 (by decide) rfl ?_
  refine zi_aload_n 1 d_Mo_readPart_61 rfl ?_
  refine zi_iload_n 2 d_Mo_readPart_62 rfl ?_
  refine zi_iconst (-1) d_Mo_readPart_63 rfl ?_
  refine zi_icmp_ne (tgt := 71) d_Mo_readPart_64 rfl (fun c_18 => ?_) (fun c_18 => ?_)
  · rw [if_neg c_18] at h
    refine zi_lo [(0, .ref a0), (1, .int x1), (2, .int s0)] [1, 2, 0] rfl ?_
    exact K_Mo_readPart_b71 n E S a0 x1 s0 a0 M r M'  h
  · rw [if_pos c_18] at h
    refine zi_iload_n 0 d_Mo_readPart_67 rfl ?_
    refine zi_if_eq (tgt := 75) d_Mo_readPart_68 rfl (fun c_19 => ?_) (fun c_19 => ?_)
    · rw [if_pos c_19] at h
      refine zi_iconst 0 d_Mo_readPart_75 rfl ?_
      refine zi_lo [(0, .ref a0), (1, .int x1), (2, .int s0)] [1, 2, 0] rfl ?_
      exact K_Mo_readPart_b76 n E S a0 x1 s0 0 a0 M r M'  h
    · rw [if_neg c_19] at h
      refine zi_lo [(0, .ref a0), (1, .int x1), (2, .int s0)] [1, 2, 0] rfl ?_
      exact K_Mo_readPart_b71 n E S a0 x1 s0 a0 M r M'  h
theorem K_Mo_readPart_b59 (n : Nat) (E : zE) (S : zS) (a0 : Nat) (x1 : Int32) (M : zH) (r : Int32) (M' : zH)  (h : F_Mo_readPart_b59 n E S a0 x1 M = some (r, M')) : zG E Y_Mo_readPart (some (.int r), S, M') 59 [(0, .ref a0), (1, .int x1)] [] S M 0 0 := by
  unfold F_Mo_readPart_b59 at h
  refine zi_iconst 0 d_Mo_readPart_59 rfl ?_
  refine zi_lo [(0, .ref a0), (1, .int x1)] [0, 1] rfl ?_
  exact K_Mo_readPart_b60 n E S a0 x1 0 M r M'  h
theorem K_Mo_readPart_b35 (n : Nat) (E : zE) (S : zS) (a0 : Nat) (s0 : Int32) (M : zH) (r : Int32) (M' : zH)  (h : F_Mo_readPart_b35 n E S a0 s0 M = some (r, M')) : zG E Y_Mo_readPart (some (.int r), S, M') 35 [(0, .ref a0)] [.int s0] S M 0 0 := by
  unfold F_Mo_readPart_b35 at h
  refine zi_istore_n [(1, .int s0), (0, .ref a0)] d_Mo_readPart_35 (by decide) rfl ?_
  refine zi_aload_n 1 d_Mo_readPart_36 rfl ?_
  obtain ⟨v_20, ev_20, h⟩ := zbind h
  refine zo_getI 40 zkd_11 16 d_Mo_readPart_37 ev_20 rfl tw_1245 rfl ?_
  refine zi_iconst 2 d_Mo_readPart_40 rfl ?_
  refine zi_icmp_ne (tgt := 59) d_Mo_readPart_41 rfl (fun c_21 => ?_) (fun c_21 => ?_)
  · rw [if_neg c_21] at h
    refine zi_lo [(0, .ref a0), (1, .int s0)] [1, 0] rfl ?_
    exact K_Mo_readPart_b59 n E S a0 s0 M r M'  h
  · rw [if_pos c_21] at h
    refine zi_aload_n 1 d_Mo_readPart_44 rfl ?_
    obtain ⟨v_22, ev_22, h⟩ := zbind h
    refine zo_getJ 48 zkd_11 17 d_Mo_readPart_45 ev_22 rfl tw_1246 rfl ?_
    refine zi_ldc2 d_Mo_readPart_48 tw_1633 ?_
    refine zo_lc_gt d_Mo_readPart_51 d_Mo_readPart_52 rfl 55 rfl (fun c_23 => ?_) (fun c_23 => ?_)
    · rw [if_pos c_23] at h
      refine zi_lo [(0, .ref a0), (1, .int s0)] [1, 0] rfl ?_
      exact K_Mo_readPart_b59 n E S a0 s0 M r M'  h
    · rw [if_neg c_23] at h
      refine zi_iconst 1 d_Mo_readPart_55 rfl ?_
      refine zi_goto (tgt := 60) d_Mo_readPart_56 rfl ?_
      refine zi_lo [(0, .ref a0), (1, .int s0)] [1, 0] rfl ?_
      exact K_Mo_readPart_b60 n E S a0 s0 1 M r M'  h
theorem K_Mo_readPart (n : Nat) (E : zE) (S : zS) (a0 : Nat) (M : zH) (r : Int32) (M' : zH)  (h : F_Mo_readPart n E S a0 M = some (r, M')) : zG E Y_Mo_readPart (some (.int r), S, M') 0 [(0, .ref a0)] [] S M 0 0 := by
  unfold F_Mo_readPart at h
  refine zi_aload_n 0 d_Mo_readPart_0 rfl ?_
  refine zi_bipush 91 d_Mo_readPart_1 rfl ?_
  obtain ⟨u_24, eu_24, h⟩ := zbind h
  obtain ⟨q_25, eq_25, h⟩ := zbind h
  refine zo_virt (k' := 0) (n' := 0) 6 [.int 91] [] [.int (bI q_25.1)] zkd_11 (zck_s eu_24) (C_Mo_isSign n E S a0 91 M q_25.1 q_25.2 eq_25) d_Mo_readPart_3 tw_1616 tw_1613 tw_1615 ts_63 tw_13 dd_Mo_isSign ⟨Nat.le_of_ble_eq_true rfl, Nat.le_of_ble_eq_true rfl, Nat.le_of_ble_eq_true rfl, Nat.le_of_ble_eq_true rfl⟩ (Nat.le_of_ble_eq_true rfl) rfl rfl rfl rfl ?_
  refine zo_ifeqB d_Mo_readPart_6 rfl 9 rfl (fun c_26 => ?_) (fun c_26 => ?_)
  · rw [if_neg c_26] at h
    refine zi_aload_n 0 d_Mo_readPart_17 rfl ?_
    obtain ⟨v_28, ev_28, h⟩ := zbind h
    refine zo_getI 21 zkd_11 20 d_Mo_readPart_18 ev_28 rfl tw_1249 rfl ?_
    refine zi_if_eq (tgt := 31) d_Mo_readPart_21 rfl (fun c_29 => ?_) (fun c_29 => ?_)
    · rw [if_pos c_29] at h
      refine zi_aload_n 0 d_Mo_readPart_31 rfl ?_
      obtain ⟨q_30, eq_30, h⟩ := zbind h
      refine zo_virt (k' := 0) (n' := 0) 35 [] [] [.int q_30.1] zkd_11 (zck_s eu_24) (C_Mo_partAt n E S a0 q_25.2 q_30.1 q_30.2 eq_30) d_Mo_readPart_32 tw_1632 tw_1629 tw_1631 ts_67 tw_13 dd_Mo_partAt ⟨Nat.le_of_ble_eq_true rfl, Nat.le_of_ble_eq_true rfl, Nat.le_of_ble_eq_true rfl, Nat.le_of_ble_eq_true rfl⟩ (Nat.le_of_ble_eq_true rfl) rfl rfl rfl rfl ?_
      refine zi_lo [(0, .ref a0)] [0] rfl ?_
      exact K_Mo_readPart_b35 n E S a0 q_30.1 q_30.2 r M'  h
    · rw [if_neg c_29] at h
      refine zi_aload_n 0 d_Mo_readPart_24 rfl ?_
      obtain ⟨q_31, eq_31, h⟩ := zbind h
      refine zo_virt (k' := 0) (n' := 0) 28 [] [] [.int q_31.1] zkd_11 (zck_s eu_24) (C_Mo_orderPartAt n E S a0 q_25.2 q_31.1 q_31.2 eq_31) d_Mo_readPart_25 tw_1628 tw_1625 tw_1627 ts_66 tw_13 dd_Mo_orderPartAt ⟨Nat.le_of_ble_eq_true rfl, Nat.le_of_ble_eq_true rfl, Nat.le_of_ble_eq_true rfl, Nat.le_of_ble_eq_true rfl⟩ (Nat.le_of_ble_eq_true rfl) rfl rfl rfl rfl ?_
      refine zi_goto (tgt := 35) d_Mo_readPart_28 rfl ?_
      refine zi_lo [(0, .ref a0)] [0] rfl ?_
      exact K_Mo_readPart_b35 n E S a0 q_31.1 q_31.2 r M'  h
  · rw [if_pos c_26] at h
    refine zi_aload_n 0 d_Mo_readPart_9 rfl ?_
    refine zi_bipush 32 d_Mo_readPart_10 rfl ?_
    obtain ⟨q_27, eq_27, h⟩ := zbind h
    refine zo_virt (k' := 0) (n' := 0) 15 [.int 32] [] [] zkd_11 (zck_s eu_24) (C_Mo_openBracket n E S a0 32 q_25.2 q_27 eq_27) d_Mo_readPart_12 tw_1620 tw_1617 tw_1619 ts_64 tw_13 dd_Mo_openBracket ⟨Nat.le_of_ble_eq_true rfl, Nat.le_of_ble_eq_true rfl, Nat.le_of_ble_eq_true rfl, Nat.le_of_ble_eq_true rfl⟩ (Nat.le_of_ble_eq_true rfl) rfl rfl rfl rfl ?_
    refine zi_iconst 1 d_Mo_readPart_15 rfl ?_
    cases h
    exact zo_ret d_Mo_readPart_16 (Nat.le_of_ble_eq_true rfl) (Nat.le_of_ble_eq_true rfl) rfl
theorem C_Mo_readPart (n : Nat) (E : zE) (S : zS) (a0 : Nat) (M : zH) (r : Int32) (M' : zH) (h : F_Mo_readPart n E S a0 M = some (r, M')) : zC E Y_Mo_readPart [.ref a0] S M (some (.int r), S, M') :=
  zC.of (Or.inl (show plainName "NightColanderModel" = true by decide)) (Nat.le_of_ble_eq_true rfl) (trivial) (K_Mo_readPart n E S a0 M r M' h)
