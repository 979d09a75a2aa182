/-! METHODS (printed by gen/build.py): Ju_askOfBucket Ju_isBarred NC_barredAsNumber Ju_leakOf Ju_payOf Ni_hasBucket NC_of NC_wanted Ni_holeAbove Ju_threadsOn NC_flow NC_terms Ta_addFour Ta_hasRoomFor NC_feed NC_end Ta_byteAt NC_tellHole -/
theorem d_Ju_askOfBucket_0 : decode (yB Y_Ju_askOfBucket) 0 = .ok (.iload 4, 2) := by decide +kernel
theorem d_Ju_askOfBucket_2 : decode (yB Y_Ju_askOfBucket) 2 = .ok (.iconst 2, 1) := by decide +kernel
theorem d_Ju_askOfBucket_3 : decode (yB Y_Ju_askOfBucket) 3 = .ok (.if_icmp .ne 7, 3) := by decide +kernel
theorem d_Ju_askOfBucket_6 : decode (yB Y_Ju_askOfBucket) 6 = .ok (.iconst 1, 1) := by decide +kernel
theorem d_Ju_askOfBucket_7 : decode (yB Y_Ju_askOfBucket) 7 = .ok (.goto 4, 3) := by decide +kernel
theorem d_Ju_askOfBucket_10 : decode (yB Y_Ju_askOfBucket) 10 = .ok (.iconst 0, 1) := by decide +kernel
theorem d_Ju_askOfBucket_11 : decode (yB Y_Ju_askOfBucket) 11 = .ok (.istore 5, 2) := by decide +kernel
theorem d_Ju_askOfBucket_13 : decode (yB Y_Ju_askOfBucket) 13 = .ok (.aload_n 1, 1) := by decide +kernel
theorem d_Ju_askOfBucket_14 : decode (yB Y_Ju_askOfBucket) 14 = .ok (.invokevirtual 30, 3) := by decide +kernel
theorem d_Ju_askOfBucket_17 : decode (yB Y_Ju_askOfBucket) 17 = .ok (.astore 6, 2) := by decide +kernel
theorem d_Ju_askOfBucket_19 : decode (yB Y_Ju_askOfBucket) 19 = .ok (.aload 6, 2) := by decide +kernel
theorem d_Ju_askOfBucket_21 : decode (yB Y_Ju_askOfBucket) 21 = .ok (.ifnonnull 6, 3) := by decide +kernel
theorem d_Ju_askOfBucket_24 : decode (yB Y_Ju_askOfBucket) 24 = .ok (.iload 5, 2) := by decide +kernel
theorem d_Ju_askOfBucket_26 : decode (yB Y_Ju_askOfBucket) 26 = .ok (.ireturn, 1) := by decide +kernel
theorem d_Ju_askOfBucket_27 : decode (yB Y_Ju_askOfBucket) 27 = .ok (.aload_n 0, 1) := by decide +kernel
theorem d_Ju_askOfBucket_28 : decode (yB Y_Ju_askOfBucket) 28 = .ok (.getfield 18, 3) := by decide +kernel
theorem d_Ju_askOfBucket_31 : decode (yB Y_Ju_askOfBucket) 31 = .ok (.iconst 0, 1) := by decide +kernel
theorem d_Ju_askOfBucket_32 : decode (yB Y_Ju_askOfBucket) 32 = .ok (.iconst (-1), 1) := by decide +kernel
theorem d_Ju_askOfBucket_33 : decode (yB Y_Ju_askOfBucket) 33 = .ok (.iastore, 1) := by decide +kernel
theorem d_Ju_askOfBucket_34 : decode (yB Y_Ju_askOfBucket) 34 = .ok (.aload_n 0, 1) := by decide +kernel
theorem d_Ju_askOfBucket_35 : decode (yB Y_Ju_askOfBucket) 35 = .ok (.getfield 18, 3) := by decide +kernel
theorem d_Ju_askOfBucket_38 : decode (yB Y_Ju_askOfBucket) 38 = .ok (.iconst 1, 1) := by decide +kernel
theorem d_Ju_askOfBucket_39 : decode (yB Y_Ju_askOfBucket) 39 = .ok (.iconst (-1), 1) := by decide +kernel
theorem d_Ju_askOfBucket_40 : decode (yB Y_Ju_askOfBucket) 40 = .ok (.iastore, 1) := by decide +kernel
theorem d_Ju_askOfBucket_41 : decode (yB Y_Ju_askOfBucket) 41 = .ok (.aload_n 0, 1) := by decide +kernel
theorem d_Ju_askOfBucket_42 : decode (yB Y_Ju_askOfBucket) 42 = .ok (.getfield 18, 3) := by decide +kernel
theorem d_Ju_askOfBucket_45 : decode (yB Y_Ju_askOfBucket) 45 = .ok (.iconst 2, 1) := by decide +kernel
theorem d_Ju_askOfBucket_46 : decode (yB Y_Ju_askOfBucket) 46 = .ok (.iconst (-1), 1) := by decide +kernel
theorem d_Ju_askOfBucket_47 : decode (yB Y_Ju_askOfBucket) 47 = .ok (.iastore, 1) := by decide +kernel
theorem d_Ju_askOfBucket_48 : decode (yB Y_Ju_askOfBucket) 48 = .ok (.aload_n 0, 1) := by decide +kernel
theorem d_Ju_askOfBucket_49 : decode (yB Y_Ju_askOfBucket) 49 = .ok (.getfield 18, 3) := by decide +kernel
theorem d_Ju_askOfBucket_52 : decode (yB Y_Ju_askOfBucket) 52 = .ok (.iconst 3, 1) := by decide +kernel
theorem d_Ju_askOfBucket_53 : decode (yB Y_Ju_askOfBucket) 53 = .ok (.iload_n 3, 1) := by decide +kernel
theorem d_Ju_askOfBucket_54 : decode (yB Y_Ju_askOfBucket) 54 = .ok (.iastore, 1) := by decide +kernel
theorem d_Ju_askOfBucket_55 : decode (yB Y_Ju_askOfBucket) 55 = .ok (.aload_n 0, 1) := by decide +kernel
theorem d_Ju_askOfBucket_56 : decode (yB Y_Ju_askOfBucket) 56 = .ok (.getfield 18, 3) := by decide +kernel
theorem d_Ju_askOfBucket_59 : decode (yB Y_Ju_askOfBucket) 59 = .ok (.iconst 4, 1) := by decide +kernel
theorem d_Ju_askOfBucket_60 : decode (yB Y_Ju_askOfBucket) 60 = .ok (.iload_n 2, 1) := by decide +kernel
theorem d_Ju_askOfBucket_61 : decode (yB Y_Ju_askOfBucket) 61 = .ok (.iastore, 1) := by decide +kernel
theorem d_Ju_askOfBucket_62 : decode (yB Y_Ju_askOfBucket) 62 = .ok (.aload_n 0, 1) := by decide +kernel
theorem d_Ju_askOfBucket_63 : decode (yB Y_Ju_askOfBucket) 63 = .ok (.getfield 18, 3) := by decide +kernel
theorem d_Ju_askOfBucket_66 : decode (yB Y_Ju_askOfBucket) 66 = .ok (.iconst 5, 1) := by decide +kernel
theorem d_Ju_askOfBucket_67 : decode (yB Y_Ju_askOfBucket) 67 = .ok (.aload_n 1, 1) := by decide +kernel
theorem d_Ju_askOfBucket_68 : decode (yB Y_Ju_askOfBucket) 68 = .ok (.getfield 60, 3) := by decide +kernel
theorem d_Ju_askOfBucket_71 : decode (yB Y_Ju_askOfBucket) 71 = .ok (.iload_n 2, 1) := by decide +kernel
theorem d_Ju_askOfBucket_72 : decode (yB Y_Ju_askOfBucket) 72 = .ok (.iaload, 1) := by decide +kernel
theorem d_Ju_askOfBucket_73 : decode (yB Y_Ju_askOfBucket) 73 = .ok (.iastore, 1) := by decide +kernel
theorem d_Ju_askOfBucket_74 : decode (yB Y_Ju_askOfBucket) 74 = .ok (.aload_n 0, 1) := by decide +kernel
theorem d_Ju_askOfBucket_75 : decode (yB Y_Ju_askOfBucket) 75 = .ok (.aload_n 1, 1) := by decide +kernel
theorem d_Ju_askOfBucket_76 : decode (yB Y_Ju_askOfBucket) 76 = .ok (.aload 6, 2) := by decide +kernel
theorem d_Ju_askOfBucket_78 : decode (yB Y_Ju_askOfBucket) 78 = .ok (.iload 4, 2) := by decide +kernel
theorem d_Ju_askOfBucket_80 : decode (yB Y_Ju_askOfBucket) 80 = .ok (.iload 5, 2) := by decide +kernel
theorem d_Ju_askOfBucket_82 : decode (yB Y_Ju_askOfBucket) 82 = .ok (.iload 4, 2) := by decide +kernel
theorem d_Ju_askOfBucket_84 : decode (yB Y_Ju_askOfBucket) 84 = .ok (.iconst 1, 1) := by decide +kernel
theorem d_Ju_askOfBucket_85 : decode (yB Y_Ju_askOfBucket) 85 = .ok (.if_icmp .ne 8, 3) := by decide +kernel
theorem d_Ju_askOfBucket_88 : decode (yB Y_Ju_askOfBucket) 88 = .ok (.bipush 9, 2) := by decide +kernel
theorem d_Ju_askOfBucket_90 : decode (yB Y_Ju_askOfBucket) 90 = .ok (.goto 5, 3) := by decide +kernel
theorem d_Ju_askOfBucket_93 : decode (yB Y_Ju_askOfBucket) 93 = .ok (.bipush 99, 2) := by decide +kernel
theorem d_Ju_askOfBucket_95 : decode (yB Y_Ju_askOfBucket) 95 = .ok (.invokevirtual 38, 3) := by decide +kernel
theorem d_Ju_askOfBucket_98 : decode (yB Y_Ju_askOfBucket) 98 = .ok (.ireturn, 1) := by decide +kernel
def F_Ju_askOfBucket_b95 (n : Nat) (E : zE) (S : zS) (s0 : Int32) (s1 : Int32) (s2 : Int32) (w3 : Option Nat) (u4 : Nat) (u5 : Nat) (M : zH) : Option (Int32 × zH) :=
  (w3).bind fun g_1 =>
  (zck S u5 1).bind fun u_2 =>
  (F_Ju_told n E S u5 u4 g_1 s2 s1 s0 M).bind fun q_3 =>
  some (q_3.1, q_3.2)
def F_Ju_askOfBucket_b11 (n : Nat) (E : zE) (S : zS) (a0 : Nat) (a1 : Nat) (x2 : Int32) (x3 : Int32) (x4 : Int32) (s0 : Int32) (M : zH) : Option (Int32 × zH) :=
  (zck S a1 3).bind fun u_4 =>
  (F_Ni_lawInForce n E S a1 M).bind fun q_5 =>
  match q_5.1 with
  | none =>
    some (s0, q_5.2)
  | some g_7 =>
    (zgR S a0 1 1).bind fun b_8 =>
    (zstI S q_5.2 b_8 0 (-1)).bind fun m_9 =>
    (zstI S m_9 b_8 1 (-1)).bind fun m_10 =>
    (zstI S m_10 b_8 2 (-1)).bind fun m_11 =>
    (zstI S m_11 b_8 3 x3).bind fun m_12 =>
    (zstI S m_12 b_8 4 x2).bind fun m_13 =>
    (zgR S a1 3 4).bind fun b_14 =>
    (zldI S m_13 b_14 x2).bind fun v_15 =>
    (zstI S m_13 b_8 5 v_15).bind fun m_16 =>
    if x4 = 1 then
      F_Ju_askOfBucket_b95 n E S 9 s0 x4 (some g_7) a1 a0 m_16
    else
      F_Ju_askOfBucket_b95 n E S 99 s0 x4 (some g_7) a1 a0 m_16
def F_Ju_askOfBucket (n : Nat) (E : zE) (S : zS) (a0 : Nat) (a1 : Nat) (x2 : Int32) (x3 : Int32) (x4 : Int32) (M : zH) : Option (Int32 × zH) :=
  if x4 = 2 then
    F_Ju_askOfBucket_b11 n E S a0 a1 x2 x3 x4 1 M
  else
    F_Ju_askOfBucket_b11 n E S a0 a1 x2 x3 x4 0 M
theorem K_Ju_askOfBucket_b95 (n : Nat) (E : zE) (S : zS) (s0 : Int32) (s1 : Int32) (s2 : Int32) (w3 : Option Nat) (u4 : Nat) (u5 : Nat) (M : zH) (r : Int32) (M' : zH)  (h : F_Ju_askOfBucket_b95 n E S s0 s1 s2 w3 u4 u5 M = some (r, M')) : zG E Y_Ju_askOfBucket (some (.int r), S, M') 95 [] [.int s0, .int s1, .int s2, va_rf w3, .ref u4, .ref u5] S M 0 0 := by
  unfold F_Ju_askOfBucket_b95 at h
  obtain ⟨g_1, eg_1, h⟩ := zbind h
  simp only [eg_1, va_rf]
  obtain ⟨u_2, eu_2, h⟩ := zbind h
  obtain ⟨q_3, eq_3, h⟩ := zbind h
  refine zo_virt (k' := 0) (n' := 0) 98 [.ref u4, .ref g_1, .int s2, .int s1, .int s0] [] [.int q_3.1] zkd_1 (zck_s eu_2) (C_Ju_told n E S u5 u4 g_1 s2 s1 s0 M q_3.1 q_3.2 eq_3) d_Ju_askOfBucket_95 tw_422 tw_419 tw_421 ts_0 tw_8 dd_Ju_told ⟨Nat.le_of_ble_eq_true rfl, Nat.le_of_ble_eq_true rfl, Nat.le_of_ble_eq_true rfl, Nat.le_of_ble_eq_true rfl⟩ (Nat.le_of_ble_eq_true rfl) rfl rfl rfl rfl ?_
  cases h
  exact zo_ret d_Ju_askOfBucket_98 (Nat.le_of_ble_eq_true rfl) (Nat.le_of_ble_eq_true rfl) rfl
theorem K_Ju_askOfBucket_b11 (n : Nat) (E : zE) (S : zS) (a0 : Nat) (a1 : Nat) (x2 : Int32) (x3 : Int32) (x4 : Int32) (s0 : Int32) (M : zH) (r : Int32) (M' : zH)  (h : F_Ju_askOfBucket_b11 n E S a0 a1 x2 x3 x4 s0 M = some (r, M')) : zG E Y_Ju_askOfBucket (some (.int r), S, M') 11 [(0, .ref a0), (1, .ref a1), (2, .int x2), (3, .int x3), (4, .int x4)] [.int s0] S M 0 0 := by
  unfold F_Ju_askOfBucket_b11 at h
  refine zi_istore [(5, .int s0), (0, .ref a0), (1, .ref a1), (2, .int x2), (3, .int x3), (4, .int x4)] d_Ju_askOfBucket_11 (by decide) rfl ?_
  refine zi_aload_n 2 d_Ju_askOfBucket_13 rfl ?_
  obtain ⟨u_4, eu_4, h⟩ := zbind h
  obtain ⟨q_5, eq_5, h⟩ := zbind h
  refine zo_virt (k' := 0) (n' := 0) 17 [] [] [va_rf q_5.1] zkd_3 (zck_s eu_4) (C_Ni_lawInForce n E S a1 M q_5.1 q_5.2 eq_5) d_Ju_askOfBucket_14 tw_417 tw_414 tw_415 tw_416 tw_2 dd_Ni_lawInForce ⟨Nat.le_of_ble_eq_true rfl, Nat.le_of_ble_eq_true rfl, Nat.le_of_ble_eq_true rfl, Nat.le_of_ble_eq_true rfl⟩ (Nat.le_of_ble_eq_true rfl) rfl rfl rfl rfl ?_
  obtain ⟨w_6, hw_6⟩ : ∃ w, w = q_5.1 := ⟨_, rfl⟩
  rw [← hw_6] at h ⊢
  cases w_6 with
  | none =>
    dsimp only at h
    dsimp only [va_rf]
    refine zi_astoreN [(6, .null), (5, .int s0), (0, .ref a0), (1, .ref a1), (2, .int x2), (3, .int x3), (4, .int x4)] d_Ju_askOfBucket_17 (by decide) rfl ?_
    refine zi_aloadN 0 d_Ju_askOfBucket_19 rfl ?_
    refine zi_nonnullN d_Ju_askOfBucket_21 ?_
    refine zi_iload 1 d_Ju_askOfBucket_24 rfl ?_
    cases h
    exact zo_ret d_Ju_askOfBucket_26 (Nat.le_of_ble_eq_true rfl) (Nat.le_of_ble_eq_true rfl) rfl
  | some g_7 =>
    dsimp only at h
    dsimp only [va_rf]
    refine zi_astore [(6, .ref g_7), (5, .int s0), (0, .ref a0), (1, .ref a1), (2, .int x2), (3, .int x3), (4, .int x4)] d_Ju_askOfBucket_17 (by decide) rfl ?_
    refine zi_aload 0 d_Ju_askOfBucket_19 rfl ?_
    refine zi_nonnull (tgt := 27) d_Ju_askOfBucket_21 rfl ?_
    refine zi_aload_n 2 d_Ju_askOfBucket_27 rfl ?_
    obtain ⟨b_8, eb_8, h⟩ := zbind h
    refine zo_getR 31 zkd_1 1 d_Ju_askOfBucket_28 eb_8 rfl tw_246 rfl ?_
    refine zi_iconst 0 d_Ju_askOfBucket_31 rfl ?_
    refine zi_iconst (-1) d_Ju_askOfBucket_32 rfl ?_
    obtain ⟨m_9, em_9, h⟩ := zbind h
    refine zo_iast 34 d_Ju_askOfBucket_33 em_9 rfl ?_
    refine zi_aload_n 2 d_Ju_askOfBucket_34 rfl ?_
    refine zo_getR 38 zkd_1 1 d_Ju_askOfBucket_35 eb_8 rfl tw_246 rfl ?_
    refine zi_iconst 1 d_Ju_askOfBucket_38 rfl ?_
    refine zi_iconst (-1) d_Ju_askOfBucket_39 rfl ?_
    obtain ⟨m_10, em_10, h⟩ := zbind h
    refine zo_iast 41 d_Ju_askOfBucket_40 em_10 rfl ?_
    refine zi_aload_n 2 d_Ju_askOfBucket_41 rfl ?_
    refine zo_getR 45 zkd_1 1 d_Ju_askOfBucket_42 eb_8 rfl tw_246 rfl ?_
    refine zi_iconst 2 d_Ju_askOfBucket_45 rfl ?_
    refine zi_iconst (-1) d_Ju_askOfBucket_46 rfl ?_
    obtain ⟨m_11, em_11, h⟩ := zbind h
    refine zo_iast 48 d_Ju_askOfBucket_47 em_11 rfl ?_
    refine zi_aload_n 2 d_Ju_askOfBucket_48 rfl ?_
    refine zo_getR 52 zkd_1 1 d_Ju_askOfBucket_49 eb_8 rfl tw_246 rfl ?_
    refine zi_iconst 3 d_Ju_askOfBucket_52 rfl ?_
    refine zi_iload_n 5 d_Ju_askOfBucket_53 rfl ?_
    obtain ⟨m_12, em_12, h⟩ := zbind h
    refine zo_iast 55 d_Ju_askOfBucket_54 em_12 rfl ?_
    refine zi_aload_n 2 d_Ju_askOfBucket_55 rfl ?_
    refine zo_getR 59 zkd_1 1 d_Ju_askOfBucket_56 eb_8 rfl tw_246 rfl ?_
    refine zi_iconst 4 d_Ju_askOfBucket_59 rfl ?_
    refine zi_iload_n 4 d_Ju_askOfBucket_60 rfl ?_
    obtain ⟨m_13, em_13, h⟩ := zbind h
    refine zo_iast 62 d_Ju_askOfBucket_61 em_13 rfl ?_
    refine zi_aload_n 2 d_Ju_askOfBucket_62 rfl ?_
    refine zo_getR 66 zkd_1 1 d_Ju_askOfBucket_63 eb_8 rfl tw_246 rfl ?_
    refine zi_iconst 5 d_Ju_askOfBucket_66 rfl ?_
    refine zi_aload_n 3 d_Ju_askOfBucket_67 rfl ?_
    obtain ⟨b_14, eb_14, h⟩ := zbind h
    refine zo_getR 71 zkd_3 4 d_Ju_askOfBucket_68 eb_14 rfl tw_66 rfl ?_
    refine zi_iload_n 4 d_Ju_askOfBucket_71 rfl ?_
    obtain ⟨v_15, ev_15, h⟩ := zbind h
    refine zo_iald 73 d_Ju_askOfBucket_72 ev_15 rfl ?_
    obtain ⟨m_16, em_16, h⟩ := zbind h
    refine zo_iast 74 d_Ju_askOfBucket_73 em_16 rfl ?_
    refine zi_aload_n 2 d_Ju_askOfBucket_74 rfl ?_
    refine zi_aload_n 3 d_Ju_askOfBucket_75 rfl ?_
    refine zi_aload 0 d_Ju_askOfBucket_76 rfl ?_
    refine zi_iload 6 d_Ju_askOfBucket_78 rfl ?_
    refine zi_iload 1 d_Ju_askOfBucket_80 rfl ?_
    refine zi_iload 6 d_Ju_askOfBucket_82 rfl ?_
    refine zi_iconst 1 d_Ju_askOfBucket_84 rfl ?_
    refine zi_icmp_ne (tgt := 93) d_Ju_askOfBucket_85 rfl (fun c_17 => ?_) (fun c_17 => ?_)
    · rw [if_neg c_17] at h
      refine zi_bipush 99 d_Ju_askOfBucket_93 rfl ?_
      refine zi_lo [] [] rfl ?_
      exact K_Ju_askOfBucket_b95 n E S 99 s0 x4 (some g_7) a1 a0 m_16 r M'  h
    · rw [if_pos c_17] at h
      refine zi_bipush 9 d_Ju_askOfBucket_88 rfl ?_
      refine zi_goto (tgt := 95) d_Ju_askOfBucket_90 rfl ?_
      refine zi_lo [] [] rfl ?_
      exact K_Ju_askOfBucket_b95 n E S 9 s0 x4 (some g_7) a1 a0 m_16 r M'  h
theorem K_Ju_askOfBucket (n : Nat) (E : zE) (S : zS) (a0 : Nat) (a1 : Nat) (x2 : Int32) (x3 : Int32) (x4 : Int32) (M : zH) (r : Int32) (M' : zH)  (h : F_Ju_askOfBucket n E S a0 a1 x2 x3 x4 M = some (r, M')) : zG E Y_Ju_askOfBucket (some (.int r), S, M') 0 [(0, .ref a0), (1, .ref a1), (2, .int x2), (3, .int x3), (4, .int x4)] [] S M 0 0 := by
  unfold F_Ju_askOfBucket at h
  refine zi_iload 4 d_Ju_askOfBucket_0 rfl ?_
  refine zi_iconst 2 d_Ju_askOfBucket_2 rfl ?_
  refine zi_icmp_ne (tgt := 10) d_Ju_askOfBucket_3 rfl (fun c_18 => ?_) (fun c_18 => ?_)
  · rw [if_neg c_18] at h
    refine zi_iconst 0 d_Ju_askOfBucket_10 rfl ?_
    refine zi_lo [(0, .ref a0), (1, .ref a1), (2, .int x2), (3, .int x3), (4, .int x4)] [0, 1, 2, 3, 4] rfl ?_
    exact K_Ju_askOfBucket_b11 n E S a0 a1 x2 x3 x4 0 M r M'  h
  · rw [if_pos c_18] at h
    refine zi_iconst 1 d_Ju_askOfBucket_6 rfl ?_
    refine zi_goto (tgt := 11) d_Ju_askOfBucket_7 rfl ?_
    refine zi_lo [(0, .ref a0), (1, .ref a1), (2, .int x2), (3, .int x3), (4, .int x4)] [0, 1, 2, 3, 4] rfl ?_
    exact K_Ju_askOfBucket_b11 n E S a0 a1 x2 x3 x4 1 M r M'  h
theorem C_Ju_askOfBucket (n : Nat) (E : zE) (S : zS) (a0 : Nat) (a1 : Nat) (x2 : Int32) (x3 : Int32) (x4 : Int32) (M : zH) (r : Int32) (M' : zH) (h : F_Ju_askOfBucket n E S a0 a1 x2 x3 x4 M = some (r, M')) : zC E Y_Ju_askOfBucket [.ref a0, .ref a1, .int x2, .int x3, .int x4] S M (some (.int r), S, M') :=
  zC.of (Or.inl (show plainName "NightColander$Judge" = true by decide)) (Nat.le_of_ble_eq_true rfl) (trivial) (K_Ju_askOfBucket n E S a0 a1 x2 x3 x4 M r M' h)
theorem d_Ju_isBarred_0 : decode (yB Y_Ju_isBarred) 0 = .ok (.aload_n 0, 1) := by decide +kernel
theorem d_Ju_isBarred_1 : decode (yB Y_Ju_isBarred) 1 = .ok (.aload_n 1, 1) := by decide +kernel
theorem d_Ju_isBarred_2 : decode (yB Y_Ju_isBarred) 2 = .ok (.iload_n 2, 1) := by decide +kernel
theorem d_Ju_isBarred_3 : decode (yB Y_Ju_isBarred) 3 = .ok (.iload_n 3, 1) := by decide +kernel
theorem d_Ju_isBarred_4 : decode (yB Y_Ju_isBarred) 4 = .ok (.iconst 3, 1) := by decide +kernel
theorem d_Ju_isBarred_5 : decode (yB Y_Ju_isBarred) 5 = .ok (.invokevirtual 45, 3) := by decide +kernel
theorem d_Ju_isBarred_8 : decode (yB Y_Ju_isBarred) 8 = .ok (.iconst 1, 1) := by decide +kernel
theorem d_Ju_isBarred_9 : decode (yB Y_Ju_isBarred) 9 = .ok (.if_icmp .ne 7, 3) := by decide +kernel
theorem d_Ju_isBarred_12 : decode (yB Y_Ju_isBarred) 12 = .ok (.iconst 1, 1) := by decide +kernel
theorem d_Ju_isBarred_13 : decode (yB Y_Ju_isBarred) 13 = .ok (.goto 4, 3) := by decide +kernel
theorem d_Ju_isBarred_16 : decode (yB Y_Ju_isBarred) 16 = .ok (.iconst 0, 1) := by decide +kernel
theorem d_Ju_isBarred_17 : decode (yB Y_Ju_isBarred) 17 = .ok (.ireturn, 1) := by decide +kernel
def F_Ju_isBarred (n : Nat) (E : zE) (S : zS) (a0 : Nat) (a1 : Nat) (x2 : Int32) (x3 : Int32) (M : zH) : Option (Bool × zH) :=
  (zck S a0 1).bind fun u_1 =>
  (F_Ju_askOfBucket n E S a0 a1 x2 x3 3 M).bind fun q_2 =>
  if q_2.1 = 1 then
    some (true, q_2.2)
  else
    some (false, q_2.2)
theorem K_Ju_isBarred (n : Nat) (E : zE) (S : zS) (a0 : Nat) (a1 : Nat) (x2 : Int32) (x3 : Int32) (M : zH) (r : Bool) (M' : zH)  (h : F_Ju_isBarred n E S a0 a1 x2 x3 M = some (r, M')) : zG E Y_Ju_isBarred (some (.int (bI r)), S, M') 0 [(0, .ref a0), (1, .ref a1), (2, .int x2), (3, .int x3)] [] S M 0 0 := by
  unfold F_Ju_isBarred at h
  refine zi_aload_n 0 d_Ju_isBarred_0 rfl ?_
  refine zi_aload_n 1 d_Ju_isBarred_1 rfl ?_
  refine zi_iload_n 2 d_Ju_isBarred_2 rfl ?_
  refine zi_iload_n 3 d_Ju_isBarred_3 rfl ?_
  refine zi_iconst 3 d_Ju_isBarred_4 rfl ?_
  obtain ⟨u_1, eu_1, h⟩ := zbind h
  obtain ⟨q_2, eq_2, h⟩ := zbind h
  refine zo_virt (k' := 0) (n' := 0) 8 [.ref a1, .int x2, .int x3, .int 3] [] [.int q_2.1] zkd_1 (zck_s eu_1) (C_Ju_askOfBucket n E S a0 a1 x2 x3 3 M q_2.1 q_2.2 eq_2) d_Ju_isBarred_5 tw_488 tw_485 tw_487 ts_3 tw_8 dd_Ju_askOfBucket ⟨Nat.le_of_ble_eq_true rfl, Nat.le_of_ble_eq_true rfl, Nat.le_of_ble_eq_true rfl, Nat.le_of_ble_eq_true rfl⟩ (Nat.le_of_ble_eq_true rfl) rfl rfl rfl rfl ?_
  refine zi_iconst 1 d_Ju_isBarred_8 rfl ?_
  refine zi_icmp_ne (tgt := 16) d_Ju_isBarred_9 rfl (fun c_3 => ?_) (fun c_3 => ?_)
  · rw [if_neg c_3] at h
    refine zi_iconst 0 d_Ju_isBarred_16 rfl ?_
    cases h
    exact zo_retB d_Ju_isBarred_17 (Nat.le_of_ble_eq_true rfl) (Nat.le_of_ble_eq_true rfl) rfl
  · rw [if_pos c_3] at h
    refine zi_iconst 1 d_Ju_isBarred_12 rfl ?_
    refine zi_goto (tgt := 17) d_Ju_isBarred_13 rfl ?_
    cases h
    exact zo_retB d_Ju_isBarred_17 (Nat.le_of_ble_eq_true rfl) (Nat.le_of_ble_eq_true rfl) rfl
theorem C_Ju_isBarred (n : Nat) (E : zE) (S : zS) (a0 : Nat) (a1 : Nat) (x2 : Int32) (x3 : Int32) (M : zH) (r : Bool) (M' : zH) (h : F_Ju_isBarred n E S a0 a1 x2 x3 M = some (r, M')) : zC E Y_Ju_isBarred [.ref a0, .ref a1, .int x2, .int x3] S M (some (.int (bI r)), S, M') :=
  zC.of (Or.inl (show plainName "NightColander$Judge" = true by decide)) (Nat.le_of_ble_eq_true rfl) (bI_nar r) (K_Ju_isBarred n E S a0 a1 x2 x3 M r M' h)
theorem d_NC_barredAsNumber_0 : decode (yB Y_NC_barredAsNumber) 0 = .ok (.aload_n 0, 1) := by decide +kernel
theorem d_NC_barredAsNumber_1 : decode (yB Y_NC_barredAsNumber) 1 = .ok (.getfield 61, 3) := by decide +kernel
theorem d_NC_barredAsNumber_4 : decode (yB Y_NC_barredAsNumber) 4 = .ok (.aload_n 0, 1) := by decide +kernel
theorem d_NC_barredAsNumber_5 : decode (yB Y_NC_barredAsNumber) 5 = .ok (.getfield 12, 3) := by decide +kernel
theorem d_NC_barredAsNumber_8 : decode (yB Y_NC_barredAsNumber) 8 = .ok (.iload_n 1, 1) := by decide +kernel
theorem d_NC_barredAsNumber_9 : decode (yB Y_NC_barredAsNumber) 9 = .ok (.iload_n 2, 1) := by decide +kernel
theorem d_NC_barredAsNumber_10 : decode (yB Y_NC_barredAsNumber) 10 = .ok (.invokevirtual 330, 3) := by decide +kernel
theorem d_NC_barredAsNumber_13 : decode (yB Y_NC_barredAsNumber) 13 = .ok (.ifCond .eq 7, 3) := by decide +kernel
theorem d_NC_barredAsNumber_16 : decode (yB Y_NC_barredAsNumber) 16 = .ok (.iconst 1, 1) := by decide +kernel
theorem d_NC_barredAsNumber_17 : decode (yB Y_NC_barredAsNumber) 17 = .ok (.goto 4, 3) := by decide +kernel
theorem d_NC_barredAsNumber_20 : decode (yB Y_NC_barredAsNumber) 20 = .ok (.iconst 0, 1) := by decide +kernel
theorem d_NC_barredAsNumber_21 : decode (yB Y_NC_barredAsNumber) 21 = .ok (.ireturn, 1) := by decide +kernel
def F_NC_barredAsNumber (n : Nat) (E : zE) (S : zS) (a0 : Nat) (x1 : Int32) (x2 : Int32) (M : zH) : Option (Int32 × zH) :=
  (zgR S a0 10 9).bind fun b_1 =>
  (zgR S a0 10 0).bind fun b_2 =>
  (zck S b_1 1).bind fun u_3 =>
  (F_Ju_isBarred n E S b_1 b_2 x1 x2 M).bind fun q_4 =>
  if q_4.1 = true then
    some (1, q_4.2)
  else
    some (0, q_4.2)
theorem K_NC_barredAsNumber (n : Nat) (E : zE) (S : zS) (a0 : Nat) (x1 : Int32) (x2 : Int32) (M : zH) (r : Int32) (M' : zH)  (h : F_NC_barredAsNumber n E S a0 x1 x2 M = some (r, M')) : zG E Y_NC_barredAsNumber (some (.int r), S, M') 0 [(0, .ref a0), (1, .int x1), (2, .int x2)] [] S M 0 0 := by
  unfold F_NC_barredAsNumber at h
  refine zi_aload_n 0 d_NC_barredAsNumber_0 rfl ?_
  obtain ⟨b_1, eb_1, h⟩ := zbind h
  refine zo_getR 4 zkd_10 9 d_NC_barredAsNumber_1 eb_1 rfl tw_341 rfl ?_
  refine zi_aload_n 0 d_NC_barredAsNumber_4 rfl ?_
  obtain ⟨b_2, eb_2, h⟩ := zbind h
  refine zo_getR 8 zkd_10 0 d_NC_barredAsNumber_5 eb_2 rfl tw_332 rfl ?_
  refine zi_iload_n 1 d_NC_barredAsNumber_8 rfl ?_
  refine zi_iload_n 2 d_NC_barredAsNumber_9 rfl ?_
  obtain ⟨u_3, eu_3, h⟩ := zbind h
  obtain ⟨q_4, eq_4, h⟩ := zbind h
  refine zo_virt (k' := 0) (n' := 0) 13 [.ref b_2, .int x1, .int x2] [] [.int (bI q_4.1)] zkd_1 (zck_s eu_3) (C_Ju_isBarred n E S b_1 b_2 x1 x2 M q_4.1 q_4.2 eq_4) d_NC_barredAsNumber_10 tw_500 tw_497 tw_498 tw_499 tw_8 dd_Ju_isBarred ⟨Nat.le_of_ble_eq_true rfl, Nat.le_of_ble_eq_true rfl, Nat.le_of_ble_eq_true rfl, Nat.le_of_ble_eq_true rfl⟩ (Nat.le_of_ble_eq_true rfl) rfl rfl rfl rfl ?_
  refine zo_ifeqB d_NC_barredAsNumber_13 rfl 16 rfl (fun c_5 => ?_) (fun c_5 => ?_)
  · rw [if_neg c_5] at h
    refine zi_iconst 0 d_NC_barredAsNumber_20 rfl ?_
    cases h
    exact zo_ret d_NC_barredAsNumber_21 (Nat.le_of_ble_eq_true rfl) (Nat.le_of_ble_eq_true rfl) rfl
  · rw [if_pos c_5] at h
    refine zi_iconst 1 d_NC_barredAsNumber_16 rfl ?_
    refine zi_goto (tgt := 21) d_NC_barredAsNumber_17 rfl ?_
    cases h
    exact zo_ret d_NC_barredAsNumber_21 (Nat.le_of_ble_eq_true rfl) (Nat.le_of_ble_eq_true rfl) rfl
theorem C_NC_barredAsNumber (n : Nat) (E : zE) (S : zS) (a0 : Nat) (x1 : Int32) (x2 : Int32) (M : zH) (r : Int32) (M' : zH) (h : F_NC_barredAsNumber n E S a0 x1 x2 M = some (r, M')) : zC E Y_NC_barredAsNumber [.ref a0, .int x1, .int x2] S M (some (.int r), S, M') :=
  zC.of (Or.inl (show plainName "NightColander" = true by decide)) (Nat.le_of_ble_eq_true rfl) (trivial) (K_NC_barredAsNumber n E S a0 x1 x2 M r M' h)
theorem d_Ju_leakOf_0 : decode (yB Y_Ju_leakOf) 0 = .ok (.aload_n 0, 1) := by decide +kernel
theorem d_Ju_leakOf_1 : decode (yB Y_Ju_leakOf) 1 = .ok (.aload_n 1, 1) := by decide +kernel
theorem d_Ju_leakOf_2 : decode (yB Y_Ju_leakOf) 2 = .ok (.iload_n 2, 1) := by decide +kernel
theorem d_Ju_leakOf_3 : decode (yB Y_Ju_leakOf) 3 = .ok (.aload_n 1, 1) := by decide +kernel
theorem d_Ju_leakOf_4 : decode (yB Y_Ju_leakOf) 4 = .ok (.getfield 42, 3) := by decide +kernel
theorem d_Ju_leakOf_7 : decode (yB Y_Ju_leakOf) 7 = .ok (.iload_n 2, 1) := by decide +kernel
theorem d_Ju_leakOf_8 : decode (yB Y_Ju_leakOf) 8 = .ok (.iaload, 1) := by decide +kernel
theorem d_Ju_leakOf_9 : decode (yB Y_Ju_leakOf) 9 = .ok (.iconst 1, 1) := by decide +kernel
theorem d_Ju_leakOf_10 : decode (yB Y_Ju_leakOf) 10 = .ok (.invokevirtual 45, 3) := by decide +kernel
theorem d_Ju_leakOf_13 : decode (yB Y_Ju_leakOf) 13 = .ok (.ireturn, 1) := by decide +kernel
def F_Ju_leakOf (n : Nat) (E : zE) (S : zS) (a0 : Nat) (a1 : Nat) (x2 : Int32) (M : zH) : Option (Int32 × zH) :=
  (zgR S a1 3 5).bind fun b_1 =>
  (zldI S M b_1 x2).bind fun v_2 =>
  (zck S a0 1).bind fun u_3 =>
  (F_Ju_askOfBucket n E S a0 a1 x2 v_2 1 M).bind fun q_4 =>
  some (q_4.1, q_4.2)
theorem K_Ju_leakOf (n : Nat) (E : zE) (S : zS) (a0 : Nat) (a1 : Nat) (x2 : Int32) (M : zH) (r : Int32) (M' : zH)  (h : F_Ju_leakOf n E S a0 a1 x2 M = some (r, M')) : zG E Y_Ju_leakOf (some (.int r), S, M') 0 [(0, .ref a0), (1, .ref a1), (2, .int x2)] [] S M 0 0 := by
  unfold F_Ju_leakOf at h
  refine zi_aload_n 0 d_Ju_leakOf_0 rfl ?_
  refine zi_aload_n 1 d_Ju_leakOf_1 rfl ?_
  refine zi_iload_n 2 d_Ju_leakOf_2 rfl ?_
  refine zi_aload_n 1 d_Ju_leakOf_3 rfl ?_
  obtain ⟨b_1, eb_1, h⟩ := zbind h
  refine zo_getR 7 zkd_3 5 d_Ju_leakOf_4 eb_1 rfl tw_69 rfl ?_
  refine zi_iload_n 2 d_Ju_leakOf_7 rfl ?_
  obtain ⟨v_2, ev_2, h⟩ := zbind h
  refine zo_iald 9 d_Ju_leakOf_8 ev_2 rfl ?_
  refine zi_iconst 1 d_Ju_leakOf_9 rfl ?_
  obtain ⟨u_3, eu_3, h⟩ := zbind h
  obtain ⟨q_4, eq_4, h⟩ := zbind h
  refine zo_virt (k' := 0) (n' := 0) 13 [.ref a1, .int x2, .int v_2, .int 1] [] [.int q_4.1] zkd_1 (zck_s eu_3) (C_Ju_askOfBucket n E S a0 a1 x2 v_2 1 M q_4.1 q_4.2 eq_4) d_Ju_leakOf_10 tw_488 tw_485 tw_487 ts_3 tw_8 dd_Ju_askOfBucket ⟨Nat.le_of_ble_eq_true rfl, Nat.le_of_ble_eq_true rfl, Nat.le_of_ble_eq_true rfl, Nat.le_of_ble_eq_true rfl⟩ (Nat.le_of_ble_eq_true rfl) rfl rfl rfl rfl ?_
  cases h
  exact zo_ret d_Ju_leakOf_13 (Nat.le_of_ble_eq_true rfl) (Nat.le_of_ble_eq_true rfl) rfl
theorem C_Ju_leakOf (n : Nat) (E : zE) (S : zS) (a0 : Nat) (a1 : Nat) (x2 : Int32) (M : zH) (r : Int32) (M' : zH) (h : F_Ju_leakOf n E S a0 a1 x2 M = some (r, M')) : zC E Y_Ju_leakOf [.ref a0, .ref a1, .int x2] S M (some (.int r), S, M') :=
  zC.of (Or.inl (show plainName "NightColander$Judge" = true by decide)) (Nat.le_of_ble_eq_true rfl) (trivial) (K_Ju_leakOf n E S a0 a1 x2 M r M' h)
theorem d_Ju_payOf_0 : decode (yB Y_Ju_payOf) 0 = .ok (.aload_n 0, 1) := by decide +kernel
theorem d_Ju_payOf_1 : decode (yB Y_Ju_payOf) 1 = .ok (.aload_n 1, 1) := by decide +kernel
theorem d_Ju_payOf_2 : decode (yB Y_Ju_payOf) 2 = .ok (.iload_n 2, 1) := by decide +kernel
theorem d_Ju_payOf_3 : decode (yB Y_Ju_payOf) 3 = .ok (.iload_n 3, 1) := by decide +kernel
theorem d_Ju_payOf_4 : decode (yB Y_Ju_payOf) 4 = .ok (.iconst 2, 1) := by decide +kernel
theorem d_Ju_payOf_5 : decode (yB Y_Ju_payOf) 5 = .ok (.invokevirtual 45, 3) := by decide +kernel
theorem d_Ju_payOf_8 : decode (yB Y_Ju_payOf) 8 = .ok (.ireturn, 1) := by decide +kernel
def F_Ju_payOf (n : Nat) (E : zE) (S : zS) (a0 : Nat) (a1 : Nat) (x2 : Int32) (x3 : Int32) (M : zH) : Option (Int32 × zH) :=
  (zck S a0 1).bind fun u_1 =>
  (F_Ju_askOfBucket n E S a0 a1 x2 x3 2 M).bind fun q_2 =>
  some (q_2.1, q_2.2)
theorem K_Ju_payOf (n : Nat) (E : zE) (S : zS) (a0 : Nat) (a1 : Nat) (x2 : Int32) (x3 : Int32) (M : zH) (r : Int32) (M' : zH)  (h : F_Ju_payOf n E S a0 a1 x2 x3 M = some (r, M')) : zG E Y_Ju_payOf (some (.int r), S, M') 0 [(0, .ref a0), (1, .ref a1), (2, .int x2), (3, .int x3)] [] S M 0 0 := by
  unfold F_Ju_payOf at h
  refine zi_aload_n 0 d_Ju_payOf_0 rfl ?_
  refine zi_aload_n 1 d_Ju_payOf_1 rfl ?_
  refine zi_iload_n 2 d_Ju_payOf_2 rfl ?_
  refine zi_iload_n 3 d_Ju_payOf_3 rfl ?_
  refine zi_iconst 2 d_Ju_payOf_4 rfl ?_
  obtain ⟨u_1, eu_1, h⟩ := zbind h
  obtain ⟨q_2, eq_2, h⟩ := zbind h
  refine zo_virt (k' := 0) (n' := 0) 8 [.ref a1, .int x2, .int x3, .int 2] [] [.int q_2.1] zkd_1 (zck_s eu_1) (C_Ju_askOfBucket n E S a0 a1 x2 x3 2 M q_2.1 q_2.2 eq_2) d_Ju_payOf_5 tw_488 tw_485 tw_487 ts_3 tw_8 dd_Ju_askOfBucket ⟨Nat.le_of_ble_eq_true rfl, Nat.le_of_ble_eq_true rfl, Nat.le_of_ble_eq_true rfl, Nat.le_of_ble_eq_true rfl⟩ (Nat.le_of_ble_eq_true rfl) rfl rfl rfl rfl ?_
  cases h
  exact zo_ret d_Ju_payOf_8 (Nat.le_of_ble_eq_true rfl) (Nat.le_of_ble_eq_true rfl) rfl
theorem C_Ju_payOf (n : Nat) (E : zE) (S : zS) (a0 : Nat) (a1 : Nat) (x2 : Int32) (x3 : Int32) (M : zH) (r : Int32) (M' : zH) (h : F_Ju_payOf n E S a0 a1 x2 x3 M = some (r, M')) : zC E Y_Ju_payOf [.ref a0, .ref a1, .int x2, .int x3] S M (some (.int r), S, M') :=
  zC.of (Or.inl (show plainName "NightColander$Judge" = true by decide)) (Nat.le_of_ble_eq_true rfl) (trivial) (K_Ju_payOf n E S a0 a1 x2 x3 M r M' h)
theorem d_Ni_hasBucket_0 : decode (yB Y_Ni_hasBucket) 0 = .ok (.iload_n 1, 1) := by decide +kernel
theorem d_Ni_hasBucket_1 : decode (yB Y_Ni_hasBucket) 1 = .ok (.iconst 0, 1) := by decide +kernel
theorem d_Ni_hasBucket_2 : decode (yB Y_Ni_hasBucket) 2 = .ok (.aload_n 0, 1) := by decide +kernel
theorem d_Ni_hasBucket_3 : decode (yB Y_Ni_hasBucket) 3 = .ok (.getfield 49, 3) := by decide +kernel
theorem d_Ni_hasBucket_6 : decode (yB Y_Ni_hasBucket) 6 = .ok (.iconst 1, 1) := by decide +kernel
theorem d_Ni_hasBucket_7 : decode (yB Y_Ni_hasBucket) 7 = .ok (.isub, 1) := by decide +kernel
theorem d_Ni_hasBucket_8 : decode (yB Y_Ni_hasBucket) 8 = .ok (.invokestatic 74, 3) := by decide +kernel
theorem d_Ni_hasBucket_11 : decode (yB Y_Ni_hasBucket) 11 = .ok (.ireturn, 1) := by decide +kernel
def F_Ni_hasBucket (n : Nat) (E : zE) (S : zS) (a0 : Nat) (x1 : Int32) (M : zH) : Option (Bool × zH) :=
  (zgI S M a0 3 11).bind fun v_1 =>
  (F_NC_within n E S x1 0 (v_1 - 1) M).bind fun q_2 =>
  some (q_2.1, q_2.2)
theorem K_Ni_hasBucket (n : Nat) (E : zE) (S : zS) (a0 : Nat) (x1 : Int32) (M : zH) (r : Bool) (M' : zH)  (h : F_Ni_hasBucket n E S a0 x1 M = some (r, M')) : zG E Y_Ni_hasBucket (some (.int (bI r)), S, M') 0 [(0, .ref a0), (1, .int x1)] [] S M 0 0 := by
  unfold F_Ni_hasBucket at h
  refine zi_iload_n 1 d_Ni_hasBucket_0 rfl ?_
  refine zi_iconst 0 d_Ni_hasBucket_1 rfl ?_
  refine zi_aload_n 0 d_Ni_hasBucket_2 rfl ?_
  obtain ⟨v_1, ev_1, h⟩ := zbind h
  refine zo_getI 6 zkd_3 11 d_Ni_hasBucket_3 ev_1 rfl tw_86 rfl ?_
  refine zi_iconst 1 d_Ni_hasBucket_6 rfl ?_
  refine zi_isub d_Ni_hasBucket_7 ?_
  obtain ⟨q_2, eq_2, h⟩ := zbind h
  refine zo_statN (k' := 0) (n' := 0) 11 [.int x1, .int 0, .int (v_1 - 1)] [] [.int (bI q_2.1)] (C_NC_within n E S x1 0 (v_1 - 1) M q_2.1 q_2.2 eq_2) d_Ni_hasBucket_8 tw_399 (List.mem_of_getElem? (i := 5) rfl) tw_398 tw_1 dd_NC_within ⟨Nat.le_of_ble_eq_true rfl, Nat.le_of_ble_eq_true rfl, Nat.le_of_ble_eq_true rfl, Nat.le_of_ble_eq_true rfl⟩ (Nat.le_of_ble_eq_true rfl) rfl rfl rfl rfl ?_
  cases h
  exact zo_retB d_Ni_hasBucket_11 (Nat.le_of_ble_eq_true rfl) (Nat.le_of_ble_eq_true rfl) rfl
theorem C_Ni_hasBucket (n : Nat) (E : zE) (S : zS) (a0 : Nat) (x1 : Int32) (M : zH) (r : Bool) (M' : zH) (h : F_Ni_hasBucket n E S a0 x1 M = some (r, M')) : zC E Y_Ni_hasBucket [.ref a0, .int x1] S M (some (.int (bI r)), S, M') :=
  zC.of (Or.inl (show plainName "NightColander$Night" = true by decide)) (Nat.le_of_ble_eq_true rfl) (bI_nar r) (K_Ni_hasBucket n E S a0 x1 M r M' h)
theorem d_NC_of_0 : decode (yB Y_NC_of) 0 = .ok (.aload_n 0, 1) := by decide +kernel
theorem d_NC_of_1 : decode (yB Y_NC_of) 1 = .ok (.getfield 12, 3) := by decide +kernel
theorem d_NC_of_4 : decode (yB Y_NC_of) 4 = .ok (.iload_n 1, 1) := by decide +kernel
theorem d_NC_of_5 : decode (yB Y_NC_of) 5 = .ok (.invokevirtual 161, 3) := by decide +kernel
theorem d_NC_of_8 : decode (yB Y_NC_of) 8 = .ok (.ifCond .ne 5, 3) := by decide +kernel
theorem d_NC_of_11 : decode (yB Y_NC_of) 11 = .ok (.iconst (-1), 1) := by decide +kernel
theorem d_NC_of_12 : decode (yB Y_NC_of) 12 = .ok (.ireturn, 1) := by decide +kernel
theorem d_NC_of_13 : decode (yB Y_NC_of) 13 = .ok (.iload_n 2, 1) := by decide +kernel
theorem d_NC_of_14 : decode (yB Y_NC_of) 14 = .ok (.tableswitch 99 0 4 #[34, 44, 54, 64, 77], 34) := by decide +kernel
theorem d_NC_of_48 : decode (yB Y_NC_of) 48 = .ok (.aload_n 0, 1) := by decide +kernel
theorem d_NC_of_49 : decode (yB Y_NC_of) 49 = .ok (.getfield 12, 3) := by decide +kernel
theorem d_NC_of_52 : decode (yB Y_NC_of) 52 = .ok (.getfield 164, 3) := by decide +kernel
theorem d_NC_of_55 : decode (yB Y_NC_of) 55 = .ok (.iload_n 1, 1) := by decide +kernel
theorem d_NC_of_56 : decode (yB Y_NC_of) 56 = .ok (.iaload, 1) := by decide +kernel
theorem d_NC_of_57 : decode (yB Y_NC_of) 57 = .ok (.ireturn, 1) := by decide +kernel
theorem d_NC_of_58 : decode (yB Y_NC_of) 58 = .ok (.aload_n 0, 1) := by decide +kernel
theorem d_NC_of_59 : decode (yB Y_NC_of) 59 = .ok (.getfield 12, 3) := by decide +kernel
theorem d_NC_of_62 : decode (yB Y_NC_of) 62 = .ok (.getfield 167, 3) := by decide +kernel
theorem d_NC_of_65 : decode (yB Y_NC_of) 65 = .ok (.iload_n 1, 1) := by decide +kernel
theorem d_NC_of_66 : decode (yB Y_NC_of) 66 = .ok (.iaload, 1) := by decide +kernel
theorem d_NC_of_67 : decode (yB Y_NC_of) 67 = .ok (.ireturn, 1) := by decide +kernel
theorem d_NC_of_68 : decode (yB Y_NC_of) 68 = .ok (.aload_n 0, 1) := by decide +kernel
theorem d_NC_of_69 : decode (yB Y_NC_of) 69 = .ok (.getfield 12, 3) := by decide +kernel
theorem d_NC_of_72 : decode (yB Y_NC_of) 72 = .ok (.getfield 170, 3) := by decide +kernel
theorem d_NC_of_75 : decode (yB Y_NC_of) 75 = .ok (.iload_n 1, 1) := by decide +kernel
theorem d_NC_of_76 : decode (yB Y_NC_of) 76 = .ok (.iaload, 1) := by decide +kernel
theorem d_NC_of_77 : decode (yB Y_NC_of) 77 = .ok (.ireturn, 1) := by decide +kernel
theorem d_NC_of_78 : decode (yB Y_NC_of) 78 = .ok (.aload_n 0, 1) := by decide +kernel
theorem d_NC_of_79 : decode (yB Y_NC_of) 79 = .ok (.getfield 61, 3) := by decide +kernel
theorem d_NC_of_82 : decode (yB Y_NC_of) 82 = .ok (.aload_n 0, 1) := by decide +kernel
theorem d_NC_of_83 : decode (yB Y_NC_of) 83 = .ok (.getfield 12, 3) := by decide +kernel
theorem d_NC_of_86 : decode (yB Y_NC_of) 86 = .ok (.iload_n 1, 1) := by decide +kernel
theorem d_NC_of_87 : decode (yB Y_NC_of) 87 = .ok (.invokevirtual 173, 3) := by decide +kernel
theorem d_NC_of_90 : decode (yB Y_NC_of) 90 = .ok (.ireturn, 1) := by decide +kernel
theorem d_NC_of_91 : decode (yB Y_NC_of) 91 = .ok (.aload_n 0, 1) := by decide +kernel
theorem d_NC_of_92 : decode (yB Y_NC_of) 92 = .ok (.getfield 61, 3) := by decide +kernel
theorem d_NC_of_95 : decode (yB Y_NC_of) 95 = .ok (.aload_n 0, 1) := by decide +kernel
theorem d_NC_of_96 : decode (yB Y_NC_of) 96 = .ok (.getfield 12, 3) := by decide +kernel
theorem d_NC_of_99 : decode (yB Y_NC_of) 99 = .ok (.iload_n 1, 1) := by decide +kernel
theorem d_NC_of_100 : decode (yB Y_NC_of) 100 = .ok (.aload_n 0, 1) := by decide +kernel
theorem d_NC_of_101 : decode (yB Y_NC_of) 101 = .ok (.getfield 12, 3) := by decide +kernel
theorem d_NC_of_104 : decode (yB Y_NC_of) 104 = .ok (.getfield 170, 3) := by decide +kernel
theorem d_NC_of_107 : decode (yB Y_NC_of) 107 = .ok (.iload_n 1, 1) := by decide +kernel
theorem d_NC_of_108 : decode (yB Y_NC_of) 108 = .ok (.iaload, 1) := by decide +kernel
theorem d_NC_of_109 : decode (yB Y_NC_of) 109 = .ok (.invokevirtual 177, 3) := by decide +kernel
theorem d_NC_of_112 : decode (yB Y_NC_of) 112 = .ok (.ireturn, 1) := by decide +kernel
theorem d_NC_of_113 : decode (yB Y_NC_of) 113 = .ok (.iload_n 2, 1) := by decide +kernel
theorem d_NC_of_114 : decode (yB Y_NC_of) 114 = .ok (.iconst 5, 1) := by decide +kernel
theorem d_NC_of_115 : decode (yB Y_NC_of) 115 = .ok (.bipush 12, 2) := by decide +kernel
theorem d_NC_of_117 : decode (yB Y_NC_of) 117 = .ok (.invokestatic 132, 3) := by decide +kernel
theorem d_NC_of_120 : decode (yB Y_NC_of) 120 = .ok (.ifCond .eq 14, 3) := by decide +kernel
theorem d_NC_of_123 : decode (yB Y_NC_of) 123 = .ok (.aload_n 0, 1) := by decide +kernel
theorem d_NC_of_124 : decode (yB Y_NC_of) 124 = .ok (.iload_n 1, 1) := by decide +kernel
theorem d_NC_of_125 : decode (yB Y_NC_of) 125 = .ok (.iload_n 2, 1) := by decide +kernel
theorem d_NC_of_126 : decode (yB Y_NC_of) 126 = .ok (.iconst 5, 1) := by decide +kernel
theorem d_NC_of_127 : decode (yB Y_NC_of) 127 = .ok (.isub, 1) := by decide +kernel
theorem d_NC_of_128 : decode (yB Y_NC_of) 128 = .ok (.invokevirtual 180, 3) := by decide +kernel
theorem d_NC_of_131 : decode (yB Y_NC_of) 131 = .ok (.goto 4, 3) := by decide +kernel
theorem d_NC_of_134 : decode (yB Y_NC_of) 134 = .ok (.iconst (-1), 1) := by decide +kernel
theorem d_NC_of_135 : decode (yB Y_NC_of) 135 = .ok (.ireturn, 1) := by decide +kernel
def F_NC_of (n : Nat) (E : zE) (S : zS) (a0 : Nat) (x1 : Int32) (x2 : Int32) (M : zH) : Option (Int32 × zH) :=
  (zgR S a0 10 0).bind fun b_1 =>
  (zck S b_1 3).bind fun u_2 =>
  (F_Ni_hasBucket n E S b_1 x1 M).bind fun q_3 =>
  if q_3.1 = true then
    if x2 = 0 then
      (zgR S b_1 3 3).bind fun b_6 =>
      (zldI S q_3.2 b_6 x1).bind fun v_7 =>
      some (v_7, q_3.2)
    else
    if x2 = 1 then
      (zgR S b_1 3 4).bind fun b_9 =>
      (zldI S q_3.2 b_9 x1).bind fun v_10 =>
      some (v_10, q_3.2)
    else
    if x2 = 2 then
      (zgR S b_1 3 5).bind fun b_12 =>
      (zldI S q_3.2 b_12 x1).bind fun v_13 =>
      some (v_13, q_3.2)
    else
    if x2 = 3 then
      (zgR S a0 10 9).bind fun b_15 =>
      (zck S b_15 1).bind fun u_16 =>
      (F_Ju_leakOf n E S b_15 b_1 x1 q_3.2).bind fun q_17 =>
      some (q_17.1, q_17.2)
    else
    if x2 = 4 then
      (zgR S a0 10 9).bind fun b_19 =>
      (zgR S b_1 3 5).bind fun b_20 =>
      (zldI S q_3.2 b_20 x1).bind fun v_21 =>
      (zck S b_19 1).bind fun u_22 =>
      (F_Ju_payOf n E S b_19 b_1 x1 v_21 q_3.2).bind fun q_23 =>
      some (q_23.1, q_23.2)
    else
      (F_NC_within n E S x2 5 12 q_3.2).bind fun q_24 =>
      if q_24.1 = true then
        (F_NC_barredAsNumber n E S a0 x1 (x2 - 5) q_24.2).bind fun q_26 =>
        some (q_26.1, q_26.2)
      else
        some ((-1), q_24.2)
  else
    some ((-1), q_3.2)
theorem K_NC_of (n : Nat) (E : zE) (S : zS) (a0 : Nat) (x1 : Int32) (x2 : Int32) (M : zH) (r : Int32) (M' : zH)  (h : F_NC_of n E S a0 x1 x2 M = some (r, M')) : zG E Y_NC_of (some (.int r), S, M') 0 [(0, .ref a0), (1, .int x1), (2, .int x2)] [] S M 0 0 := by
  unfold F_NC_of at h
  refine zi_aload_n 0 d_NC_of_0 rfl ?_
  obtain ⟨b_1, eb_1, h⟩ := zbind h
  refine zo_getR 4 zkd_10 0 d_NC_of_1 eb_1 rfl tw_332 rfl ?_
  refine zi_iload_n 1 d_NC_of_4 rfl ?_
  obtain ⟨u_2, eu_2, h⟩ := zbind h
  obtain ⟨q_3, eq_3, h⟩ := zbind h
  refine zo_virt (k' := 0) (n' := 0) 8 [.int x1] [] [.int (bI q_3.1)] zkd_3 (zck_s eu_2) (C_Ni_hasBucket n E S b_1 x1 M q_3.1 q_3.2 eq_3) d_NC_of_5 tw_479 tw_476 tw_477 tw_478 tw_2 dd_Ni_hasBucket ⟨Nat.le_of_ble_eq_true rfl, Nat.le_of_ble_eq_true rfl, Nat.le_of_ble_eq_true rfl, Nat.le_of_ble_eq_true rfl⟩ (Nat.le_of_ble_eq_true rfl) rfl rfl rfl rfl ?_
  refine zo_ifneB d_NC_of_8 rfl 11 rfl (fun c_4 => ?_) (fun c_4 => ?_)
  · rw [if_pos c_4] at h
    refine zi_iload_n 2 d_NC_of_13 rfl ?_
    by_cases c_5 : x2 = 0
    · rw [if_pos c_5] at h
      refine zo_tab (tgt := 48) 0 d_NC_of_14 c_5 (by decide) (by decide) rfl rfl ?_
      refine zi_aload_n 0 d_NC_of_48 rfl ?_
      refine zo_getR 52 zkd_10 0 d_NC_of_49 eb_1 rfl tw_332 rfl ?_
      obtain ⟨b_6, eb_6, h⟩ := zbind h
      refine zo_getR 55 zkd_3 3 d_NC_of_52 eb_6 rfl tw_57 rfl ?_
      refine zi_iload_n 1 d_NC_of_55 rfl ?_
      obtain ⟨v_7, ev_7, h⟩ := zbind h
      refine zo_iald 57 d_NC_of_56 ev_7 rfl ?_
      cases h
      exact zo_ret d_NC_of_57 (Nat.le_of_ble_eq_true rfl) (Nat.le_of_ble_eq_true rfl) rfl
    rw [if_neg c_5] at h
    by_cases c_8 : x2 = 1
    · rw [if_pos c_8] at h
      refine zo_tab (tgt := 58) 1 d_NC_of_14 c_8 (by decide) (by decide) rfl rfl ?_
      refine zi_aload_n 0 d_NC_of_58 rfl ?_
      refine zo_getR 62 zkd_10 0 d_NC_of_59 eb_1 rfl tw_332 rfl ?_
      obtain ⟨b_9, eb_9, h⟩ := zbind h
      refine zo_getR 65 zkd_3 4 d_NC_of_62 eb_9 rfl tw_63 rfl ?_
      refine zi_iload_n 1 d_NC_of_65 rfl ?_
      obtain ⟨v_10, ev_10, h⟩ := zbind h
      refine zo_iald 67 d_NC_of_66 ev_10 rfl ?_
      cases h
      exact zo_ret d_NC_of_67 (Nat.le_of_ble_eq_true rfl) (Nat.le_of_ble_eq_true rfl) rfl
    rw [if_neg c_8] at h
    by_cases c_11 : x2 = 2
    · rw [if_pos c_11] at h
      refine zo_tab (tgt := 68) 2 d_NC_of_14 c_11 (by decide) (by decide) rfl rfl ?_
      refine zi_aload_n 0 d_NC_of_68 rfl ?_
      refine zo_getR 72 zkd_10 0 d_NC_of_69 eb_1 rfl tw_332 rfl ?_
      obtain ⟨b_12, eb_12, h⟩ := zbind h
      refine zo_getR 75 zkd_3 5 d_NC_of_72 eb_12 rfl tw_70 rfl ?_
      refine zi_iload_n 1 d_NC_of_75 rfl ?_
      obtain ⟨v_13, ev_13, h⟩ := zbind h
      refine zo_iald 77 d_NC_of_76 ev_13 rfl ?_
      cases h
      exact zo_ret d_NC_of_77 (Nat.le_of_ble_eq_true rfl) (Nat.le_of_ble_eq_true rfl) rfl
    rw [if_neg c_11] at h
    by_cases c_14 : x2 = 3
    · rw [if_pos c_14] at h
      refine zo_tab (tgt := 78) 3 d_NC_of_14 c_14 (by decide) (by decide) rfl rfl ?_
      refine zi_aload_n 0 d_NC_of_78 rfl ?_
      obtain ⟨b_15, eb_15, h⟩ := zbind h
      refine zo_getR 82 zkd_10 9 d_NC_of_79 eb_15 rfl tw_341 rfl ?_
      refine zi_aload_n 0 d_NC_of_82 rfl ?_
      refine zo_getR 86 zkd_10 0 d_NC_of_83 eb_1 rfl tw_332 rfl ?_
      refine zi_iload_n 1 d_NC_of_86 rfl ?_
      obtain ⟨u_16, eu_16, h⟩ := zbind h
      obtain ⟨q_17, eq_17, h⟩ := zbind h
      refine zo_virt (k' := 0) (n' := 0) 90 [.ref b_1, .int x1] [] [.int q_17.1] zkd_1 (zck_s eu_16) (C_Ju_leakOf n E S b_15 b_1 x1 q_3.2 q_17.1 q_17.2 eq_17) d_NC_of_87 tw_484 tw_481 tw_482 tw_483 tw_8 dd_Ju_leakOf ⟨Nat.le_of_ble_eq_true rfl, Nat.le_of_ble_eq_true rfl, Nat.le_of_ble_eq_true rfl, Nat.le_of_ble_eq_true rfl⟩ (Nat.le_of_ble_eq_true rfl) rfl rfl rfl rfl ?_
      cases h
      exact zo_ret d_NC_of_90 (Nat.le_of_ble_eq_true rfl) (Nat.le_of_ble_eq_true rfl) rfl
    rw [if_neg c_14] at h
    by_cases c_18 : x2 = 4
    · rw [if_pos c_18] at h
      refine zo_tab (tgt := 91) 4 d_NC_of_14 c_18 (by decide) (by decide) rfl rfl ?_
      refine zi_aload_n 0 d_NC_of_91 rfl ?_
      obtain ⟨b_19, eb_19, h⟩ := zbind h
      refine zo_getR 95 zkd_10 9 d_NC_of_92 eb_19 rfl tw_341 rfl ?_
      refine zi_aload_n 0 d_NC_of_95 rfl ?_
      refine zo_getR 99 zkd_10 0 d_NC_of_96 eb_1 rfl tw_332 rfl ?_
      refine zi_iload_n 1 d_NC_of_99 rfl ?_
      refine zi_aload_n 0 d_NC_of_100 rfl ?_
      refine zo_getR 104 zkd_10 0 d_NC_of_101 eb_1 rfl tw_332 rfl ?_
      obtain ⟨b_20, eb_20, h⟩ := zbind h
      refine zo_getR 107 zkd_3 5 d_NC_of_104 eb_20 rfl tw_70 rfl ?_
      refine zi_iload_n 1 d_NC_of_107 rfl ?_
      obtain ⟨v_21, ev_21, h⟩ := zbind h
      refine zo_iald 109 d_NC_of_108 ev_21 rfl ?_
      obtain ⟨u_22, eu_22, h⟩ := zbind h
      obtain ⟨q_23, eq_23, h⟩ := zbind h
      refine zo_virt (k' := 0) (n' := 0) 112 [.ref b_1, .int x1, .int v_21] [] [.int q_23.1] zkd_1 (zck_s eu_22) (C_Ju_payOf n E S b_19 b_1 x1 v_21 q_3.2 q_23.1 q_23.2 eq_23) d_NC_of_109 tw_492 tw_489 tw_490 tw_491 tw_8 dd_Ju_payOf ⟨Nat.le_of_ble_eq_true rfl, Nat.le_of_ble_eq_true rfl, Nat.le_of_ble_eq_true rfl, Nat.le_of_ble_eq_true rfl⟩ (Nat.le_of_ble_eq_true rfl) rfl rfl rfl rfl ?_
      cases h
      exact zo_ret d_NC_of_112 (Nat.le_of_ble_eq_true rfl) (Nat.le_of_ble_eq_true rfl) rfl
    rw [if_neg c_18] at h
    refine zo_tabP (tgt := 113) 0 5 d_NC_of_14 rfl rfl (fun j hj => by match j, hj with | 0, _ => exact c_5  | 1, _ => exact c_8  | 2, _ => exact c_11  | 3, _ => exact c_14  | 4, _ => exact c_18 | j + 5, hj => exact absurd hj (by omega)) rfl ?_
    refine zi_iload_n 2 d_NC_of_113 rfl ?_
    refine zi_iconst 5 d_NC_of_114 rfl ?_
    refine zi_bipush 12 d_NC_of_115 rfl ?_
    obtain ⟨q_24, eq_24, h⟩ := zbind h
    refine zo_stat (k' := 0) (n' := 0) 120 [.int x2, .int 5, .int 12] [] [.int (bI q_24.1)] (C_NC_within n E S x2 5 12 q_3.2 q_24.1 q_24.2 eq_24) d_NC_of_117 tw_399 tw_397 tw_398 tw_1 dd_NC_within ⟨Nat.le_of_ble_eq_true rfl, Nat.le_of_ble_eq_true rfl, Nat.le_of_ble_eq_true rfl, Nat.le_of_ble_eq_true rfl⟩ (Nat.le_of_ble_eq_true rfl) rfl rfl rfl rfl ?_
    refine zo_ifeqB d_NC_of_120 rfl 123 rfl (fun c_25 => ?_) (fun c_25 => ?_)
    · rw [if_neg c_25] at h
      refine zi_iconst (-1) d_NC_of_134 rfl ?_
      cases h
      exact zo_ret d_NC_of_135 (Nat.le_of_ble_eq_true rfl) (Nat.le_of_ble_eq_true rfl) rfl
    · rw [if_pos c_25] at h
      refine zi_aload_n 0 d_NC_of_123 rfl ?_
      refine zi_iload_n 1 d_NC_of_124 rfl ?_
      refine zi_iload_n 2 d_NC_of_125 rfl ?_
      refine zi_iconst 5 d_NC_of_126 rfl ?_
      refine zi_isub d_NC_of_127 ?_
      obtain ⟨q_26, eq_26, h⟩ := zbind h
      refine zo_virt (k' := 0) (n' := 0) 131 [.int x1, .int (x2 - 5)] [] [.int q_26.1] zkd_10 (zgR_s eb_1).1 (C_NC_barredAsNumber n E S a0 x1 (x2 - 5) q_24.2 q_26.1 q_26.2 eq_26) d_NC_of_128 tw_496 tw_493 tw_495 ts_4 tw_1 dd_NC_barredAsNumber ⟨Nat.le_of_ble_eq_true rfl, Nat.le_of_ble_eq_true rfl, Nat.le_of_ble_eq_true rfl, Nat.le_of_ble_eq_true rfl⟩ (Nat.le_of_ble_eq_true rfl) rfl rfl rfl rfl ?_
      refine zi_goto (tgt := 135) d_NC_of_131 rfl ?_
      cases h
      exact zo_ret d_NC_of_135 (Nat.le_of_ble_eq_true rfl) (Nat.le_of_ble_eq_true rfl) rfl
  · rw [if_neg c_4] at h
    refine zi_iconst (-1) d_NC_of_11 rfl ?_
    cases h
    exact zo_ret d_NC_of_12 (Nat.le_of_ble_eq_true rfl) (Nat.le_of_ble_eq_true rfl) rfl
theorem C_NC_of (n : Nat) (E : zE) (S : zS) (a0 : Nat) (x1 : Int32) (x2 : Int32) (M : zH) (r : Int32) (M' : zH) (h : F_NC_of n E S a0 x1 x2 M = some (r, M')) : zC E Y_NC_of [.ref a0, .int x1, .int x2] S M (some (.int r), S, M') :=
  zC.of (Or.inl (show plainName "NightColander" = true by decide)) (Nat.le_of_ble_eq_true rfl) (trivial) (K_NC_of n E S a0 x1 x2 M r M' h)
theorem d_NC_wanted_0 : decode (yB Y_NC_wanted) 0 = .ok (.iload_n 1, 1) := by decide +kernel
theorem d_NC_wanted_1 : decode (yB Y_NC_wanted) 1 = .ok (.invokestatic 149, 3) := by decide +kernel
theorem d_NC_wanted_4 : decode (yB Y_NC_wanted) 4 = .ok (.ifCond .eq 14, 3) := by decide +kernel
theorem d_NC_wanted_7 : decode (yB Y_NC_wanted) 7 = .ok (.iload_n 2, 1) := by decide +kernel
theorem d_NC_wanted_8 : decode (yB Y_NC_wanted) 8 = .ok (.iconst (-1), 1) := by decide +kernel
theorem d_NC_wanted_9 : decode (yB Y_NC_wanted) 9 = .ok (.sipush 400, 3) := by decide +kernel
theorem d_NC_wanted_12 : decode (yB Y_NC_wanted) 12 = .ok (.invokestatic 132, 3) := by decide +kernel
theorem d_NC_wanted_15 : decode (yB Y_NC_wanted) 15 = .ok (.ifCond .ne 9, 3) := by decide +kernel
theorem d_NC_wanted_18 : decode (yB Y_NC_wanted) 18 = .ok (.aload_n 0, 1) := by decide +kernel
theorem d_NC_wanted_19 : decode (yB Y_NC_wanted) 19 = .ok (.iconst (-1), 1) := by decide +kernel
theorem d_NC_wanted_20 : decode (yB Y_NC_wanted) 20 = .ok (.invokevirtual 136, 3) := by decide +kernel
theorem d_NC_wanted_23 : decode (yB Y_NC_wanted) 23 = .ok (.ireturn, 1) := by decide +kernel
theorem d_NC_wanted_24 : decode (yB Y_NC_wanted) 24 = .ok (.aload_n 0, 1) := by decide +kernel
theorem d_NC_wanted_25 : decode (yB Y_NC_wanted) 25 = .ok (.getfield 12, 3) := by decide +kernel
theorem d_NC_wanted_28 : decode (yB Y_NC_wanted) 28 = .ok (.getfield 183, 3) := by decide +kernel
theorem d_NC_wanted_31 : decode (yB Y_NC_wanted) 31 = .ok (.iload_n 1, 1) := by decide +kernel
theorem d_NC_wanted_32 : decode (yB Y_NC_wanted) 32 = .ok (.iaload, 1) := by decide +kernel
theorem d_NC_wanted_33 : decode (yB Y_NC_wanted) 33 = .ok (.istore_n 3, 1) := by decide +kernel
theorem d_NC_wanted_34 : decode (yB Y_NC_wanted) 34 = .ok (.aload_n 0, 1) := by decide +kernel
theorem d_NC_wanted_35 : decode (yB Y_NC_wanted) 35 = .ok (.getfield 12, 3) := by decide +kernel
theorem d_NC_wanted_38 : decode (yB Y_NC_wanted) 38 = .ok (.getfield 183, 3) := by decide +kernel
theorem d_NC_wanted_41 : decode (yB Y_NC_wanted) 41 = .ok (.iload_n 1, 1) := by decide +kernel
theorem d_NC_wanted_42 : decode (yB Y_NC_wanted) 42 = .ok (.iload_n 2, 1) := by decide +kernel
theorem d_NC_wanted_43 : decode (yB Y_NC_wanted) 43 = .ok (.iastore, 1) := by decide +kernel
theorem d_NC_wanted_44 : decode (yB Y_NC_wanted) 44 = .ok (.aload_n 0, 1) := by decide +kernel
theorem d_NC_wanted_45 : decode (yB Y_NC_wanted) 45 = .ok (.iload_n 3, 1) := by decide +kernel
theorem d_NC_wanted_46 : decode (yB Y_NC_wanted) 46 = .ok (.invokevirtual 146, 3) := by decide +kernel
theorem d_NC_wanted_49 : decode (yB Y_NC_wanted) 49 = .ok (.ireturn, 1) := by decide +kernel
def F_NC_wanted_b18 (n : Nat) (E : zE) (S : zS) (a0 : Nat) (M : zH) : Option (Int32 × zH) :=
  (zck S a0 10).bind fun u_1 =>
  (F_NC_refuse n E S a0 (-1) M).bind fun q_2 =>
  some (q_2.1, q_2.2)
def F_NC_wanted (n : Nat) (E : zE) (S : zS) (a0 : Nat) (x1 : Int32) (x2 : Int32) (M : zH) : Option (Int32 × zH) :=
  (F_NC_isField n E S x1 M).bind fun q_3 =>
  if q_3.1 = true then
    (F_NC_within n E S x2 (-1) 400 q_3.2).bind fun q_5 =>
    if q_5.1 = true then
      (zgR S a0 10 0).bind fun b_7 =>
      (zgR S b_7 3 6).bind fun b_8 =>
      (zldI S q_5.2 b_8 x1).bind fun v_9 =>
      (zstI S q_5.2 b_8 x1 x2).bind fun m_10 =>
      (F_NC_accept n E S a0 v_9 m_10).bind fun q_11 =>
      some (q_11.1, q_11.2)
    else
      F_NC_wanted_b18 n E S a0 q_5.2
  else
    F_NC_wanted_b18 n E S a0 q_3.2
theorem K_NC_wanted_b18 (n : Nat) (E : zE) (S : zS) (a0 : Nat) (M : zH) (r : Int32) (M' : zH)  (h : F_NC_wanted_b18 n E S a0 M = some (r, M')) : zG E Y_NC_wanted (some (.int r), S, M') 18 [(0, .ref a0)] [] S M 0 0 := by
  unfold F_NC_wanted_b18 at h
  refine zi_aload_n 0 d_NC_wanted_18 rfl ?_
  refine zi_iconst (-1) d_NC_wanted_19 rfl ?_
  obtain ⟨u_1, eu_1, h⟩ := zbind h
  obtain ⟨q_2, eq_2, h⟩ := zbind h
  refine zo_virt (k' := 0) (n' := 0) 23 [.int (-1)] [] [.int q_2.1] zkd_10 (zck_s eu_1) (C_NC_refuse n E S a0 (-1) M q_2.1 q_2.2 eq_2) d_NC_wanted_20 tw_448 tw_445 tw_447 ts_1 tw_1 dd_NC_refuse ⟨Nat.le_of_ble_eq_true rfl, Nat.le_of_ble_eq_true rfl, Nat.le_of_ble_eq_true rfl, Nat.le_of_ble_eq_true rfl⟩ (Nat.le_of_ble_eq_true rfl) rfl rfl rfl rfl ?_
  cases h
  exact zo_ret d_NC_wanted_23 (Nat.le_of_ble_eq_true rfl) (Nat.le_of_ble_eq_true rfl) rfl
theorem K_NC_wanted (n : Nat) (E : zE) (S : zS) (a0 : Nat) (x1 : Int32) (x2 : Int32) (M : zH) (r : Int32) (M' : zH)  (h : F_NC_wanted n E S a0 x1 x2 M = some (r, M')) : zG E Y_NC_wanted (some (.int r), S, M') 0 [(0, .ref a0), (1, .int x1), (2, .int x2)] [] S M 0 0 := by
  unfold F_NC_wanted at h
  refine zi_iload_n 1 d_NC_wanted_0 rfl ?_
  obtain ⟨q_3, eq_3, h⟩ := zbind h
  refine zo_stat (k' := 0) (n' := 0) 4 [.int x1] [] [.int (bI q_3.1)] (C_NC_isField n E S x1 M q_3.1 q_3.2 eq_3) d_NC_wanted_1 tw_463 tw_461 tw_462 tw_1 dd_NC_isField ⟨Nat.le_of_ble_eq_true rfl, Nat.le_of_ble_eq_true rfl, Nat.le_of_ble_eq_true rfl, Nat.le_of_ble_eq_true rfl⟩ (Nat.le_of_ble_eq_true rfl) rfl rfl rfl rfl ?_
  refine zo_ifeqB d_NC_wanted_4 rfl 7 rfl (fun c_4 => ?_) (fun c_4 => ?_)
  · rw [if_neg c_4] at h
    refine zi_lo [(0, .ref a0)] [0] rfl ?_
    exact K_NC_wanted_b18 n E S a0 q_3.2 r M'  h
  · rw [if_pos c_4] at h
    refine zi_iload_n 2 d_NC_wanted_7 rfl ?_
    refine zi_iconst (-1) d_NC_wanted_8 rfl ?_
    refine zi_sipush 400 d_NC_wanted_9 rfl ?_
    obtain ⟨q_5, eq_5, h⟩ := zbind h
    refine zo_stat (k' := 0) (n' := 0) 15 [.int x2, .int (-1), .int 400] [] [.int (bI q_5.1)] (C_NC_within n E S x2 (-1) 400 q_3.2 q_5.1 q_5.2 eq_5) d_NC_wanted_12 tw_399 tw_397 tw_398 tw_1 dd_NC_within ⟨Nat.le_of_ble_eq_true rfl, Nat.le_of_ble_eq_true rfl, Nat.le_of_ble_eq_true rfl, Nat.le_of_ble_eq_true rfl⟩ (Nat.le_of_ble_eq_true rfl) rfl rfl rfl rfl ?_
    refine zo_ifneB d_NC_wanted_15 rfl 18 rfl (fun c_6 => ?_) (fun c_6 => ?_)
    · rw [if_pos c_6] at h
      refine zi_aload_n 0 d_NC_wanted_24 rfl ?_
      obtain ⟨b_7, eb_7, h⟩ := zbind h
      refine zo_getR 28 zkd_10 0 d_NC_wanted_25 eb_7 rfl tw_332 rfl ?_
      obtain ⟨b_8, eb_8, h⟩ := zbind h
      refine zo_getR 31 zkd_3 6 d_NC_wanted_28 eb_8 rfl tw_74 rfl ?_
      refine zi_iload_n 1 d_NC_wanted_31 rfl ?_
      obtain ⟨v_9, ev_9, h⟩ := zbind h
      refine zo_iald 33 d_NC_wanted_32 ev_9 rfl ?_
      refine zi_istore_n [(3, .int v_9), (0, .ref a0), (1, .int x1), (2, .int x2)] d_NC_wanted_33 (by decide) rfl ?_
      refine zi_aload_n 1 d_NC_wanted_34 rfl ?_
      refine zo_getR 38 zkd_10 0 d_NC_wanted_35 eb_7 rfl tw_332 rfl ?_
      refine zo_getR 41 zkd_3 6 d_NC_wanted_38 eb_8 rfl tw_74 rfl ?_
      refine zi_iload_n 2 d_NC_wanted_41 rfl ?_
      refine zi_iload_n 3 d_NC_wanted_42 rfl ?_
      obtain ⟨m_10, em_10, h⟩ := zbind h
      refine zo_iast 44 d_NC_wanted_43 em_10 rfl ?_
      refine zi_aload_n 1 d_NC_wanted_44 rfl ?_
      refine zi_iload_n 0 d_NC_wanted_45 rfl ?_
      obtain ⟨q_11, eq_11, h⟩ := zbind h
      refine zo_virt (k' := 0) (n' := 0) 49 [.int v_9] [] [.int q_11.1] zkd_10 (zgR_s eb_7).1 (C_NC_accept n E S a0 v_9 m_10 q_11.1 q_11.2 eq_11) d_NC_wanted_46 tw_456 tw_453 tw_455 ts_2 tw_1 dd_NC_accept ⟨Nat.le_of_ble_eq_true rfl, Nat.le_of_ble_eq_true rfl, Nat.le_of_ble_eq_true rfl, Nat.le_of_ble_eq_true rfl⟩ (Nat.le_of_ble_eq_true rfl) rfl rfl rfl rfl ?_
      cases h
      exact zo_ret d_NC_wanted_49 (Nat.le_of_ble_eq_true rfl) (Nat.le_of_ble_eq_true rfl) rfl
    · rw [if_neg c_6] at h
      refine zi_lo [(0, .ref a0)] [0] rfl ?_
      exact K_NC_wanted_b18 n E S a0 q_5.2 r M'  h
theorem C_NC_wanted (n : Nat) (E : zE) (S : zS) (a0 : Nat) (x1 : Int32) (x2 : Int32) (M : zH) (r : Int32) (M' : zH) (h : F_NC_wanted n E S a0 x1 x2 M = some (r, M')) : zC E Y_NC_wanted [.ref a0, .int x1, .int x2] S M (some (.int r), S, M') :=
  zC.of (Or.inl (show plainName "NightColander" = true by decide)) (Nat.le_of_ble_eq_true rfl) (trivial) (K_NC_wanted n E S a0 x1 x2 M r M' h)
theorem d_Ni_holeAbove_0 : decode (yB Y_Ni_holeAbove) 0 = .ok (.iload_n 2, 1) := by decide +kernel
theorem d_Ni_holeAbove_1 : decode (yB Y_Ni_holeAbove) 1 = .ok (.aload_n 0, 1) := by decide +kernel
theorem d_Ni_holeAbove_2 : decode (yB Y_Ni_holeAbove) 2 = .ok (.getfield 19, 3) := by decide +kernel
theorem d_Ni_holeAbove_5 : decode (yB Y_Ni_holeAbove) 5 = .ok (.iload_n 1, 1) := by decide +kernel
theorem d_Ni_holeAbove_6 : decode (yB Y_Ni_holeAbove) 6 = .ok (.iaload, 1) := by decide +kernel
theorem d_Ni_holeAbove_7 : decode (yB Y_Ni_holeAbove) 7 = .ok (.isub, 1) := by decide +kernel
theorem d_Ni_holeAbove_8 : decode (yB Y_Ni_holeAbove) 8 = .ok (.bipush 8, 2) := by decide +kernel
theorem d_Ni_holeAbove_10 : decode (yB Y_Ni_holeAbove) 10 = .ok (.invokestatic 78, 3) := by decide +kernel
theorem d_Ni_holeAbove_13 : decode (yB Y_Ni_holeAbove) 13 = .ok (.ireturn, 1) := by decide +kernel
def F_Ni_holeAbove (n : Nat) (E : zE) (S : zS) (a0 : Nat) (x1 : Int32) (x2 : Int32) (M : zH) : Option (Int32 × zH) :=
  (zgR S a0 3 2).bind fun b_1 =>
  (zldI S M b_1 x1).bind fun v_2 =>
  (F_Jm_floorMod n E S (x2 - v_2) 8 M).bind fun q_3 =>
  some (q_3.1, q_3.2)
theorem K_Ni_holeAbove (n : Nat) (E : zE) (S : zS) (a0 : Nat) (x1 : Int32) (x2 : Int32) (M : zH) (r : Int32) (M' : zH)  (h : F_Ni_holeAbove n E S a0 x1 x2 M = some (r, M')) : zG E Y_Ni_holeAbove (some (.int r), S, M') 0 [(0, .ref a0), (1, .int x1), (2, .int x2)] [] S M 0 0 := by
  unfold F_Ni_holeAbove at h
  refine zi_iload_n 2 d_Ni_holeAbove_0 rfl ?_
  refine zi_aload_n 0 d_Ni_holeAbove_1 rfl ?_
  obtain ⟨b_1, eb_1, h⟩ := zbind h
  refine zo_getR 5 zkd_3 2 d_Ni_holeAbove_2 eb_1 rfl tw_52 rfl ?_
  refine zi_iload_n 1 d_Ni_holeAbove_5 rfl ?_
  obtain ⟨v_2, ev_2, h⟩ := zbind h
  refine zo_iald 7 d_Ni_holeAbove_6 ev_2 rfl ?_
  refine zi_isub d_Ni_holeAbove_7 ?_
  refine zi_bipush 8 d_Ni_holeAbove_8 rfl ?_
  obtain ⟨q_3, eq_3, h⟩ := zbind h
  refine zo_stat (k' := 0) (n' := 0) 13 [.int (x2 - v_2), .int 8] [] [.int q_3.1] (C_Jm_floorMod n E S (x2 - v_2) 8 M q_3.1 q_3.2 eq_3) d_Ni_holeAbove_10 tw_409 tw_407 tw_408 tw_14 dd_Jm_floorMod ⟨Nat.le_of_ble_eq_true rfl, Nat.le_of_ble_eq_true rfl, Nat.le_of_ble_eq_true rfl, Nat.le_of_ble_eq_true rfl⟩ (Nat.le_of_ble_eq_true rfl) rfl rfl rfl rfl ?_
  cases h
  exact zo_ret d_Ni_holeAbove_13 (Nat.le_of_ble_eq_true rfl) (Nat.le_of_ble_eq_true rfl) rfl
theorem C_Ni_holeAbove (n : Nat) (E : zE) (S : zS) (a0 : Nat) (x1 : Int32) (x2 : Int32) (M : zH) (r : Int32) (M' : zH) (h : F_Ni_holeAbove n E S a0 x1 x2 M = some (r, M')) : zC E Y_Ni_holeAbove [.ref a0, .int x1, .int x2] S M (some (.int r), S, M') :=
  zC.of (Or.inl (show plainName "NightColander$Night" = true by decide)) (Nat.le_of_ble_eq_true rfl) (trivial) (K_Ni_holeAbove n E S a0 x1 x2 M r M' h)
theorem d_Ju_threadsOn_0 : decode (yB Y_Ju_threadsOn) 0 = .ok (.iconst 0, 1) := by decide +kernel
theorem d_Ju_threadsOn_1 : decode (yB Y_Ju_threadsOn) 1 = .ok (.istore_n 3, 1) := by decide +kernel
theorem d_Ju_threadsOn_2 : decode (yB Y_Ju_threadsOn) 2 = .ok (.iconst 0, 1) := by decide +kernel
theorem d_Ju_threadsOn_3 : decode (yB Y_Ju_threadsOn) 3 = .ok (.istore 4, 2) := by decide +kernel
theorem d_Ju_threadsOn_5 : decode (yB Y_Ju_threadsOn) 5 = .ok (.iload 4, 2) := by decide +kernel
theorem d_Ju_threadsOn_7 : decode (yB Y_Ju_threadsOn) 7 = .ok (.iconst 4, 1) := by decide +kernel
theorem d_Ju_threadsOn_8 : decode (yB Y_Ju_threadsOn) 8 = .ok (.if_icmp .ge 50, 3) := by decide +kernel
theorem d_Ju_threadsOn_11 : decode (yB Y_Ju_threadsOn) 11 = .ok (.aload_n 1, 1) := by decide +kernel
theorem d_Ju_threadsOn_12 : decode (yB Y_Ju_threadsOn) 12 = .ok (.iload 4, 2) := by decide +kernel
theorem d_Ju_threadsOn_14 : decode (yB Y_Ju_threadsOn) 14 = .ok (.iload_n 2, 1) := by decide +kernel
theorem d_Ju_threadsOn_15 : decode (yB Y_Ju_threadsOn) 15 = .ok (.invokevirtual 49, 3) := by decide +kernel
theorem d_Ju_threadsOn_18 : decode (yB Y_Ju_threadsOn) 18 = .ok (.istore 5, 2) := by decide +kernel
theorem d_Ju_threadsOn_20 : decode (yB Y_Ju_threadsOn) 20 = .ok (.iload_n 3, 1) := by decide +kernel
theorem d_Ju_threadsOn_21 : decode (yB Y_Ju_threadsOn) 21 = .ok (.aload_n 1, 1) := by decide +kernel
theorem d_Ju_threadsOn_22 : decode (yB Y_Ju_threadsOn) 22 = .ok (.getfield 52, 3) := by decide +kernel
theorem d_Ju_threadsOn_25 : decode (yB Y_Ju_threadsOn) 25 = .ok (.iload 4, 2) := by decide +kernel
theorem d_Ju_threadsOn_27 : decode (yB Y_Ju_threadsOn) 27 = .ok (.bipush 8, 2) := by decide +kernel
theorem d_Ju_threadsOn_29 : decode (yB Y_Ju_threadsOn) 29 = .ok (.imul, 1) := by decide +kernel
theorem d_Ju_threadsOn_30 : decode (yB Y_Ju_threadsOn) 30 = .ok (.iload 5, 2) := by decide +kernel
theorem d_Ju_threadsOn_32 : decode (yB Y_Ju_threadsOn) 32 = .ok (.iadd, 1) := by decide +kernel
theorem d_Ju_threadsOn_33 : decode (yB Y_Ju_threadsOn) 33 = .ok (.baload, 1) := by decide +kernel
theorem d_Ju_threadsOn_34 : decode (yB Y_Ju_threadsOn) 34 = .ok (.ifCond .eq 7, 3) := by decide +kernel
theorem d_Ju_threadsOn_37 : decode (yB Y_Ju_threadsOn) 37 = .ok (.iconst 0, 1) := by decide +kernel
theorem d_Ju_threadsOn_38 : decode (yB Y_Ju_threadsOn) 38 = .ok (.goto 12, 3) := by decide +kernel
theorem d_Ju_threadsOn_41 : decode (yB Y_Ju_threadsOn) 41 = .ok (.aload_n 0, 1) := by decide +kernel
theorem d_Ju_threadsOn_42 : decode (yB Y_Ju_threadsOn) 42 = .ok (.aload_n 1, 1) := by decide +kernel
theorem d_Ju_threadsOn_43 : decode (yB Y_Ju_threadsOn) 43 = .ok (.iload 4, 2) := by decide +kernel
theorem d_Ju_threadsOn_45 : decode (yB Y_Ju_threadsOn) 45 = .ok (.iload 5, 2) := by decide +kernel
theorem d_Ju_threadsOn_47 : decode (yB Y_Ju_threadsOn) 47 = .ok (.invokevirtual 56, 3) := by decide +kernel
theorem d_Ju_threadsOn_50 : decode (yB Y_Ju_threadsOn) 50 = .ok (.iadd, 1) := by decide +kernel
theorem d_Ju_threadsOn_51 : decode (yB Y_Ju_threadsOn) 51 = .ok (.istore_n 3, 1) := by decide +kernel
theorem d_Ju_threadsOn_52 : decode (yB Y_Ju_threadsOn) 52 = .ok (.iinc 4 1, 3) := by decide +kernel
theorem d_Ju_threadsOn_55 : decode (yB Y_Ju_threadsOn) 55 = .ok (.goto (-50), 3) := by decide +kernel
theorem d_Ju_threadsOn_58 : decode (yB Y_Ju_threadsOn) 58 = .ok (.iload_n 3, 1) := by decide +kernel
theorem d_Ju_threadsOn_59 : decode (yB Y_Ju_threadsOn) 59 = .ok (.ireturn, 1) := by decide +kernel
def F_Ju_threadsOn_b50 (n : Nat) (E : zE) (S : zS) (r5 : Nat × Nat × Int32 × Int32 × Int32 × zH → Option (Int32 × zH)) (a0 : Nat) (a1 : Nat) (x2 : Int32) (x4 : Int32) (s0 : Int32) (s1 : Int32) (M : zH) : Option (Int32 × zH) :=
  r5 (a0, a1, x2, s1 + s0, x4 + 1, M)
def F_Ju_threadsOn_L5 (n : Nat) (E : zE) (S : zS) (r5 : Nat × Nat × Int32 × Int32 × Int32 × zH → Option (Int32 × zH)) (a0 : Nat) (a1 : Nat) (x2 : Int32) (x3 : Int32) (x4 : Int32) (M : zH) : Option (Int32 × zH) :=
  if 4 ≤ x4 then
    some (x3, M)
  else
    (zck S a1 3).bind fun u_2 =>
    (F_Ni_holeAbove n E S a1 x4 x2 M).bind fun q_3 =>
    (zgR S a1 3 1).bind fun b_4 =>
    (zldZ S q_3.2 b_4 ((x4 * 8) + q_3.1)).bind fun v_5 =>
    if v_5 = 0 then
      (zck S a0 1).bind fun u_7 =>
      (F_Ju_runsOf n E S a0 a1 x4 q_3.1 q_3.2).bind fun q_8 =>
      F_Ju_threadsOn_b50 n E S r5 a0 a1 x2 x4 q_8.1 x3 q_8.2
    else
      F_Ju_threadsOn_b50 n E S r5 a0 a1 x2 x4 0 x3 q_3.2
def F_Ju_threadsOn_b5 (n : Nat) (E : zE) (S : zS) : Nat × Nat × Int32 × Int32 × Int32 × zH → Option (Int32 × zH) := zfix (fun r5 s => F_Ju_threadsOn_L5 n E S r5 s.1 s.2.1 s.2.2.1 s.2.2.2.1 s.2.2.2.2.1 s.2.2.2.2.2) n
def F_Ju_threadsOn (n : Nat) (E : zE) (S : zS) (a0 : Nat) (a1 : Nat) (x2 : Int32) (M : zH) : Option (Int32 × zH) :=
  F_Ju_threadsOn_b5 n E S (a0, a1, x2, 0, 0, M)
theorem K_Ju_threadsOn_b50 (n : Nat) (E : zE) (S : zS) (r5 : Nat × Nat × Int32 × Int32 × Int32 × zH → Option (Int32 × zH)) (a0 : Nat) (a1 : Nat) (x2 : Int32) (x4 : Int32) (s0 : Int32) (s1 : Int32) (M : zH) (r : Int32) (M' : zH) (hr5 : ∀ (a0 : Nat) (a1 : Nat) (x2 : Int32) (x3 : Int32) (x4 : Int32) (M : zH), r5 (a0, a1, x2, x3, x4, M) = some (r, M') → zG E Y_Ju_threadsOn (some (.int r), S, M') 5 [(0, .ref a0), (1, .ref a1), (2, .int x2), (3, .int x3), (4, .int x4)] [] S M 0 0) (h : F_Ju_threadsOn_b50 n E S r5 a0 a1 x2 x4 s0 s1 M = some (r, M')) : zG E Y_Ju_threadsOn (some (.int r), S, M') 50 [(0, .ref a0), (1, .ref a1), (2, .int x2), (4, .int x4)] [.int s0, .int s1] S M 0 0 := by
  unfold F_Ju_threadsOn_b50 at h
  refine zi_iadd d_Ju_threadsOn_50 ?_
  refine zi_istore_n [(3, .int (s1 + s0)), (0, .ref a0), (1, .ref a1), (2, .int x2), (4, .int x4)] d_Ju_threadsOn_51 (by decide) rfl ?_
  refine zi_iinc 4 (x4 + 1) [(4, .int (x4 + 1)), (3, .int (s1 + s0)), (0, .ref a0), (1, .ref a1), (2, .int x2)] d_Ju_threadsOn_52 rfl rfl (by decide) rfl ?_
  refine zi_goto (tgt := 5) d_Ju_threadsOn_55 rfl ?_
  refine zi_lo [(0, .ref a0), (1, .ref a1), (2, .int x2), (3, .int (s1 + s0)), (4, .int (x4 + 1))] [2, 3, 4, 1, 0] rfl ?_
  exact hr5 a0 a1 x2 (s1 + s0) (x4 + 1) M h
theorem K_Ju_threadsOn_L5 (n : Nat) (E : zE) (S : zS) (r5 : Nat × Nat × Int32 × Int32 × Int32 × zH → Option (Int32 × zH)) (a0 : Nat) (a1 : Nat) (x2 : Int32) (x3 : Int32) (x4 : Int32) (M : zH) (r : Int32) (M' : zH) (hr5 : ∀ (a0 : Nat) (a1 : Nat) (x2 : Int32) (x3 : Int32) (x4 : Int32) (M : zH), r5 (a0, a1, x2, x3, x4, M) = some (r, M') → zG E Y_Ju_threadsOn (some (.int r), S, M') 5 [(0, .ref a0), (1, .ref a1), (2, .int x2), (3, .int x3), (4, .int x4)] [] S M 0 0) (h : F_Ju_threadsOn_L5 n E S r5 a0 a1 x2 x3 x4 M = some (r, M')) : zG E Y_Ju_threadsOn (some (.int r), S, M') 5 [(0, .ref a0), (1, .ref a1), (2, .int x2), (3, .int x3), (4, .int x4)] [] S M 0 0 := by
  unfold F_Ju_threadsOn_L5 at h
  refine zi_iload 4 d_Ju_threadsOn_5 rfl ?_
  refine zi_iconst 4 d_Ju_threadsOn_7 rfl ?_
  refine zi_icmp_ge (tgt := 58) d_Ju_threadsOn_8 rfl (fun c_1 => ?_) (fun c_1 => ?_)
  · rw [if_pos c_1] at h
    refine zi_iload_n 3 d_Ju_threadsOn_58 rfl ?_
    cases h
    exact zo_ret d_Ju_threadsOn_59 (Nat.le_of_ble_eq_true rfl) (Nat.le_of_ble_eq_true rfl) rfl
  · rw [if_neg c_1] at h
    refine zi_aload_n 1 d_Ju_threadsOn_11 rfl ?_
    refine zi_iload 4 d_Ju_threadsOn_12 rfl ?_
    refine zi_iload_n 2 d_Ju_threadsOn_14 rfl ?_
    obtain ⟨u_2, eu_2, h⟩ := zbind h
    obtain ⟨q_3, eq_3, h⟩ := zbind h
    refine zo_virt (k' := 0) (n' := 0) 18 [.int x4, .int x2] [] [.int q_3.1] zkd_3 (zck_s eu_2) (C_Ni_holeAbove n E S a1 x4 x2 M q_3.1 q_3.2 eq_3) d_Ju_threadsOn_15 tw_516 tw_513 tw_514 tw_515 tw_2 dd_Ni_holeAbove ⟨Nat.le_of_ble_eq_true rfl, Nat.le_of_ble_eq_true rfl, Nat.le_of_ble_eq_true rfl, Nat.le_of_ble_eq_true rfl⟩ (Nat.le_of_ble_eq_true rfl) rfl rfl rfl rfl ?_
    refine zi_istore [(5, .int q_3.1), (0, .ref a0), (1, .ref a1), (2, .int x2), (3, .int x3), (4, .int x4)] d_Ju_threadsOn_18 (by decide) rfl ?_
    refine zi_iload_n 4 d_Ju_threadsOn_20 rfl ?_
    refine zi_aload_n 2 d_Ju_threadsOn_21 rfl ?_
    obtain ⟨b_4, eb_4, h⟩ := zbind h
    refine zo_getR 25 zkd_3 1 d_Ju_threadsOn_22 eb_4 rfl tw_50 rfl ?_
    refine zi_iload 5 d_Ju_threadsOn_25 rfl ?_
    refine zi_bipush 8 d_Ju_threadsOn_27 rfl ?_
    refine zi_imul d_Ju_threadsOn_29 ?_
    refine zi_iload 0 d_Ju_threadsOn_30 rfl ?_
    refine zi_iadd d_Ju_threadsOn_32 ?_
    obtain ⟨v_5, ev_5, h⟩ := zbind h
    refine zo_zald 34 d_Ju_threadsOn_33 ev_5 rfl ?_
    refine zi_if_eq (tgt := 41) d_Ju_threadsOn_34 rfl (fun c_6 => ?_) (fun c_6 => ?_)
    · rw [if_pos c_6] at h
      refine zi_aload_n 1 d_Ju_threadsOn_41 rfl ?_
      refine zi_aload_n 2 d_Ju_threadsOn_42 rfl ?_
      refine zi_iload 5 d_Ju_threadsOn_43 rfl ?_
      refine zi_iload 0 d_Ju_threadsOn_45 rfl ?_
      obtain ⟨u_7, eu_7, h⟩ := zbind h
      obtain ⟨q_8, eq_8, h⟩ := zbind h
      refine zo_virt (k' := 0) (n' := 0) 50 [.ref a1, .int x4, .int q_3.1] [.int x3] [.int q_8.1, .int x3] zkd_1 (zck_s eu_7) (C_Ju_runsOf n E S a0 a1 x4 q_3.1 q_3.2 q_8.1 q_8.2 eq_8) d_Ju_threadsOn_47 tw_413 tw_517 tw_411 tw_412 tw_8 dd_Ju_runsOf ⟨Nat.le_of_ble_eq_true rfl, Nat.le_of_ble_eq_true rfl, Nat.le_of_ble_eq_true rfl, Nat.le_of_ble_eq_true rfl⟩ (Nat.le_of_ble_eq_true rfl) rfl rfl rfl rfl ?_
      refine zi_lo [(0, .ref a0), (1, .ref a1), (2, .int x2), (4, .int x4)] [1, 2, 3, 5] rfl ?_
      exact K_Ju_threadsOn_b50 n E S r5 a0 a1 x2 x4 q_8.1 x3 q_8.2 r M' hr5 h
    · rw [if_neg c_6] at h
      refine zi_iconst 0 d_Ju_threadsOn_37 rfl ?_
      refine zi_goto (tgt := 50) d_Ju_threadsOn_38 rfl ?_
      refine zi_lo [(0, .ref a0), (1, .ref a1), (2, .int x2), (4, .int x4)] [1, 2, 3, 5] rfl ?_
      exact K_Ju_threadsOn_b50 n E S r5 a0 a1 x2 x4 0 x3 q_3.2 r M' hr5 h
theorem K_Ju_threadsOn_b5 (n : Nat) (E : zE) (S : zS) (a0 : Nat) (a1 : Nat) (x2 : Int32) (x3 : Int32) (x4 : Int32) (M : zH) (r : Int32) (M' : zH)  (h : F_Ju_threadsOn_b5 n E S (a0, a1, x2, x3, x4, M) = some (r, M')) : zG E Y_Ju_threadsOn (some (.int r), S, M') 5 [(0, .ref a0), (1, .ref a1), (2, .int x2), (3, .int x3), (4, .int x4)] [] S M 0 0 := by
  have key : ∀ (k : Nat) (a0 : Nat) (a1 : Nat) (x2 : Int32) (x3 : Int32) (x4 : Int32) (M : zH), zfix (fun r5 s => F_Ju_threadsOn_L5 n E S r5 s.1 s.2.1 s.2.2.1 s.2.2.2.1 s.2.2.2.2.1 s.2.2.2.2.2) k (a0, a1, x2, x3, x4, M) = some (r, M') → zG E Y_Ju_threadsOn (some (.int r), S, M') 5 [(0, .ref a0), (1, .ref a1), (2, .int x2), (3, .int x3), (4, .int x4)] [] S M 0 0 := by
    intro k
    induction k with
    | zero => intro a0 a1 x2 x3 x4 M h; cases h
    | succ k ih => intro a0 a1 x2 x3 x4 M h; exact K_Ju_threadsOn_L5 n E S _ a0 a1 x2 x3 x4 M r M'  (fun a0 a1 x2 x3 x4 M h => ih a0 a1 x2 x3 x4 M h) h
  exact key n a0 a1 x2 x3 x4 M h
theorem K_Ju_threadsOn (n : Nat) (E : zE) (S : zS) (a0 : Nat) (a1 : Nat) (x2 : Int32) (M : zH) (r : Int32) (M' : zH)  (h : F_Ju_threadsOn n E S a0 a1 x2 M = some (r, M')) : zG E Y_Ju_threadsOn (some (.int r), S, M') 0 [(0, .ref a0), (1, .ref a1), (2, .int x2)] [] S M 0 0 := by
  unfold F_Ju_threadsOn at h
  refine zi_iconst 0 d_Ju_threadsOn_0 rfl ?_
  refine zi_istore_n [(3, .int 0), (0, .ref a0), (1, .ref a1), (2, .int x2)] d_Ju_threadsOn_1 (by decide) rfl ?_
  refine zi_iconst 0 d_Ju_threadsOn_2 rfl ?_
  refine zi_istore [(4, .int 0), (3, .int 0), (0, .ref a0), (1, .ref a1), (2, .int x2)] d_Ju_threadsOn_3 (by decide) rfl ?_
  refine zi_lo [(0, .ref a0), (1, .ref a1), (2, .int x2), (3, .int 0), (4, .int 0)] [2, 3, 4, 1, 0] rfl ?_
  exact K_Ju_threadsOn_b5 n E S a0 a1 x2 0 0 M r M'  h
theorem C_Ju_threadsOn (n : Nat) (E : zE) (S : zS) (a0 : Nat) (a1 : Nat) (x2 : Int32) (M : zH) (r : Int32) (M' : zH) (h : F_Ju_threadsOn n E S a0 a1 x2 M = some (r, M')) : zC E Y_Ju_threadsOn [.ref a0, .ref a1, .int x2] S M (some (.int r), S, M') :=
  zC.of (Or.inl (show plainName "NightColander$Judge" = true by decide)) (Nat.le_of_ble_eq_true rfl) (trivial) (K_Ju_threadsOn n E S a0 a1 x2 M r M' h)
theorem d_NC_flow_0 : decode (yB Y_NC_flow) 0 = .ok (.iload_n 1, 1) := by decide +kernel
theorem d_NC_flow_1 : decode (yB Y_NC_flow) 1 = .ok (.invokestatic 149, 3) := by decide +kernel
theorem d_NC_flow_4 : decode (yB Y_NC_flow) 4 = .ok (.ifCond .eq 18, 3) := by decide +kernel
theorem d_NC_flow_7 : decode (yB Y_NC_flow) 7 = .ok (.aload_n 0, 1) := by decide +kernel
theorem d_NC_flow_8 : decode (yB Y_NC_flow) 8 = .ok (.getfield 61, 3) := by decide +kernel
theorem d_NC_flow_11 : decode (yB Y_NC_flow) 11 = .ok (.aload_n 0, 1) := by decide +kernel
theorem d_NC_flow_12 : decode (yB Y_NC_flow) 12 = .ok (.getfield 12, 3) := by decide +kernel
theorem d_NC_flow_15 : decode (yB Y_NC_flow) 15 = .ok (.iload_n 1, 1) := by decide +kernel
theorem d_NC_flow_16 : decode (yB Y_NC_flow) 16 = .ok (.invokevirtual 186, 3) := by decide +kernel
theorem d_NC_flow_19 : decode (yB Y_NC_flow) 19 = .ok (.goto 4, 3) := by decide +kernel
theorem d_NC_flow_22 : decode (yB Y_NC_flow) 22 = .ok (.iconst (-1), 1) := by decide +kernel
theorem d_NC_flow_23 : decode (yB Y_NC_flow) 23 = .ok (.ireturn, 1) := by decide +kernel
def F_NC_flow (n : Nat) (E : zE) (S : zS) (a0 : Nat) (x1 : Int32) (M : zH) : Option (Int32 × zH) :=
  (F_NC_isField n E S x1 M).bind fun q_1 =>
  if q_1.1 = true then
    (zgR S a0 10 9).bind fun b_3 =>
    (zgR S a0 10 0).bind fun b_4 =>
    (zck S b_3 1).bind fun u_5 =>
    (F_Ju_threadsOn n E S b_3 b_4 x1 q_1.2).bind fun q_6 =>
    some (q_6.1, q_6.2)
  else
    some ((-1), q_1.2)
theorem K_NC_flow (n : Nat) (E : zE) (S : zS) (a0 : Nat) (x1 : Int32) (M : zH) (r : Int32) (M' : zH)  (h : F_NC_flow n E S a0 x1 M = some (r, M')) : zG E Y_NC_flow (some (.int r), S, M') 0 [(0, .ref a0), (1, .int x1)] [] S M 0 0 := by
  unfold F_NC_flow at h
  refine zi_iload_n 1 d_NC_flow_0 rfl ?_
  obtain ⟨q_1, eq_1, h⟩ := zbind h
  refine zo_stat (k' := 0) (n' := 0) 4 [.int x1] [] [.int (bI q_1.1)] (C_NC_isField n E S x1 M q_1.1 q_1.2 eq_1) d_NC_flow_1 tw_463 tw_461 tw_462 tw_1 dd_NC_isField ⟨Nat.le_of_ble_eq_true rfl, Nat.le_of_ble_eq_true rfl, Nat.le_of_ble_eq_true rfl, Nat.le_of_ble_eq_true rfl⟩ (Nat.le_of_ble_eq_true rfl) rfl rfl rfl rfl ?_
  refine zo_ifeqB d_NC_flow_4 rfl 7 rfl (fun c_2 => ?_) (fun c_2 => ?_)
  · rw [if_neg c_2] at h
    refine zi_iconst (-1) d_NC_flow_22 rfl ?_
    cases h
    exact zo_ret d_NC_flow_23 (Nat.le_of_ble_eq_true rfl) (Nat.le_of_ble_eq_true rfl) rfl
  · rw [if_pos c_2] at h
    refine zi_aload_n 0 d_NC_flow_7 rfl ?_
    obtain ⟨b_3, eb_3, h⟩ := zbind h
    refine zo_getR 11 zkd_10 9 d_NC_flow_8 eb_3 rfl tw_341 rfl ?_
    refine zi_aload_n 0 d_NC_flow_11 rfl ?_
    obtain ⟨b_4, eb_4, h⟩ := zbind h
    refine zo_getR 15 zkd_10 0 d_NC_flow_12 eb_4 rfl tw_332 rfl ?_
    refine zi_iload_n 1 d_NC_flow_15 rfl ?_
    obtain ⟨u_5, eu_5, h⟩ := zbind h
    obtain ⟨q_6, eq_6, h⟩ := zbind h
    refine zo_virt (k' := 0) (n' := 0) 19 [.ref b_4, .int x1] [] [.int q_6.1] zkd_1 (zck_s eu_5) (C_Ju_threadsOn n E S b_3 b_4 x1 q_1.2 q_6.1 q_6.2 eq_6) d_NC_flow_16 tw_512 tw_509 tw_510 tw_511 tw_8 dd_Ju_threadsOn ⟨Nat.le_of_ble_eq_true rfl, Nat.le_of_ble_eq_true rfl, Nat.le_of_ble_eq_true rfl, Nat.le_of_ble_eq_true rfl⟩ (Nat.le_of_ble_eq_true rfl) rfl rfl rfl rfl ?_
    refine zi_goto (tgt := 23) d_NC_flow_19 rfl ?_
    cases h
    exact zo_ret d_NC_flow_23 (Nat.le_of_ble_eq_true rfl) (Nat.le_of_ble_eq_true rfl) rfl
theorem C_NC_flow (n : Nat) (E : zE) (S : zS) (a0 : Nat) (x1 : Int32) (M : zH) (r : Int32) (M' : zH) (h : F_NC_flow n E S a0 x1 M = some (r, M')) : zC E Y_NC_flow [.ref a0, .int x1] S M (some (.int r), S, M') :=
  zC.of (Or.inl (show plainName "NightColander" = true by decide)) (Nat.le_of_ble_eq_true rfl) (trivial) (K_NC_flow n E S a0 x1 M r M' h)
theorem d_NC_terms_0 : decode (yB Y_NC_terms) 0 = .ok (.iload_n 1, 1) := by decide +kernel
theorem d_NC_terms_1 : decode (yB Y_NC_terms) 1 = .ok (.iconst 0, 1) := by decide +kernel
theorem d_NC_terms_2 : decode (yB Y_NC_terms) 2 = .ok (.iconst 3, 1) := by decide +kernel
theorem d_NC_terms_3 : decode (yB Y_NC_terms) 3 = .ok (.invokestatic 132, 3) := by decide +kernel
theorem d_NC_terms_6 : decode (yB Y_NC_terms) 6 = .ok (.ifCond .eq 16, 3) := by decide +kernel
theorem d_NC_terms_9 : decode (yB Y_NC_terms) 9 = .ok (.iload_n 2, 1) := by decide +kernel
theorem d_NC_terms_10 : decode (yB Y_NC_terms) 10 = .ok (.iconst 0, 1) := by decide +kernel
theorem d_NC_terms_11 : decode (yB Y_NC_terms) 11 = .ok (.getstatic 189, 3) := by decide +kernel
theorem d_NC_terms_14 : decode (yB Y_NC_terms) 14 = .ok (.iload_n 1, 1) := by decide +kernel
theorem d_NC_terms_15 : decode (yB Y_NC_terms) 15 = .ok (.iaload, 1) := by decide +kernel
theorem d_NC_terms_16 : decode (yB Y_NC_terms) 16 = .ok (.invokestatic 132, 3) := by decide +kernel
theorem d_NC_terms_19 : decode (yB Y_NC_terms) 19 = .ok (.ifCond .ne 9, 3) := by decide +kernel
theorem d_NC_terms_22 : decode (yB Y_NC_terms) 22 = .ok (.aload_n 0, 1) := by decide +kernel
theorem d_NC_terms_23 : decode (yB Y_NC_terms) 23 = .ok (.iconst (-1), 1) := by decide +kernel
theorem d_NC_terms_24 : decode (yB Y_NC_terms) 24 = .ok (.invokevirtual 136, 3) := by decide +kernel
theorem d_NC_terms_27 : decode (yB Y_NC_terms) 27 = .ok (.ireturn, 1) := by decide +kernel
theorem d_NC_terms_28 : decode (yB Y_NC_terms) 28 = .ok (.aload_n 0, 1) := by decide +kernel
theorem d_NC_terms_29 : decode (yB Y_NC_terms) 29 = .ok (.getfield 12, 3) := by decide +kernel
theorem d_NC_terms_32 : decode (yB Y_NC_terms) 32 = .ok (.getfield 192, 3) := by decide +kernel
theorem d_NC_terms_35 : decode (yB Y_NC_terms) 35 = .ok (.iload_n 1, 1) := by decide +kernel
theorem d_NC_terms_36 : decode (yB Y_NC_terms) 36 = .ok (.iaload, 1) := by decide +kernel
theorem d_NC_terms_37 : decode (yB Y_NC_terms) 37 = .ok (.istore_n 3, 1) := by decide +kernel
theorem d_NC_terms_38 : decode (yB Y_NC_terms) 38 = .ok (.aload_n 0, 1) := by decide +kernel
theorem d_NC_terms_39 : decode (yB Y_NC_terms) 39 = .ok (.getfield 12, 3) := by decide +kernel
theorem d_NC_terms_42 : decode (yB Y_NC_terms) 42 = .ok (.getfield 192, 3) := by decide +kernel
theorem d_NC_terms_45 : decode (yB Y_NC_terms) 45 = .ok (.iload_n 1, 1) := by decide +kernel
theorem d_NC_terms_46 : decode (yB Y_NC_terms) 46 = .ok (.iload_n 2, 1) := by decide +kernel
theorem d_NC_terms_47 : decode (yB Y_NC_terms) 47 = .ok (.iastore, 1) := by decide +kernel
theorem d_NC_terms_48 : decode (yB Y_NC_terms) 48 = .ok (.aload_n 0, 1) := by decide +kernel
theorem d_NC_terms_49 : decode (yB Y_NC_terms) 49 = .ok (.getfield 35, 3) := by decide +kernel
theorem d_NC_terms_52 : decode (yB Y_NC_terms) 52 = .ok (.invokevirtual 143, 3) := by decide +kernel
theorem d_NC_terms_55 : decode (yB Y_NC_terms) 55 = .ok (.aload_n 0, 1) := by decide +kernel
theorem d_NC_terms_56 : decode (yB Y_NC_terms) 56 = .ok (.iload_n 3, 1) := by decide +kernel
theorem d_NC_terms_57 : decode (yB Y_NC_terms) 57 = .ok (.invokevirtual 146, 3) := by decide +kernel
theorem d_NC_terms_60 : decode (yB Y_NC_terms) 60 = .ok (.ireturn, 1) := by decide +kernel
def F_NC_terms_b22 (n : Nat) (E : zE) (S : zS) (a0 : Nat) (M : zH) : Option (Int32 × zH) :=
  (zck S a0 10).bind fun u_1 =>
  (F_NC_refuse n E S a0 (-1) M).bind fun q_2 =>
  some (q_2.1, q_2.2)
def F_NC_terms (n : Nat) (E : zE) (S : zS) (a0 : Nat) (x1 : Int32) (x2 : Int32) (M : zH) : Option (Int32 × zH) :=
  (F_NC_within n E S x1 0 3 M).bind fun q_3 =>
  if q_3.1 = true then
    (zsta 0 x1).bind fun v_5 =>
    (F_NC_within n E S x2 0 v_5 q_3.2).bind fun q_6 =>
    if q_6.1 = true then
      (zgR S a0 10 0).bind fun b_8 =>
      (zgR S b_8 3 9).bind fun b_9 =>
      (zldI S q_6.2 b_9 x1).bind fun v_10 =>
      (zstI S q_6.2 b_9 x1 x2).bind fun m_11 =>
      (zgR S a0 10 5).bind fun b_12 =>
      (zck S b_12 6).bind fun u_13 =>
      (F_Pt_clear n E S b_12 m_11).bind fun q_14 =>
      (F_NC_accept n E S a0 v_10 q_14).bind fun q_15 =>
      some (q_15.1, q_15.2)
    else
      F_NC_terms_b22 n E S a0 q_6.2
  else
    F_NC_terms_b22 n E S a0 q_3.2
theorem K_NC_terms_b22 (n : Nat) (E : zE) (S : zS) (a0 : Nat) (M : zH) (r : Int32) (M' : zH)  (h : F_NC_terms_b22 n E S a0 M = some (r, M')) : zG E Y_NC_terms (some (.int r), S, M') 22 [(0, .ref a0)] [] S M 0 0 := by
  unfold F_NC_terms_b22 at h
  refine zi_aload_n 0 d_NC_terms_22 rfl ?_
  refine zi_iconst (-1) d_NC_terms_23 rfl ?_
  obtain ⟨u_1, eu_1, h⟩ := zbind h
  obtain ⟨q_2, eq_2, h⟩ := zbind h
  refine zo_virt (k' := 0) (n' := 0) 27 [.int (-1)] [] [.int q_2.1] zkd_10 (zck_s eu_1) (C_NC_refuse n E S a0 (-1) M q_2.1 q_2.2 eq_2) d_NC_terms_24 tw_448 tw_445 tw_447 ts_1 tw_1 dd_NC_refuse ⟨Nat.le_of_ble_eq_true rfl, Nat.le_of_ble_eq_true rfl, Nat.le_of_ble_eq_true rfl, Nat.le_of_ble_eq_true rfl⟩ (Nat.le_of_ble_eq_true rfl) rfl rfl rfl rfl ?_
  cases h
  exact zo_ret d_NC_terms_27 (Nat.le_of_ble_eq_true rfl) (Nat.le_of_ble_eq_true rfl) rfl
theorem K_NC_terms (n : Nat) (E : zE) (S : zS) (a0 : Nat) (x1 : Int32) (x2 : Int32) (M : zH) (r : Int32) (M' : zH)  (h : F_NC_terms n E S a0 x1 x2 M = some (r, M')) : zG E Y_NC_terms (some (.int r), S, M') 0 [(0, .ref a0), (1, .int x1), (2, .int x2)] [] S M 0 0 := by
  unfold F_NC_terms at h
  refine zi_iload_n 1 d_NC_terms_0 rfl ?_
  refine zi_iconst 0 d_NC_terms_1 rfl ?_
  refine zi_iconst 3 d_NC_terms_2 rfl ?_
  obtain ⟨q_3, eq_3, h⟩ := zbind h
  refine zo_stat (k' := 0) (n' := 0) 6 [.int x1, .int 0, .int 3] [] [.int (bI q_3.1)] (C_NC_within n E S x1 0 3 M q_3.1 q_3.2 eq_3) d_NC_terms_3 tw_399 tw_397 tw_398 tw_1 dd_NC_within ⟨Nat.le_of_ble_eq_true rfl, Nat.le_of_ble_eq_true rfl, Nat.le_of_ble_eq_true rfl, Nat.le_of_ble_eq_true rfl⟩ (Nat.le_of_ble_eq_true rfl) rfl rfl rfl rfl ?_
  refine zo_ifeqB d_NC_terms_6 rfl 9 rfl (fun c_4 => ?_) (fun c_4 => ?_)
  · rw [if_neg c_4] at h
    refine zi_lo [(0, .ref a0)] [0] rfl ?_
    exact K_NC_terms_b22 n E S a0 q_3.2 r M'  h
  · rw [if_pos c_4] at h
    refine zi_iload_n 2 d_NC_terms_9 rfl ?_
    refine zi_iconst 0 d_NC_terms_10 rfl ?_
    refine zo_gets (v := .ref (eU E 0)) 14 d_NC_terms_11 (zsta_0 E) tw_522 rfl ?_
    refine zi_iload_n 1 d_NC_terms_14 rfl ?_
    obtain ⟨v_5, ev_5, h⟩ := zbind h
    refine zo_sta 16 d_NC_terms_15 (by decide) ev_5 rfl ?_
    obtain ⟨q_6, eq_6, h⟩ := zbind h
    refine zo_stat (k' := 0) (n' := 0) 19 [.int x2, .int 0, .int v_5] [] [.int (bI q_6.1)] (C_NC_within n E S x2 0 v_5 q_3.2 q_6.1 q_6.2 eq_6) d_NC_terms_16 tw_399 tw_397 tw_398 tw_1 dd_NC_within ⟨Nat.le_of_ble_eq_true rfl, Nat.le_of_ble_eq_true rfl, Nat.le_of_ble_eq_true rfl, Nat.le_of_ble_eq_true rfl⟩ (Nat.le_of_ble_eq_true rfl) rfl rfl rfl rfl ?_
    refine zo_ifneB d_NC_terms_19 rfl 22 rfl (fun c_7 => ?_) (fun c_7 => ?_)
    · rw [if_pos c_7] at h
      refine zi_aload_n 0 d_NC_terms_28 rfl ?_
      obtain ⟨b_8, eb_8, h⟩ := zbind h
      refine zo_getR 32 zkd_10 0 d_NC_terms_29 eb_8 rfl tw_332 rfl ?_
      obtain ⟨b_9, eb_9, h⟩ := zbind h
      refine zo_getR 35 zkd_3 9 d_NC_terms_32 eb_9 rfl tw_84 rfl ?_
      refine zi_iload_n 1 d_NC_terms_35 rfl ?_
      obtain ⟨v_10, ev_10, h⟩ := zbind h
      refine zo_iald 37 d_NC_terms_36 ev_10 rfl ?_
      refine zi_istore_n [(3, .int v_10), (0, .ref a0), (1, .int x1), (2, .int x2)] d_NC_terms_37 (by decide) rfl ?_
      refine zi_aload_n 1 d_NC_terms_38 rfl ?_
      refine zo_getR 42 zkd_10 0 d_NC_terms_39 eb_8 rfl tw_332 rfl ?_
      refine zo_getR 45 zkd_3 9 d_NC_terms_42 eb_9 rfl tw_84 rfl ?_
      refine zi_iload_n 2 d_NC_terms_45 rfl ?_
      refine zi_iload_n 3 d_NC_terms_46 rfl ?_
      obtain ⟨m_11, em_11, h⟩ := zbind h
      refine zo_iast 48 d_NC_terms_47 em_11 rfl ?_
      refine zi_aload_n 1 d_NC_terms_48 rfl ?_
      obtain ⟨b_12, eb_12, h⟩ := zbind h
      refine zo_getR 52 zkd_10 5 d_NC_terms_49 eb_12 rfl tw_337 rfl ?_
      obtain ⟨u_13, eu_13, h⟩ := zbind h
      obtain ⟨q_14, eq_14, h⟩ := zbind h
      refine zo_virt (k' := 0) (n' := 0) 55 [] [] [] zkd_6 (zck_s eu_13) (C_Pt_clear n E S b_12 m_11 q_14 eq_14) d_NC_terms_52 tw_452 tw_449 tw_450 tw_451 tw_4 dd_Pt_clear ⟨Nat.le_of_ble_eq_true rfl, Nat.le_of_ble_eq_true rfl, Nat.le_of_ble_eq_true rfl, Nat.le_of_ble_eq_true rfl⟩ (Nat.le_of_ble_eq_true rfl) rfl rfl rfl rfl ?_
      refine zi_aload_n 1 d_NC_terms_55 rfl ?_
      refine zi_iload_n 0 d_NC_terms_56 rfl ?_
      obtain ⟨q_15, eq_15, h⟩ := zbind h
      refine zo_virt (k' := 0) (n' := 0) 60 [.int v_10] [] [.int q_15.1] zkd_10 (zgR_s eb_8).1 (C_NC_accept n E S a0 v_10 q_14 q_15.1 q_15.2 eq_15) d_NC_terms_57 tw_456 tw_453 tw_455 ts_2 tw_1 dd_NC_accept ⟨Nat.le_of_ble_eq_true rfl, Nat.le_of_ble_eq_true rfl, Nat.le_of_ble_eq_true rfl, Nat.le_of_ble_eq_true rfl⟩ (Nat.le_of_ble_eq_true rfl) rfl rfl rfl rfl ?_
      cases h
      exact zo_ret d_NC_terms_60 (Nat.le_of_ble_eq_true rfl) (Nat.le_of_ble_eq_true rfl) rfl
    · rw [if_neg c_7] at h
      refine zi_lo [(0, .ref a0)] [0] rfl ?_
      exact K_NC_terms_b22 n E S a0 q_6.2 r M'  h
theorem C_NC_terms (n : Nat) (E : zE) (S : zS) (a0 : Nat) (x1 : Int32) (x2 : Int32) (M : zH) (r : Int32) (M' : zH) (h : F_NC_terms n E S a0 x1 x2 M = some (r, M')) : zC E Y_NC_terms [.ref a0, .int x1, .int x2] S M (some (.int r), S, M') :=
  zC.of (Or.inl (show plainName "NightColander" = true by decide)) (Nat.le_of_ble_eq_true rfl) (trivial) (K_NC_terms n E S a0 x1 x2 M r M' h)
theorem d_Ta_addFour_0 : decode (yB Y_Ta_addFour) 0 = .ok (.bipush 24, 2) := by decide +kernel
theorem d_Ta_addFour_2 : decode (yB Y_Ta_addFour) 2 = .ok (.istore_n 2, 1) := by decide +kernel
theorem d_Ta_addFour_3 : decode (yB Y_Ta_addFour) 3 = .ok (.iload_n 2, 1) := by decide +kernel
theorem d_Ta_addFour_4 : decode (yB Y_Ta_addFour) 4 = .ok (.ifCond .lt 42, 3) := by decide +kernel
theorem d_Ta_addFour_7 : decode (yB Y_Ta_addFour) 7 = .ok (.aload_n 0, 1) := by decide +kernel
theorem d_Ta_addFour_8 : decode (yB Y_Ta_addFour) 8 = .ok (.getfield 15, 3) := by decide +kernel
theorem d_Ta_addFour_11 : decode (yB Y_Ta_addFour) 11 = .ok (.sipush 400, 3) := by decide +kernel
theorem d_Ta_addFour_14 : decode (yB Y_Ta_addFour) 14 = .ok (.if_icmp .ge 32, 3) := by decide +kernel
theorem d_Ta_addFour_17 : decode (yB Y_Ta_addFour) 17 = .ok (.aload_n 0, 1) := by decide +kernel
theorem d_Ta_addFour_18 : decode (yB Y_Ta_addFour) 18 = .ok (.getfield 11, 3) := by decide +kernel
theorem d_Ta_addFour_21 : decode (yB Y_Ta_addFour) 21 = .ok (.aload_n 0, 1) := by decide +kernel
theorem d_Ta_addFour_22 : decode (yB Y_Ta_addFour) 22 = .ok (.getfield 15, 3) := by decide +kernel
theorem d_Ta_addFour_25 : decode (yB Y_Ta_addFour) 25 = .ok (.iload_n 1, 1) := by decide +kernel
theorem d_Ta_addFour_26 : decode (yB Y_Ta_addFour) 26 = .ok (.iload_n 2, 1) := by decide +kernel
theorem d_Ta_addFour_27 : decode (yB Y_Ta_addFour) 27 = .ok (.ishr, 1) := by decide +kernel
theorem d_Ta_addFour_28 : decode (yB Y_Ta_addFour) 28 = .ok (.i2b, 1) := by decide +kernel
theorem d_Ta_addFour_29 : decode (yB Y_Ta_addFour) 29 = .ok (.bastore, 1) := by decide +kernel
theorem d_Ta_addFour_30 : decode (yB Y_Ta_addFour) 30 = .ok (.aload_n 0, 1) := by decide +kernel
theorem d_Ta_addFour_31 : decode (yB Y_Ta_addFour) 31 = .ok (.dup, 1) := by decide +kernel
theorem d_Ta_addFour_32 : decode (yB Y_Ta_addFour) 32 = .ok (.getfield 15, 3) := by decide +kernel
theorem d_Ta_addFour_35 : decode (yB Y_Ta_addFour) 35 = .ok (.iconst 1, 1) := by decide +kernel
theorem d_Ta_addFour_36 : decode (yB Y_Ta_addFour) 36 = .ok (.iadd, 1) := by decide +kernel
theorem d_Ta_addFour_37 : decode (yB Y_Ta_addFour) 37 = .ok (.putfield 15, 3) := by decide +kernel
theorem d_Ta_addFour_40 : decode (yB Y_Ta_addFour) 40 = .ok (.iinc 2 (-8), 3) := by decide +kernel
theorem d_Ta_addFour_43 : decode (yB Y_Ta_addFour) 43 = .ok (.goto (-40), 3) := by decide +kernel
theorem d_Ta_addFour_46 : decode (yB Y_Ta_addFour) 46 = .ok (.return_, 1) := by decide +kernel
def F_Ta_addFour_L3 (n : Nat) (E : zE) (S : zS) (r3 : Nat × Int32 × Int32 × zH → Option (zH)) (a0 : Nat) (x1 : Int32) (x2 : Int32) (M : zH) : Option (zH) :=
  if x2 < 0 then
    some (M)
  else
    (zgI S M a0 8 1).bind fun v_2 =>
    if 400 ≤ v_2 then
      some (M)
    else
      (zgR S a0 8 0).bind fun b_4 =>
      (zgI S M a0 8 1).bind fun v_5 =>
      (zstB S M b_4 v_5 ((x1 >>> (x2 &&& (31 : Int32))).toInt8.toInt32)).bind fun m_6 =>
      (zgI S m_6 a0 8 1).bind fun v_7 =>
      (zpI S m_6 a0 8 1 (v_7 + 1)).bind fun m_8 =>
      r3 (a0, x1, x2 + (-8), m_8)
def F_Ta_addFour_b3 (n : Nat) (E : zE) (S : zS) : Nat × Int32 × Int32 × zH → Option (zH) := zfix (fun r3 s => F_Ta_addFour_L3 n E S r3 s.1 s.2.1 s.2.2.1 s.2.2.2) n
def F_Ta_addFour (n : Nat) (E : zE) (S : zS) (a0 : Nat) (x1 : Int32) (M : zH) : Option (zH) :=
  F_Ta_addFour_b3 n E S (a0, x1, 24, M)
theorem K_Ta_addFour_L3 (n : Nat) (E : zE) (S : zS) (r3 : Nat × Int32 × Int32 × zH → Option (zH)) (a0 : Nat) (x1 : Int32) (x2 : Int32) (M : zH) (M' : zH) (hr3 : ∀ (a0 : Nat) (x1 : Int32) (x2 : Int32) (M : zH), r3 (a0, x1, x2, M) = some M' → zG E Y_Ta_addFour (none, S, M') 3 [(0, .ref a0), (1, .int x1), (2, .int x2)] [] S M 0 0) (h : F_Ta_addFour_L3 n E S r3 a0 x1 x2 M = some M') : zG E Y_Ta_addFour (none, S, M') 3 [(0, .ref a0), (1, .int x1), (2, .int x2)] [] S M 0 0 := by
  unfold F_Ta_addFour_L3 at h
  refine zi_iload_n 2 d_Ta_addFour_3 rfl ?_
  refine zi_if_lt (tgt := 46) d_Ta_addFour_4 rfl (fun c_1 => ?_) (fun c_1 => ?_)
  · rw [if_pos c_1] at h
    cases h
    exact zo_ret d_Ta_addFour_46 (Nat.le_of_ble_eq_true rfl) (Nat.le_of_ble_eq_true rfl) rfl
  · rw [if_neg c_1] at h
    refine zi_aload_n 0 d_Ta_addFour_7 rfl ?_
    obtain ⟨v_2, ev_2, h⟩ := zbind h
    refine zo_getI 11 zkd_8 1 d_Ta_addFour_8 ev_2 rfl tw_153 rfl ?_
    refine zi_sipush 400 d_Ta_addFour_11 rfl ?_
    refine zi_icmp_ge (tgt := 46) d_Ta_addFour_14 rfl (fun c_3 => ?_) (fun c_3 => ?_)
    · rw [if_pos c_3] at h
      cases h
      exact zo_ret d_Ta_addFour_46 (Nat.le_of_ble_eq_true rfl) (Nat.le_of_ble_eq_true rfl) rfl
    · rw [if_neg c_3] at h
      refine zi_aload_n 0 d_Ta_addFour_17 rfl ?_
      obtain ⟨b_4, eb_4, h⟩ := zbind h
      refine zo_getR 21 zkd_8 0 d_Ta_addFour_18 eb_4 rfl tw_152 rfl ?_
      refine zi_aload_n 0 d_Ta_addFour_21 rfl ?_
      obtain ⟨v_5, ev_5, h⟩ := zbind h
      refine zo_getI 25 zkd_8 1 d_Ta_addFour_22 ev_5 rfl tw_153 rfl ?_
      refine zi_iload_n 1 d_Ta_addFour_25 rfl ?_
      refine zi_iload_n 2 d_Ta_addFour_26 rfl ?_
      refine zi_ishr d_Ta_addFour_27 ?_
      refine zi_i2b d_Ta_addFour_28 ?_
      obtain ⟨m_6, em_6, h⟩ := zbind h
      refine zo_bast 30 d_Ta_addFour_29 em_6 rfl ?_
      refine zi_aload_n 0 d_Ta_addFour_30 rfl ?_
      refine zi_dup d_Ta_addFour_31 rfl ?_
      obtain ⟨v_7, ev_7, h⟩ := zbind h
      refine zo_getI 35 zkd_8 1 d_Ta_addFour_32 ev_7 rfl tw_153 rfl ?_
      refine zi_iconst 1 d_Ta_addFour_35 rfl ?_
      refine zi_iadd d_Ta_addFour_36 ?_
      obtain ⟨m_8, em_8, h⟩ := zbind h
      refine zo_putI 40 zkd_8 1 d_Ta_addFour_37 em_8 rfl rfl rfl tw_153 rfl ?_
      refine zi_iinc 2 (x2 + (-8)) [(2, .int (x2 + (-8))), (0, .ref a0), (1, .int x1)] d_Ta_addFour_40 rfl rfl (by decide) rfl ?_
      refine zi_goto (tgt := 3) d_Ta_addFour_43 rfl ?_
      refine zi_lo [(0, .ref a0), (1, .int x1), (2, .int (x2 + (-8)))] [1, 2, 0] rfl ?_
      exact hr3 a0 x1 (x2 + (-8)) m_8 h
theorem K_Ta_addFour_b3 (n : Nat) (E : zE) (S : zS) (a0 : Nat) (x1 : Int32) (x2 : Int32) (M : zH) (M' : zH)  (h : F_Ta_addFour_b3 n E S (a0, x1, x2, M) = some M') : zG E Y_Ta_addFour (none, S, M') 3 [(0, .ref a0), (1, .int x1), (2, .int x2)] [] S M 0 0 := by
  have key : ∀ (k : Nat) (a0 : Nat) (x1 : Int32) (x2 : Int32) (M : zH), zfix (fun r3 s => F_Ta_addFour_L3 n E S r3 s.1 s.2.1 s.2.2.1 s.2.2.2) k (a0, x1, x2, M) = some M' → zG E Y_Ta_addFour (none, S, M') 3 [(0, .ref a0), (1, .int x1), (2, .int x2)] [] S M 0 0 := by
    intro k
    induction k with
    | zero => intro a0 x1 x2 M h; cases h
    | succ k ih => intro a0 x1 x2 M h; exact K_Ta_addFour_L3 n E S _ a0 x1 x2 M M'  (fun a0 x1 x2 M h => ih a0 x1 x2 M h) h
  exact key n a0 x1 x2 M h
theorem K_Ta_addFour (n : Nat) (E : zE) (S : zS) (a0 : Nat) (x1 : Int32) (M : zH) (M' : zH)  (h : F_Ta_addFour n E S a0 x1 M = some M') : zG E Y_Ta_addFour (none, S, M') 0 [(0, .ref a0), (1, .int x1)] [] S M 0 0 := by
  unfold F_Ta_addFour at h
  refine zi_bipush 24 d_Ta_addFour_0 rfl ?_
  refine zi_istore_n [(2, .int 24), (0, .ref a0), (1, .int x1)] d_Ta_addFour_2 (by decide) rfl ?_
  refine zi_lo [(0, .ref a0), (1, .int x1), (2, .int 24)] [1, 2, 0] rfl ?_
  exact K_Ta_addFour_b3 n E S a0 x1 24 M M'  h
theorem C_Ta_addFour (n : Nat) (E : zE) (S : zS) (a0 : Nat) (x1 : Int32) (M : zH) (M' : zH) (h : F_Ta_addFour n E S a0 x1 M = some M') : zC E Y_Ta_addFour [.ref a0, .int x1] S M (none, S, M') :=
  zC.of (Or.inl (show plainName "NightColander$Tape" = true by decide)) (Nat.le_of_ble_eq_true rfl) (trivial) (K_Ta_addFour n E S a0 x1 M M' h)
theorem d_Ta_hasRoomFor_0 : decode (yB Y_Ta_hasRoomFor) 0 = .ok (.aload_n 0, 1) := by decide +kernel
theorem d_Ta_hasRoomFor_1 : decode (yB Y_Ta_hasRoomFor) 1 = .ok (.getfield 15, 3) := by decide +kernel
theorem d_Ta_hasRoomFor_4 : decode (yB Y_Ta_hasRoomFor) 4 = .ok (.iload_n 1, 1) := by decide +kernel
theorem d_Ta_hasRoomFor_5 : decode (yB Y_Ta_hasRoomFor) 5 = .ok (.iadd, 1) := by decide +kernel
theorem d_Ta_hasRoomFor_6 : decode (yB Y_Ta_hasRoomFor) 6 = .ok (.sipush 400, 3) := by decide +kernel
theorem d_Ta_hasRoomFor_9 : decode (yB Y_Ta_hasRoomFor) 9 = .ok (.if_icmp .gt 7, 3) := by decide +kernel
theorem d_Ta_hasRoomFor_12 : decode (yB Y_Ta_hasRoomFor) 12 = .ok (.iconst 1, 1) := by decide +kernel
theorem d_Ta_hasRoomFor_13 : decode (yB Y_Ta_hasRoomFor) 13 = .ok (.goto 4, 3) := by decide +kernel
theorem d_Ta_hasRoomFor_16 : decode (yB Y_Ta_hasRoomFor) 16 = .ok (.iconst 0, 1) := by decide +kernel
theorem d_Ta_hasRoomFor_17 : decode (yB Y_Ta_hasRoomFor) 17 = .ok (.ireturn, 1) := by decide +kernel
def F_Ta_hasRoomFor (n : Nat) (E : zE) (S : zS) (a0 : Nat) (x1 : Int32) (M : zH) : Option (Bool × zH) :=
  (zgI S M a0 8 1).bind fun v_1 =>
  if 400 < (v_1 + x1) then
    some (false, M)
  else
    some (true, M)
theorem K_Ta_hasRoomFor (n : Nat) (E : zE) (S : zS) (a0 : Nat) (x1 : Int32) (M : zH) (r : Bool) (M' : zH)  (h : F_Ta_hasRoomFor n E S a0 x1 M = some (r, M')) : zG E Y_Ta_hasRoomFor (some (.int (bI r)), S, M') 0 [(0, .ref a0), (1, .int x1)] [] S M 0 0 := by
  unfold F_Ta_hasRoomFor at h
  refine zi_aload_n 0 d_Ta_hasRoomFor_0 rfl ?_
  obtain ⟨v_1, ev_1, h⟩ := zbind h
  refine zo_getI 4 zkd_8 1 d_Ta_hasRoomFor_1 ev_1 rfl tw_153 rfl ?_
  refine zi_iload_n 1 d_Ta_hasRoomFor_4 rfl ?_
  refine zi_iadd d_Ta_hasRoomFor_5 ?_
  refine zi_sipush 400 d_Ta_hasRoomFor_6 rfl ?_
  refine zi_icmp_gt (tgt := 16) d_Ta_hasRoomFor_9 rfl (fun c_2 => ?_) (fun c_2 => ?_)
  · rw [if_pos c_2] at h
    refine zi_iconst 0 d_Ta_hasRoomFor_16 rfl ?_
    cases h
    exact zo_retB d_Ta_hasRoomFor_17 (Nat.le_of_ble_eq_true rfl) (Nat.le_of_ble_eq_true rfl) rfl
  · rw [if_neg c_2] at h
    refine zi_iconst 1 d_Ta_hasRoomFor_12 rfl ?_
    refine zi_goto (tgt := 17) d_Ta_hasRoomFor_13 rfl ?_
    cases h
    exact zo_retB d_Ta_hasRoomFor_17 (Nat.le_of_ble_eq_true rfl) (Nat.le_of_ble_eq_true rfl) rfl
theorem C_Ta_hasRoomFor (n : Nat) (E : zE) (S : zS) (a0 : Nat) (x1 : Int32) (M : zH) (r : Bool) (M' : zH) (h : F_Ta_hasRoomFor n E S a0 x1 M = some (r, M')) : zC E Y_Ta_hasRoomFor [.ref a0, .int x1] S M (some (.int (bI r)), S, M') :=
  zC.of (Or.inl (show plainName "NightColander$Tape" = true by decide)) (Nat.le_of_ble_eq_true rfl) (bI_nar r) (K_Ta_hasRoomFor n E S a0 x1 M r M' h)
theorem d_NC_feed_0 : decode (yB Y_NC_feed) 0 = .ok (.aload_n 0, 1) := by decide +kernel
theorem d_NC_feed_1 : decode (yB Y_NC_feed) 1 = .ok (.getfield 45, 3) := by decide +kernel
theorem d_NC_feed_4 : decode (yB Y_NC_feed) 4 = .ok (.bipush 20, 2) := by decide +kernel
theorem d_NC_feed_6 : decode (yB Y_NC_feed) 6 = .ok (.invokevirtual 195, 3) := by decide +kernel
theorem d_NC_feed_9 : decode (yB Y_NC_feed) 9 = .ok (.ifCond .ne 5, 3) := by decide +kernel
theorem d_NC_feed_12 : decode (yB Y_NC_feed) 12 = .ok (.iconst (-1), 1) := by decide +kernel
theorem d_NC_feed_13 : decode (yB Y_NC_feed) 13 = .ok (.ireturn, 1) := by decide +kernel
theorem d_NC_feed_14 : decode (yB Y_NC_feed) 14 = .ok (.aload_n 0, 1) := by decide +kernel
theorem d_NC_feed_15 : decode (yB Y_NC_feed) 15 = .ok (.getfield 45, 3) := by decide +kernel
theorem d_NC_feed_18 : decode (yB Y_NC_feed) 18 = .ok (.iload_n 1, 1) := by decide +kernel
theorem d_NC_feed_19 : decode (yB Y_NC_feed) 19 = .ok (.invokevirtual 198, 3) := by decide +kernel
theorem d_NC_feed_22 : decode (yB Y_NC_feed) 22 = .ok (.aload_n 0, 1) := by decide +kernel
theorem d_NC_feed_23 : decode (yB Y_NC_feed) 23 = .ok (.getfield 45, 3) := by decide +kernel
theorem d_NC_feed_26 : decode (yB Y_NC_feed) 26 = .ok (.iload_n 2, 1) := by decide +kernel
theorem d_NC_feed_27 : decode (yB Y_NC_feed) 27 = .ok (.invokevirtual 198, 3) := by decide +kernel
theorem d_NC_feed_30 : decode (yB Y_NC_feed) 30 = .ok (.aload_n 0, 1) := by decide +kernel
theorem d_NC_feed_31 : decode (yB Y_NC_feed) 31 = .ok (.getfield 45, 3) := by decide +kernel
theorem d_NC_feed_34 : decode (yB Y_NC_feed) 34 = .ok (.iload_n 3, 1) := by decide +kernel
theorem d_NC_feed_35 : decode (yB Y_NC_feed) 35 = .ok (.invokevirtual 198, 3) := by decide +kernel
theorem d_NC_feed_38 : decode (yB Y_NC_feed) 38 = .ok (.aload_n 0, 1) := by decide +kernel
theorem d_NC_feed_39 : decode (yB Y_NC_feed) 39 = .ok (.getfield 45, 3) := by decide +kernel
theorem d_NC_feed_42 : decode (yB Y_NC_feed) 42 = .ok (.iload 4, 2) := by decide +kernel
theorem d_NC_feed_44 : decode (yB Y_NC_feed) 44 = .ok (.invokevirtual 198, 3) := by decide +kernel
theorem d_NC_feed_47 : decode (yB Y_NC_feed) 47 = .ok (.aload_n 0, 1) := by decide +kernel
theorem d_NC_feed_48 : decode (yB Y_NC_feed) 48 = .ok (.getfield 45, 3) := by decide +kernel
theorem d_NC_feed_51 : decode (yB Y_NC_feed) 51 = .ok (.iload 5, 2) := by decide +kernel
theorem d_NC_feed_53 : decode (yB Y_NC_feed) 53 = .ok (.invokevirtual 198, 3) := by decide +kernel
theorem d_NC_feed_56 : decode (yB Y_NC_feed) 56 = .ok (.aload_n 0, 1) := by decide +kernel
theorem d_NC_feed_57 : decode (yB Y_NC_feed) 57 = .ok (.getfield 45, 3) := by decide +kernel
theorem d_NC_feed_60 : decode (yB Y_NC_feed) 60 = .ok (.getfield 202, 3) := by decide +kernel
theorem d_NC_feed_63 : decode (yB Y_NC_feed) 63 = .ok (.ireturn, 1) := by decide +kernel
def F_NC_feed (n : Nat) (E : zE) (S : zS) (a0 : Nat) (x1 : Int32) (x2 : Int32) (x3 : Int32) (x4 : Int32) (x5 : Int32) (M : zH) : Option (Int32 × zH) :=
  (zgR S a0 10 7).bind fun b_1 =>
  (zck S b_1 8).bind fun u_2 =>
  (F_Ta_hasRoomFor n E S b_1 20 M).bind fun q_3 =>
  if q_3.1 = true then
    (F_Ta_addFour n E S b_1 x1 q_3.2).bind fun q_5 =>
    (F_Ta_addFour n E S b_1 x2 q_5).bind fun q_6 =>
    (F_Ta_addFour n E S b_1 x3 q_6).bind fun q_7 =>
    (F_Ta_addFour n E S b_1 x4 q_7).bind fun q_8 =>
    (F_Ta_addFour n E S b_1 x5 q_8).bind fun q_9 =>
    (zgI S q_9 b_1 8 1).bind fun v_10 =>
    some (v_10, q_9)
  else
    some ((-1), q_3.2)
theorem K_NC_feed (n : Nat) (E : zE) (S : zS) (a0 : Nat) (x1 : Int32) (x2 : Int32) (x3 : Int32) (x4 : Int32) (x5 : Int32) (M : zH) (r : Int32) (M' : zH)  (h : F_NC_feed n E S a0 x1 x2 x3 x4 x5 M = some (r, M')) : zG E Y_NC_feed (some (.int r), S, M') 0 [(0, .ref a0), (1, .int x1), (2, .int x2), (3, .int x3), (4, .int x4), (5, .int x5)] [] S M 0 0 := by
  unfold F_NC_feed at h
  refine zi_aload_n 0 d_NC_feed_0 rfl ?_
  obtain ⟨b_1, eb_1, h⟩ := zbind h
  refine zo_getR 4 zkd_10 7 d_NC_feed_1 eb_1 rfl tw_339 rfl ?_
  refine zi_bipush 20 d_NC_feed_4 rfl ?_
  obtain ⟨u_2, eu_2, h⟩ := zbind h
  obtain ⟨q_3, eq_3, h⟩ := zbind h
  refine zo_virt (k' := 0) (n' := 0) 9 [.int 20] [] [.int (bI q_3.1)] zkd_8 (zck_s eu_2) (C_Ta_hasRoomFor n E S b_1 20 M q_3.1 q_3.2 eq_3) d_NC_feed_6 tw_531 tw_528 tw_529 tw_530 tw_5 dd_Ta_hasRoomFor ⟨Nat.le_of_ble_eq_true rfl, Nat.le_of_ble_eq_true rfl, Nat.le_of_ble_eq_true rfl, Nat.le_of_ble_eq_true rfl⟩ (Nat.le_of_ble_eq_true rfl) rfl rfl rfl rfl ?_
  refine zo_ifneB d_NC_feed_9 rfl 12 rfl (fun c_4 => ?_) (fun c_4 => ?_)
  · rw [if_pos c_4] at h
    refine zi_aload_n 0 d_NC_feed_14 rfl ?_
    refine zo_getR 18 zkd_10 7 d_NC_feed_15 eb_1 rfl tw_339 rfl ?_
    refine zi_iload_n 1 d_NC_feed_18 rfl ?_
    obtain ⟨q_5, eq_5, h⟩ := zbind h
    refine zo_virt (k' := 0) (n' := 0) 22 [.int x1] [] [] zkd_8 (zck_s eu_2) (C_Ta_addFour n E S b_1 x1 q_3.2 q_5 eq_5) d_NC_feed_19 tw_535 tw_532 tw_533 tw_534 tw_5 dd_Ta_addFour ⟨Nat.le_of_ble_eq_true rfl, Nat.le_of_ble_eq_true rfl, Nat.le_of_ble_eq_true rfl, Nat.le_of_ble_eq_true rfl⟩ (Nat.le_of_ble_eq_true rfl) rfl rfl rfl rfl ?_
    refine zi_aload_n 0 d_NC_feed_22 rfl ?_
    refine zo_getR 26 zkd_10 7 d_NC_feed_23 eb_1 rfl tw_339 rfl ?_
    refine zi_iload_n 2 d_NC_feed_26 rfl ?_
    obtain ⟨q_6, eq_6, h⟩ := zbind h
    refine zo_virt (k' := 0) (n' := 0) 30 [.int x2] [] [] zkd_8 (zck_s eu_2) (C_Ta_addFour n E S b_1 x2 q_5 q_6 eq_6) d_NC_feed_27 tw_535 tw_532 tw_533 tw_534 tw_5 dd_Ta_addFour ⟨Nat.le_of_ble_eq_true rfl, Nat.le_of_ble_eq_true rfl, Nat.le_of_ble_eq_true rfl, Nat.le_of_ble_eq_true rfl⟩ (Nat.le_of_ble_eq_true rfl) rfl rfl rfl rfl ?_
    refine zi_aload_n 0 d_NC_feed_30 rfl ?_
    refine zo_getR 34 zkd_10 7 d_NC_feed_31 eb_1 rfl tw_339 rfl ?_
    refine zi_iload_n 3 d_NC_feed_34 rfl ?_
    obtain ⟨q_7, eq_7, h⟩ := zbind h
    refine zo_virt (k' := 0) (n' := 0) 38 [.int x3] [] [] zkd_8 (zck_s eu_2) (C_Ta_addFour n E S b_1 x3 q_6 q_7 eq_7) d_NC_feed_35 tw_535 tw_532 tw_533 tw_534 tw_5 dd_Ta_addFour ⟨Nat.le_of_ble_eq_true rfl, Nat.le_of_ble_eq_true rfl, Nat.le_of_ble_eq_true rfl, Nat.le_of_ble_eq_true rfl⟩ (Nat.le_of_ble_eq_true rfl) rfl rfl rfl rfl ?_
    refine zi_aload_n 0 d_NC_feed_38 rfl ?_
    refine zo_getR 42 zkd_10 7 d_NC_feed_39 eb_1 rfl tw_339 rfl ?_
    refine zi_iload 4 d_NC_feed_42 rfl ?_
    obtain ⟨q_8, eq_8, h⟩ := zbind h
    refine zo_virt (k' := 0) (n' := 0) 47 [.int x4] [] [] zkd_8 (zck_s eu_2) (C_Ta_addFour n E S b_1 x4 q_7 q_8 eq_8) d_NC_feed_44 tw_535 tw_532 tw_533 tw_534 tw_5 dd_Ta_addFour ⟨Nat.le_of_ble_eq_true rfl, Nat.le_of_ble_eq_true rfl, Nat.le_of_ble_eq_true rfl, Nat.le_of_ble_eq_true rfl⟩ (Nat.le_of_ble_eq_true rfl) rfl rfl rfl rfl ?_
    refine zi_aload_n 0 d_NC_feed_47 rfl ?_
    refine zo_getR 51 zkd_10 7 d_NC_feed_48 eb_1 rfl tw_339 rfl ?_
    refine zi_iload 5 d_NC_feed_51 rfl ?_
    obtain ⟨q_9, eq_9, h⟩ := zbind h
    refine zo_virt (k' := 0) (n' := 0) 56 [.int x5] [] [] zkd_8 (zck_s eu_2) (C_Ta_addFour n E S b_1 x5 q_8 q_9 eq_9) d_NC_feed_53 tw_535 tw_532 tw_533 tw_534 tw_5 dd_Ta_addFour ⟨Nat.le_of_ble_eq_true rfl, Nat.le_of_ble_eq_true rfl, Nat.le_of_ble_eq_true rfl, Nat.le_of_ble_eq_true rfl⟩ (Nat.le_of_ble_eq_true rfl) rfl rfl rfl rfl ?_
    refine zi_aload_n 0 d_NC_feed_56 rfl ?_
    refine zo_getR 60 zkd_10 7 d_NC_feed_57 eb_1 rfl tw_339 rfl ?_
    obtain ⟨v_10, ev_10, h⟩ := zbind h
    refine zo_getI 63 zkd_8 1 d_NC_feed_60 ev_10 rfl tw_154 rfl ?_
    cases h
    exact zo_ret d_NC_feed_63 (Nat.le_of_ble_eq_true rfl) (Nat.le_of_ble_eq_true rfl) rfl
  · rw [if_neg c_4] at h
    refine zi_iconst (-1) d_NC_feed_12 rfl ?_
    cases h
    exact zo_ret d_NC_feed_13 (Nat.le_of_ble_eq_true rfl) (Nat.le_of_ble_eq_true rfl) rfl
theorem C_NC_feed (n : Nat) (E : zE) (S : zS) (a0 : Nat) (x1 : Int32) (x2 : Int32) (x3 : Int32) (x4 : Int32) (x5 : Int32) (M : zH) (r : Int32) (M' : zH) (h : F_NC_feed n E S a0 x1 x2 x3 x4 x5 M = some (r, M')) : zC E Y_NC_feed [.ref a0, .int x1, .int x2, .int x3, .int x4, .int x5] S M (some (.int r), S, M') :=
  zC.of (Or.inl (show plainName "NightColander" = true by decide)) (Nat.le_of_ble_eq_true rfl) (trivial) (K_NC_feed n E S a0 x1 x2 x3 x4 x5 M r M' h)
theorem d_NC_end_0 : decode (yB Y_NC_end) 0 = .ok (.iload_n 1, 1) := by decide +kernel
theorem d_NC_end_1 : decode (yB Y_NC_end) 1 = .ok (.iconst 0, 1) := by decide +kernel
theorem d_NC_end_2 : decode (yB Y_NC_end) 2 = .ok (.aload_n 0, 1) := by decide +kernel
theorem d_NC_end_3 : decode (yB Y_NC_end) 3 = .ok (.getfield 45, 3) := by decide +kernel
theorem d_NC_end_6 : decode (yB Y_NC_end) 6 = .ok (.getfield 202, 3) := by decide +kernel
theorem d_NC_end_9 : decode (yB Y_NC_end) 9 = .ok (.invokestatic 132, 3) := by decide +kernel
theorem d_NC_end_12 : decode (yB Y_NC_end) 12 = .ok (.ifCond .ne 5, 3) := by decide +kernel
theorem d_NC_end_15 : decode (yB Y_NC_end) 15 = .ok (.iconst (-1), 1) := by decide +kernel
theorem d_NC_end_16 : decode (yB Y_NC_end) 16 = .ok (.ireturn, 1) := by decide +kernel
theorem d_NC_end_17 : decode (yB Y_NC_end) 17 = .ok (.aload_n 0, 1) := by decide +kernel
theorem d_NC_end_18 : decode (yB Y_NC_end) 18 = .ok (.getfield 45, 3) := by decide +kernel
theorem d_NC_end_21 : decode (yB Y_NC_end) 21 = .ok (.iload_n 1, 1) := by decide +kernel
theorem d_NC_end_22 : decode (yB Y_NC_end) 22 = .ok (.putfield 202, 3) := by decide +kernel
theorem d_NC_end_25 : decode (yB Y_NC_end) 25 = .ok (.iload_n 1, 1) := by decide +kernel
theorem d_NC_end_26 : decode (yB Y_NC_end) 26 = .ok (.ireturn, 1) := by decide +kernel
def F_NC_end (n : Nat) (E : zE) (S : zS) (a0 : Nat) (x1 : Int32) (M : zH) : Option (Int32 × zH) :=
  (zgR S a0 10 7).bind fun b_1 =>
  (zgI S M b_1 8 1).bind fun v_2 =>
  (F_NC_within n E S x1 0 v_2 M).bind fun q_3 =>
  if q_3.1 = true then
    (zpI S q_3.2 b_1 8 1 x1).bind fun m_5 =>
    some (x1, m_5)
  else
    some ((-1), q_3.2)
theorem K_NC_end (n : Nat) (E : zE) (S : zS) (a0 : Nat) (x1 : Int32) (M : zH) (r : Int32) (M' : zH)  (h : F_NC_end n E S a0 x1 M = some (r, M')) : zG E Y_NC_end (some (.int r), S, M') 0 [(0, .ref a0), (1, .int x1)] [] S M 0 0 := by
  unfold F_NC_end at h
  refine zi_iload_n 1 d_NC_end_0 rfl ?_
  refine zi_iconst 0 d_NC_end_1 rfl ?_
  refine zi_aload_n 0 d_NC_end_2 rfl ?_
  obtain ⟨b_1, eb_1, h⟩ := zbind h
  refine zo_getR 6 zkd_10 7 d_NC_end_3 eb_1 rfl tw_339 rfl ?_
  obtain ⟨v_2, ev_2, h⟩ := zbind h
  refine zo_getI 9 zkd_8 1 d_NC_end_6 ev_2 rfl tw_154 rfl ?_
  obtain ⟨q_3, eq_3, h⟩ := zbind h
  refine zo_stat (k' := 0) (n' := 0) 12 [.int x1, .int 0, .int v_2] [] [.int (bI q_3.1)] (C_NC_within n E S x1 0 v_2 M q_3.1 q_3.2 eq_3) d_NC_end_9 tw_399 tw_397 tw_398 tw_1 dd_NC_within ⟨Nat.le_of_ble_eq_true rfl, Nat.le_of_ble_eq_true rfl, Nat.le_of_ble_eq_true rfl, Nat.le_of_ble_eq_true rfl⟩ (Nat.le_of_ble_eq_true rfl) rfl rfl rfl rfl ?_
  refine zo_ifneB d_NC_end_12 rfl 15 rfl (fun c_4 => ?_) (fun c_4 => ?_)
  · rw [if_pos c_4] at h
    refine zi_aload_n 0 d_NC_end_17 rfl ?_
    refine zo_getR 21 zkd_10 7 d_NC_end_18 eb_1 rfl tw_339 rfl ?_
    refine zi_iload_n 1 d_NC_end_21 rfl ?_
    obtain ⟨m_5, em_5, h⟩ := zbind h
    refine zo_putI 25 zkd_8 1 d_NC_end_22 em_5 rfl rfl rfl tw_154 rfl ?_
    refine zi_iload_n 1 d_NC_end_25 rfl ?_
    cases h
    exact zo_ret d_NC_end_26 (Nat.le_of_ble_eq_true rfl) (Nat.le_of_ble_eq_true rfl) rfl
  · rw [if_neg c_4] at h
    refine zi_iconst (-1) d_NC_end_15 rfl ?_
    cases h
    exact zo_ret d_NC_end_16 (Nat.le_of_ble_eq_true rfl) (Nat.le_of_ble_eq_true rfl) rfl
theorem C_NC_end (n : Nat) (E : zE) (S : zS) (a0 : Nat) (x1 : Int32) (M : zH) (r : Int32) (M' : zH) (h : F_NC_end n E S a0 x1 M = some (r, M')) : zC E Y_NC_end [.ref a0, .int x1] S M (some (.int r), S, M') :=
  zC.of (Or.inl (show plainName "NightColander" = true by decide)) (Nat.le_of_ble_eq_true rfl) (trivial) (K_NC_end n E S a0 x1 M r M' h)
theorem d_Ta_byteAt_0 : decode (yB Y_Ta_byteAt) 0 = .ok (.iload_n 1, 1) := by decide +kernel
theorem d_Ta_byteAt_1 : decode (yB Y_Ta_byteAt) 1 = .ok (.ifCond .lt 31, 3) := by decide +kernel
theorem d_Ta_byteAt_4 : decode (yB Y_Ta_byteAt) 4 = .ok (.iload_n 1, 1) := by decide +kernel
theorem d_Ta_byteAt_5 : decode (yB Y_Ta_byteAt) 5 = .ok (.aload_n 0, 1) := by decide +kernel
theorem d_Ta_byteAt_6 : decode (yB Y_Ta_byteAt) 6 = .ok (.getfield 15, 3) := by decide +kernel
theorem d_Ta_byteAt_9 : decode (yB Y_Ta_byteAt) 9 = .ok (.if_icmp .ge 23, 3) := by decide +kernel
theorem d_Ta_byteAt_12 : decode (yB Y_Ta_byteAt) 12 = .ok (.iload_n 1, 1) := by decide +kernel
theorem d_Ta_byteAt_13 : decode (yB Y_Ta_byteAt) 13 = .ok (.sipush 400, 3) := by decide +kernel
theorem d_Ta_byteAt_16 : decode (yB Y_Ta_byteAt) 16 = .ok (.if_icmp .ge 16, 3) := by decide +kernel
theorem d_Ta_byteAt_19 : decode (yB Y_Ta_byteAt) 19 = .ok (.aload_n 0, 1) := by decide +kernel
theorem d_Ta_byteAt_20 : decode (yB Y_Ta_byteAt) 20 = .ok (.getfield 11, 3) := by decide +kernel
theorem d_Ta_byteAt_23 : decode (yB Y_Ta_byteAt) 23 = .ok (.iload_n 1, 1) := by decide +kernel
theorem d_Ta_byteAt_24 : decode (yB Y_Ta_byteAt) 24 = .ok (.baload, 1) := by decide +kernel
theorem d_Ta_byteAt_25 : decode (yB Y_Ta_byteAt) 25 = .ok (.sipush 255, 3) := by decide +kernel
theorem d_Ta_byteAt_28 : decode (yB Y_Ta_byteAt) 28 = .ok (.iand, 1) := by decide +kernel
theorem d_Ta_byteAt_29 : decode (yB Y_Ta_byteAt) 29 = .ok (.goto 4, 3) := by decide +kernel
theorem d_Ta_byteAt_32 : decode (yB Y_Ta_byteAt) 32 = .ok (.iconst 0, 1) := by decide +kernel
theorem d_Ta_byteAt_33 : decode (yB Y_Ta_byteAt) 33 = .ok (.ireturn, 1) := by decide +kernel
def F_Ta_byteAt (n : Nat) (E : zE) (S : zS) (a0 : Nat) (x1 : Int32) (M : zH) : Option (Int32 × zH) :=
  if x1 < 0 then
    some (0, M)
  else
    (zgI S M a0 8 1).bind fun v_2 =>
    if v_2 ≤ x1 then
      some (0, M)
    else
      if 400 ≤ x1 then
        some (0, M)
      else
        (zgR S a0 8 0).bind fun b_5 =>
        (zldB S M b_5 x1).bind fun v_6 =>
        some (v_6 &&& (255 : Int32), M)
theorem K_Ta_byteAt (n : Nat) (E : zE) (S : zS) (a0 : Nat) (x1 : Int32) (M : zH) (r : Int32) (M' : zH)  (h : F_Ta_byteAt n E S a0 x1 M = some (r, M')) : zG E Y_Ta_byteAt (some (.int r), S, M') 0 [(0, .ref a0), (1, .int x1)] [] S M 0 0 := by
  unfold F_Ta_byteAt at h
  refine zi_iload_n 1 d_Ta_byteAt_0 rfl ?_
  refine zi_if_lt (tgt := 32) d_Ta_byteAt_1 rfl (fun c_1 => ?_) (fun c_1 => ?_)
  · rw [if_pos c_1] at h
    refine zi_iconst 0 d_Ta_byteAt_32 rfl ?_
    cases h
    exact zo_ret d_Ta_byteAt_33 (Nat.le_of_ble_eq_true rfl) (Nat.le_of_ble_eq_true rfl) rfl
  · rw [if_neg c_1] at h
    refine zi_iload_n 1 d_Ta_byteAt_4 rfl ?_
    refine zi_aload_n 0 d_Ta_byteAt_5 rfl ?_
    obtain ⟨v_2, ev_2, h⟩ := zbind h
    refine zo_getI 9 zkd_8 1 d_Ta_byteAt_6 ev_2 rfl tw_153 rfl ?_
    refine zi_icmp_ge (tgt := 32) d_Ta_byteAt_9 rfl (fun c_3 => ?_) (fun c_3 => ?_)
    · rw [if_pos c_3] at h
      refine zi_iconst 0 d_Ta_byteAt_32 rfl ?_
      cases h
      exact zo_ret d_Ta_byteAt_33 (Nat.le_of_ble_eq_true rfl) (Nat.le_of_ble_eq_true rfl) rfl
    · rw [if_neg c_3] at h
      refine zi_iload_n 1 d_Ta_byteAt_12 rfl ?_
      refine zi_sipush 400 d_Ta_byteAt_13 rfl ?_
      refine zi_icmp_ge (tgt := 32) d_Ta_byteAt_16 rfl (fun c_4 => ?_) (fun c_4 => ?_)
      · rw [if_pos c_4] at h
        refine zi_iconst 0 d_Ta_byteAt_32 rfl ?_
        cases h
        exact zo_ret d_Ta_byteAt_33 (Nat.le_of_ble_eq_true rfl) (Nat.le_of_ble_eq_true rfl) rfl
      · rw [if_neg c_4] at h
        refine zi_aload_n 0 d_Ta_byteAt_19 rfl ?_
        obtain ⟨b_5, eb_5, h⟩ := zbind h
        refine zo_getR 23 zkd_8 0 d_Ta_byteAt_20 eb_5 rfl tw_152 rfl ?_
        refine zi_iload_n 1 d_Ta_byteAt_23 rfl ?_
        obtain ⟨v_6, ev_6, h⟩ := zbind h
        refine zo_bald 25 d_Ta_byteAt_24 ev_6 rfl ?_
        refine zi_sipush 255 d_Ta_byteAt_25 rfl ?_
        refine zi_iand d_Ta_byteAt_28 ?_
        refine zi_goto (tgt := 33) d_Ta_byteAt_29 rfl ?_
        cases h
        exact zo_ret d_Ta_byteAt_33 (Nat.le_of_ble_eq_true rfl) (Nat.le_of_ble_eq_true rfl) rfl
theorem C_Ta_byteAt (n : Nat) (E : zE) (S : zS) (a0 : Nat) (x1 : Int32) (M : zH) (r : Int32) (M' : zH) (h : F_Ta_byteAt n E S a0 x1 M = some (r, M')) : zC E Y_Ta_byteAt [.ref a0, .int x1] S M (some (.int r), S, M') :=
  zC.of (Or.inl (show plainName "NightColander$Tape" = true by decide)) (Nat.le_of_ble_eq_true rfl) (trivial) (K_Ta_byteAt n E S a0 x1 M r M' h)
theorem d_NC_tellHole_0 : decode (yB Y_NC_tellHole) 0 = .ok (.iload_n 1, 1) := by decide +kernel
theorem d_NC_tellHole_1 : decode (yB Y_NC_tellHole) 1 = .ok (.iconst 3, 1) := by decide +kernel
theorem d_NC_tellHole_2 : decode (yB Y_NC_tellHole) 2 = .ok (.iadd, 1) := by decide +kernel
theorem d_NC_tellHole_3 : decode (yB Y_NC_tellHole) 3 = .ok (.aload_n 0, 1) := by decide +kernel
theorem d_NC_tellHole_4 : decode (yB Y_NC_tellHole) 4 = .ok (.getfield 45, 3) := by decide +kernel
theorem d_NC_tellHole_7 : decode (yB Y_NC_tellHole) 7 = .ok (.getfield 202, 3) := by decide +kernel
theorem d_NC_tellHole_10 : decode (yB Y_NC_tellHole) 10 = .ok (.if_icmp .le 5, 3) := by decide +kernel
theorem d_NC_tellHole_13 : decode (yB Y_NC_tellHole) 13 = .ok (.iconst 0, 1) := by decide +kernel
theorem d_NC_tellHole_14 : decode (yB Y_NC_tellHole) 14 = .ok (.ireturn, 1) := by decide +kernel
theorem d_NC_tellHole_15 : decode (yB Y_NC_tellHole) 15 = .ok (.aload_n 0, 1) := by decide +kernel
theorem d_NC_tellHole_16 : decode (yB Y_NC_tellHole) 16 = .ok (.getfield 45, 3) := by decide +kernel
theorem d_NC_tellHole_19 : decode (yB Y_NC_tellHole) 19 = .ok (.iload_n 1, 1) := by decide +kernel
theorem d_NC_tellHole_20 : decode (yB Y_NC_tellHole) 20 = .ok (.invokevirtual 333, 3) := by decide +kernel
theorem d_NC_tellHole_23 : decode (yB Y_NC_tellHole) 23 = .ok (.istore_n 2, 1) := by decide +kernel
theorem d_NC_tellHole_24 : decode (yB Y_NC_tellHole) 24 = .ok (.aload_n 0, 1) := by decide +kernel
theorem d_NC_tellHole_25 : decode (yB Y_NC_tellHole) 25 = .ok (.getfield 45, 3) := by decide +kernel
theorem d_NC_tellHole_28 : decode (yB Y_NC_tellHole) 28 = .ok (.iload_n 1, 1) := by decide +kernel
theorem d_NC_tellHole_29 : decode (yB Y_NC_tellHole) 29 = .ok (.iconst 1, 1) := by decide +kernel
theorem d_NC_tellHole_30 : decode (yB Y_NC_tellHole) 30 = .ok (.iadd, 1) := by decide +kernel
theorem d_NC_tellHole_31 : decode (yB Y_NC_tellHole) 31 = .ok (.invokevirtual 333, 3) := by decide +kernel
theorem d_NC_tellHole_34 : decode (yB Y_NC_tellHole) 34 = .ok (.istore_n 3, 1) := by decide +kernel
theorem d_NC_tellHole_35 : decode (yB Y_NC_tellHole) 35 = .ok (.aload_n 0, 1) := by decide +kernel
theorem d_NC_tellHole_36 : decode (yB Y_NC_tellHole) 36 = .ok (.getfield 45, 3) := by decide +kernel
theorem d_NC_tellHole_39 : decode (yB Y_NC_tellHole) 39 = .ok (.iload_n 1, 1) := by decide +kernel
theorem d_NC_tellHole_40 : decode (yB Y_NC_tellHole) 40 = .ok (.iconst 2, 1) := by decide +kernel
theorem d_NC_tellHole_41 : decode (yB Y_NC_tellHole) 41 = .ok (.iadd, 1) := by decide +kernel
theorem d_NC_tellHole_42 : decode (yB Y_NC_tellHole) 42 = .ok (.invokevirtual 333, 3) := by decide +kernel
theorem d_NC_tellHole_45 : decode (yB Y_NC_tellHole) 45 = .ok (.istore 4, 2) := by decide +kernel
theorem d_NC_tellHole_47 : decode (yB Y_NC_tellHole) 47 = .ok (.iload_n 2, 1) := by decide +kernel
theorem d_NC_tellHole_48 : decode (yB Y_NC_tellHole) 48 = .ok (.invokestatic 111, 3) := by decide +kernel
theorem d_NC_tellHole_51 : decode (yB Y_NC_tellHole) 51 = .ok (.ifCond .eq 21, 3) := by decide +kernel
theorem d_NC_tellHole_54 : decode (yB Y_NC_tellHole) 54 = .ok (.iload_n 3, 1) := by decide +kernel
theorem d_NC_tellHole_55 : decode (yB Y_NC_tellHole) 55 = .ok (.invokestatic 115, 3) := by decide +kernel
theorem d_NC_tellHole_58 : decode (yB Y_NC_tellHole) 58 = .ok (.ifCond .eq 14, 3) := by decide +kernel
theorem d_NC_tellHole_61 : decode (yB Y_NC_tellHole) 61 = .ok (.iload 4, 2) := by decide +kernel
theorem d_NC_tellHole_63 : decode (yB Y_NC_tellHole) 63 = .ok (.iconst 0, 1) := by decide +kernel
theorem d_NC_tellHole_64 : decode (yB Y_NC_tellHole) 64 = .ok (.bipush 9, 2) := by decide +kernel
theorem d_NC_tellHole_66 : decode (yB Y_NC_tellHole) 66 = .ok (.invokestatic 132, 3) := by decide +kernel
theorem d_NC_tellHole_69 : decode (yB Y_NC_tellHole) 69 = .ok (.ifCond .ne 5, 3) := by decide +kernel
theorem d_NC_tellHole_72 : decode (yB Y_NC_tellHole) 72 = .ok (.iconst 0, 1) := by decide +kernel
theorem d_NC_tellHole_73 : decode (yB Y_NC_tellHole) 73 = .ok (.ireturn, 1) := by decide +kernel
theorem d_NC_tellHole_74 : decode (yB Y_NC_tellHole) 74 = .ok (.aload_n 0, 1) := by decide +kernel
theorem d_NC_tellHole_75 : decode (yB Y_NC_tellHole) 75 = .ok (.getfield 12, 3) := by decide +kernel
theorem d_NC_tellHole_78 : decode (yB Y_NC_tellHole) 78 = .ok (.getfield 118, 3) := by decide +kernel
theorem d_NC_tellHole_81 : decode (yB Y_NC_tellHole) 81 = .ok (.iload_n 2, 1) := by decide +kernel
theorem d_NC_tellHole_82 : decode (yB Y_NC_tellHole) 82 = .ok (.bipush 8, 2) := by decide +kernel
theorem d_NC_tellHole_84 : decode (yB Y_NC_tellHole) 84 = .ok (.imul, 1) := by decide +kernel
theorem d_NC_tellHole_85 : decode (yB Y_NC_tellHole) 85 = .ok (.iload_n 3, 1) := by decide +kernel
theorem d_NC_tellHole_86 : decode (yB Y_NC_tellHole) 86 = .ok (.iadd, 1) := by decide +kernel
theorem d_NC_tellHole_87 : decode (yB Y_NC_tellHole) 87 = .ok (.iload 4, 2) := by decide +kernel
theorem d_NC_tellHole_89 : decode (yB Y_NC_tellHole) 89 = .ok (.iastore, 1) := by decide +kernel
theorem d_NC_tellHole_90 : decode (yB Y_NC_tellHole) 90 = .ok (.aload_n 0, 1) := by decide +kernel
theorem d_NC_tellHole_91 : decode (yB Y_NC_tellHole) 91 = .ok (.getfield 12, 3) := by decide +kernel
theorem d_NC_tellHole_94 : decode (yB Y_NC_tellHole) 94 = .ok (.getfield 121, 3) := by decide +kernel
theorem d_NC_tellHole_97 : decode (yB Y_NC_tellHole) 97 = .ok (.iload_n 2, 1) := by decide +kernel
theorem d_NC_tellHole_98 : decode (yB Y_NC_tellHole) 98 = .ok (.bipush 8, 2) := by decide +kernel
theorem d_NC_tellHole_100 : decode (yB Y_NC_tellHole) 100 = .ok (.imul, 1) := by decide +kernel
theorem d_NC_tellHole_101 : decode (yB Y_NC_tellHole) 101 = .ok (.iload_n 3, 1) := by decide +kernel
theorem d_NC_tellHole_102 : decode (yB Y_NC_tellHole) 102 = .ok (.iadd, 1) := by decide +kernel
theorem d_NC_tellHole_103 : decode (yB Y_NC_tellHole) 103 = .ok (.iconst 0, 1) := by decide +kernel
theorem d_NC_tellHole_104 : decode (yB Y_NC_tellHole) 104 = .ok (.bastore, 1) := by decide +kernel
theorem d_NC_tellHole_105 : decode (yB Y_NC_tellHole) 105 = .ok (.iconst 1, 1) := by decide +kernel
theorem d_NC_tellHole_106 : decode (yB Y_NC_tellHole) 106 = .ok (.ireturn, 1) := by decide +kernel
def F_NC_tellHole (n : Nat) (E : zE) (S : zS) (a0 : Nat) (x1 : Int32) (M : zH) : Option (Bool × zH) :=
  (zgR S a0 10 7).bind fun b_1 =>
  (zgI S M b_1 8 1).bind fun v_2 =>
  if (x1 + 3) ≤ v_2 then
    (F_Ta_byteAt n E S b_1 x1 M).bind fun q_4 =>
    (F_Ta_byteAt n E S b_1 (x1 + 1) q_4.2).bind fun q_5 =>
    (F_Ta_byteAt n E S b_1 (x1 + 2) q_5.2).bind fun q_6 =>
    (F_NC_isRing n E S q_4.1 q_6.2).bind fun q_7 =>
    if q_7.1 = true then
      (F_NC_isHole n E S q_5.1 q_7.2).bind fun q_9 =>
      if q_9.1 = true then
        (F_NC_within n E S q_6.1 0 9 q_9.2).bind fun q_11 =>
        if q_11.1 = true then
          (zgR S a0 10 0).bind fun b_13 =>
          (zgR S b_13 3 0).bind fun b_14 =>
          (zstI S q_11.2 b_14 ((q_4.1 * 8) + q_5.1) q_6.1).bind fun m_15 =>
          (zgR S b_13 3 1).bind fun b_16 =>
          (zstZ S m_15 b_16 ((q_4.1 * 8) + q_5.1) 0).bind fun m_17 =>
          some (true, m_17)
        else
          some (false, q_11.2)
      else
        some (false, q_9.2)
    else
      some (false, q_7.2)
  else
    some (false, M)
theorem K_NC_tellHole (n : Nat) (E : zE) (S : zS) (a0 : Nat) (x1 : Int32) (M : zH) (r : Bool) (M' : zH)  (h : F_NC_tellHole n E S a0 x1 M = some (r, M')) : zG E Y_NC_tellHole (some (.int (bI r)), S, M') 0 [(0, .ref a0), (1, .int x1)] [] S M 0 0 := by
  unfold F_NC_tellHole at h
  refine zi_iload_n 1 d_NC_tellHole_0 rfl ?_
  refine zi_iconst 3 d_NC_tellHole_1 rfl ?_
  refine zi_iadd d_NC_tellHole_2 ?_
  refine zi_aload_n 0 d_NC_tellHole_3 rfl ?_
  obtain ⟨b_1, eb_1, h⟩ := zbind h
  refine zo_getR 7 zkd_10 7 d_NC_tellHole_4 eb_1 rfl tw_339 rfl ?_
  obtain ⟨v_2, ev_2, h⟩ := zbind h
  refine zo_getI 10 zkd_8 1 d_NC_tellHole_7 ev_2 rfl tw_154 rfl ?_
  refine zi_icmp_le (tgt := 15) d_NC_tellHole_10 rfl (fun c_3 => ?_) (fun c_3 => ?_)
  · rw [if_pos c_3] at h
    refine zi_aload_n 0 d_NC_tellHole_15 rfl ?_
    refine zo_getR 19 zkd_10 7 d_NC_tellHole_16 eb_1 rfl tw_339 rfl ?_
    refine zi_iload_n 1 d_NC_tellHole_19 rfl ?_
    obtain ⟨q_4, eq_4, h⟩ := zbind h
    refine zo_virt (k' := 0) (n' := 0) 23 [.int x1] [] [.int q_4.1] zkd_8 (zgI_s ev_2).1 (C_Ta_byteAt n E S b_1 x1 M q_4.1 q_4.2 eq_4) d_NC_tellHole_20 tw_551 tw_548 tw_549 tw_550 tw_5 dd_Ta_byteAt ⟨Nat.le_of_ble_eq_true rfl, Nat.le_of_ble_eq_true rfl, Nat.le_of_ble_eq_true rfl, Nat.le_of_ble_eq_true rfl⟩ (Nat.le_of_ble_eq_true rfl) rfl rfl rfl rfl ?_
    refine zi_istore_n [(2, .int q_4.1), (0, .ref a0), (1, .int x1)] d_NC_tellHole_23 (by decide) rfl ?_
    refine zi_aload_n 1 d_NC_tellHole_24 rfl ?_
    refine zo_getR 28 zkd_10 7 d_NC_tellHole_25 eb_1 rfl tw_339 rfl ?_
    refine zi_iload_n 2 d_NC_tellHole_28 rfl ?_
    refine zi_iconst 1 d_NC_tellHole_29 rfl ?_
    refine zi_iadd d_NC_tellHole_30 ?_
    obtain ⟨q_5, eq_5, h⟩ := zbind h
    refine zo_virt (k' := 0) (n' := 0) 34 [.int (x1 + 1)] [] [.int q_5.1] zkd_8 (zgI_s ev_2).1 (C_Ta_byteAt n E S b_1 (x1 + 1) q_4.2 q_5.1 q_5.2 eq_5) d_NC_tellHole_31 tw_551 tw_548 tw_549 tw_550 tw_5 dd_Ta_byteAt ⟨Nat.le_of_ble_eq_true rfl, Nat.le_of_ble_eq_true rfl, Nat.le_of_ble_eq_true rfl, Nat.le_of_ble_eq_true rfl⟩ (Nat.le_of_ble_eq_true rfl) rfl rfl rfl rfl ?_
    refine zi_istore_n [(3, .int q_5.1), (2, .int q_4.1), (0, .ref a0), (1, .int x1)] d_NC_tellHole_34 (by decide) rfl ?_
    refine zi_aload_n 2 d_NC_tellHole_35 rfl ?_
    refine zo_getR 39 zkd_10 7 d_NC_tellHole_36 eb_1 rfl tw_339 rfl ?_
    refine zi_iload_n 3 d_NC_tellHole_39 rfl ?_
    refine zi_iconst 2 d_NC_tellHole_40 rfl ?_
    refine zi_iadd d_NC_tellHole_41 ?_
    obtain ⟨q_6, eq_6, h⟩ := zbind h
    refine zo_virt (k' := 0) (n' := 0) 45 [.int (x1 + 2)] [] [.int q_6.1] zkd_8 (zgI_s ev_2).1 (C_Ta_byteAt n E S b_1 (x1 + 2) q_5.2 q_6.1 q_6.2 eq_6) d_NC_tellHole_42 tw_551 tw_548 tw_549 tw_550 tw_5 dd_Ta_byteAt ⟨Nat.le_of_ble_eq_true rfl, Nat.le_of_ble_eq_true rfl, Nat.le_of_ble_eq_true rfl, Nat.le_of_ble_eq_true rfl⟩ (Nat.le_of_ble_eq_true rfl) rfl rfl rfl rfl ?_
    refine zi_istore [(4, .int q_6.1), (3, .int q_5.1), (2, .int q_4.1), (0, .ref a0), (1, .int x1)] d_NC_tellHole_45 (by decide) rfl ?_
    refine zi_iload_n 2 d_NC_tellHole_47 rfl ?_
    obtain ⟨q_7, eq_7, h⟩ := zbind h
    refine zo_stat (k' := 0) (n' := 0) 51 [.int q_4.1] [] [.int (bI q_7.1)] (C_NC_isRing n E S q_4.1 q_6.2 q_7.1 q_7.2 eq_7) d_NC_tellHole_48 tw_396 tw_394 tw_395 tw_1 dd_NC_isRing ⟨Nat.le_of_ble_eq_true rfl, Nat.le_of_ble_eq_true rfl, Nat.le_of_ble_eq_true rfl, Nat.le_of_ble_eq_true rfl⟩ (Nat.le_of_ble_eq_true rfl) rfl rfl rfl rfl ?_
    refine zo_ifeqB d_NC_tellHole_51 rfl 54 rfl (fun c_8 => ?_) (fun c_8 => ?_)
    · rw [if_neg c_8] at h
      refine zi_iconst 0 d_NC_tellHole_72 rfl ?_
      cases h
      exact zo_retB d_NC_tellHole_73 (Nat.le_of_ble_eq_true rfl) (Nat.le_of_ble_eq_true rfl) rfl
    · rw [if_pos c_8] at h
      refine zi_iload_n 1 d_NC_tellHole_54 rfl ?_
      obtain ⟨q_9, eq_9, h⟩ := zbind h
      refine zo_stat (k' := 0) (n' := 0) 58 [.int q_5.1] [] [.int (bI q_9.1)] (C_NC_isHole n E S q_5.1 q_7.2 q_9.1 q_9.2 eq_9) d_NC_tellHole_55 tw_402 tw_400 tw_401 tw_1 dd_NC_isHole ⟨Nat.le_of_ble_eq_true rfl, Nat.le_of_ble_eq_true rfl, Nat.le_of_ble_eq_true rfl, Nat.le_of_ble_eq_true rfl⟩ (Nat.le_of_ble_eq_true rfl) rfl rfl rfl rfl ?_
      refine zo_ifeqB d_NC_tellHole_58 rfl 61 rfl (fun c_10 => ?_) (fun c_10 => ?_)
      · rw [if_neg c_10] at h
        refine zi_iconst 0 d_NC_tellHole_72 rfl ?_
        cases h
        exact zo_retB d_NC_tellHole_73 (Nat.le_of_ble_eq_true rfl) (Nat.le_of_ble_eq_true rfl) rfl
      · rw [if_pos c_10] at h
        refine zi_iload 0 d_NC_tellHole_61 rfl ?_
        refine zi_iconst 0 d_NC_tellHole_63 rfl ?_
        refine zi_bipush 9 d_NC_tellHole_64 rfl ?_
        obtain ⟨q_11, eq_11, h⟩ := zbind h
        refine zo_stat (k' := 0) (n' := 0) 69 [.int q_6.1, .int 0, .int 9] [] [.int (bI q_11.1)] (C_NC_within n E S q_6.1 0 9 q_9.2 q_11.1 q_11.2 eq_11) d_NC_tellHole_66 tw_399 tw_397 tw_398 tw_1 dd_NC_within ⟨Nat.le_of_ble_eq_true rfl, Nat.le_of_ble_eq_true rfl, Nat.le_of_ble_eq_true rfl, Nat.le_of_ble_eq_true rfl⟩ (Nat.le_of_ble_eq_true rfl) rfl rfl rfl rfl ?_
        refine zo_ifneB d_NC_tellHole_69 rfl 72 rfl (fun c_12 => ?_) (fun c_12 => ?_)
        · rw [if_pos c_12] at h
          refine zi_aload_n 3 d_NC_tellHole_74 rfl ?_
          obtain ⟨b_13, eb_13, h⟩ := zbind h
          refine zo_getR 78 zkd_10 0 d_NC_tellHole_75 eb_13 rfl tw_332 rfl ?_
          obtain ⟨b_14, eb_14, h⟩ := zbind h
          refine zo_getR 81 zkd_3 0 d_NC_tellHole_78 eb_14 rfl tw_43 rfl ?_
          refine zi_iload_n 2 d_NC_tellHole_81 rfl ?_
          refine zi_bipush 8 d_NC_tellHole_82 rfl ?_
          refine zi_imul d_NC_tellHole_84 ?_
          refine zi_iload_n 1 d_NC_tellHole_85 rfl ?_
          refine zi_iadd d_NC_tellHole_86 ?_
          refine zi_iload 0 d_NC_tellHole_87 rfl ?_
          obtain ⟨m_15, em_15, h⟩ := zbind h
          refine zo_iast 90 d_NC_tellHole_89 em_15 rfl ?_
          refine zi_aload_n 3 d_NC_tellHole_90 rfl ?_
          refine zo_getR 94 zkd_10 0 d_NC_tellHole_91 eb_13 rfl tw_332 rfl ?_
          obtain ⟨b_16, eb_16, h⟩ := zbind h
          refine zo_getR 97 zkd_3 1 d_NC_tellHole_94 eb_16 rfl tw_47 rfl ?_
          refine zi_iload_n 2 d_NC_tellHole_97 rfl ?_
          refine zi_bipush 8 d_NC_tellHole_98 rfl ?_
          refine zi_imul d_NC_tellHole_100 ?_
          refine zi_iload_n 1 d_NC_tellHole_101 rfl ?_
          refine zi_iadd d_NC_tellHole_102 ?_
          refine zi_iconst 0 d_NC_tellHole_103 rfl ?_
          obtain ⟨m_17, em_17, h⟩ := zbind h
          refine zo_zast 105 d_NC_tellHole_104 em_17 rfl ?_
          refine zi_iconst 1 d_NC_tellHole_105 rfl ?_
          cases h
          exact zo_retB d_NC_tellHole_106 (Nat.le_of_ble_eq_true rfl) (Nat.le_of_ble_eq_true rfl) rfl
        · rw [if_neg c_12] at h
          refine zi_iconst 0 d_NC_tellHole_72 rfl ?_
          cases h
          exact zo_retB d_NC_tellHole_73 (Nat.le_of_ble_eq_true rfl) (Nat.le_of_ble_eq_true rfl) rfl
  · rw [if_neg c_3] at h
    refine zi_iconst 0 d_NC_tellHole_13 rfl ?_
    cases h
    exact zo_retB d_NC_tellHole_14 (Nat.le_of_ble_eq_true rfl) (Nat.le_of_ble_eq_true rfl) rfl
theorem C_NC_tellHole (n : Nat) (E : zE) (S : zS) (a0 : Nat) (x1 : Int32) (M : zH) (r : Bool) (M' : zH) (h : F_NC_tellHole n E S a0 x1 M = some (r, M')) : zC E Y_NC_tellHole [.ref a0, .int x1] S M (some (.int (bI r)), S, M') :=
  zC.of (Or.inl (show plainName "NightColander" = true by decide)) (Nat.le_of_ble_eq_true rfl) (bI_nar r) (K_NC_tellHole n E S a0 x1 M r M' h)
